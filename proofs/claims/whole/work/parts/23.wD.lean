noncomputable def f_Fi_layNothing  (s0 : SS) : OO :=
  os (si s0 61 5 0) fun s1 =>
  some (0, s1)
noncomputable def f_Fi_lay (a1 : Int) (s0 : SS) : OO :=
  if (gi s0 61 5) < 0 then (
    some (0, s0))
  else (
    if 12 ≤ (gi s0 61 5) then (
      some (0, s0))
    else (
      oc (0 ≤ gi s0 61 5 ∧ gi s0 61 5 < 12) <|
      os (si s0 65 ((gi s0 61 5).toNat) a1) fun s6 =>
      os (si s6 61 5 (iw ((gi s6 61 5) + 1))) fun s7 =>
      some (0, s7)))
noncomputable def f_Fi_tellLying (a1 : Int) (s0 : SS) : OO :=
  if a1 < 0 then (
    some ((-1), s0))
  else (
    if (gi s0 61 5) ≤ a1 then (
      some ((-1), s0))
    else (
      if 12 ≤ a1 then (
        some ((-1), s0))
      else (
        oc (0 ≤ a1 ∧ a1 < 12) <|
        some (gi s0 65 ((a1).toNat), s0))))
noncomputable def j_Fi_lookHowFar_24 (self2 : Int → SS → OO) (x1 : Int) (x2 : Int) (z1 : Int) (z2 : Int) (s0 : SS) : OO :=
  oc (0 ≤ z1 ∧ z1 < 8) <|
  os (si s0 66 ((z1).toNat) z2) fun s2 =>
  self2 (iw (x2 + 1)) s2
noncomputable def l_Fi_lookHowFar_41 (self33 : Int → SS → OO) (y2 : Int) : Nat → Int → SS → OO
  | 0, _, _ => none
  | fu + 1, x3, s0 =>
    if (gi s0 2 4) ≤ x3 then (
      self33 (iw (y2 + 1)) s0)
    else (
      if 14 ≤ x3 then (
        self33 (iw (y2 + 1)) s0)
      else (
        oc (0 ≤ x3 ∧ x3 < 14) <|
        ol (gi s0 6 ((x3).toNat)) fun x7_ =>
        oc (0 ≤ x3 ∧ x3 < 14) <|
        ol (gi s0 7 ((x3).toNat)) fun x11_ =>
        ob (f_La_isPlace 2 x7_ s0) fun r13 s13 =>
        if r13 = 0 then (
          (l_Fi_lookHowFar_41 self33 y2 fu) (iw (x3 + 1)) s13)
        else (
          ob (f_La_isPlace 2 x11_ s13) fun r16 s16 =>
          if r16 = 0 then (
            (l_Fi_lookHowFar_41 self33 y2 fu) (iw (x3 + 1)) s16)
          else (
            oc (0 ≤ x7_ ∧ x7_ < 8) <|
            oc (0 ≤ x11_ ∧ x11_ < 8) <|
            oc (0 ≤ x3 ∧ x3 < 14) <|
            oc (0 ≤ x7_ ∧ x7_ < 8) <|
            os (si s16 66 ((x7_).toNat) (zmin (gi s16 66 ((x7_).toNat)) (iw ((gi s16 66 ((x11_).toNat)) + (gi s16 8 ((x3).toNat)))))) fun s27 =>
            oc (0 ≤ x11_ ∧ x11_ < 8) <|
            oc (0 ≤ x7_ ∧ x7_ < 8) <|
            oc (0 ≤ x3 ∧ x3 < 14) <|
            oc (0 ≤ x11_ ∧ x11_ < 8) <|
            os (si s27 66 ((x11_).toNat) (zmin (gi s27 66 ((x11_).toNat)) (iw ((gi s27 66 ((x7_).toNat)) + (gi s27 8 ((x3).toNat)))))) fun s37 =>
            (l_Fi_lookHowFar_41 self33 y2 fu) (iw (x3 + 1)) s37))))
noncomputable def l_Fi_lookHowFar_33  : Nat → Int → SS → OO
  | 0, _, _ => none
  | fu + 1, x2, s0 =>
    if 8 ≤ x2 then (
      some (0, s0))
    else (
      l_Fi_lookHowFar_41 (l_Fi_lookHowFar_33 fu) x2 FU 0 s0)
noncomputable def l_Fi_lookHowFar_2 (y1 : Int) : Nat → Int → SS → OO
  | 0, _, _ => none
  | fu + 1, x2, s0 =>
    if 8 ≤ x2 then (
      l_Fi_lookHowFar_33 FU 0 s0)
    else (
      if x2 = y1 then (
        j_Fi_lookHowFar_24 (l_Fi_lookHowFar_2 y1 fu) y1 x2 x2 0 s0)
      else (
        j_Fi_lookHowFar_24 (l_Fi_lookHowFar_2 y1 fu) y1 x2 x2 1000000 s0))
noncomputable def f_Fi_lookHowFar (a1 : Int) (s0 : SS) : OO :=
  l_Fi_lookHowFar_2 a1 FU 0 s0
noncomputable def l_Fi_firstWayNearer_2 (y1 : Int) : Nat → Int → SS → OO
  | 0, _, _ => none
  | fu + 1, x2, s0 =>
    if (gi s0 2 4) ≤ x2 then (
      some ((-1), s0))
    else (
      if 14 ≤ x2 then (
        some ((-1), s0))
      else (
        ob (f_La_otherEnd 2 x2 y1 s0) fun r5 s5 =>
        ob (f_La_isPlace 2 y1 s5) fun r7 s7 =>
        if r7 = 0 then (
          (l_Fi_firstWayNearer_2 y1 fu) (iw (x2 + 1)) s7)
        else (
          ob (f_La_isPlace 2 r5 s7) fun r10 s10 =>
          if r10 = 0 then (
            (l_Fi_firstWayNearer_2 y1 fu) (iw (x2 + 1)) s10)
          else (
            oc (0 ≤ r5 ∧ r5 < 8) <|
            oc (0 ≤ x2 ∧ x2 < 14) <|
            oc (0 ≤ y1 ∧ y1 < 8) <|
            if (iw ((gi s10 66 ((r5).toNat)) + (gi s10 8 ((x2).toNat)))) = (gi s10 66 ((y1).toNat)) then (
              some (x2, s10))
            else (
              (l_Fi_firstWayNearer_2 y1 fu) (iw (x2 + 1)) s10)))))
noncomputable def f_Fi_firstWayNearer (a1 : Int) (s0 : SS) : OO :=
  l_Fi_firstWayNearer_2 a1 FU 0 s0
noncomputable def j_Fi_findPath_98  (x1 : Int) (s0 : SS) : OO :=
  oc (0 ≤ x1 ∧ x1 < 8) <|
  some (gi s0 66 ((x1).toNat), s0)
noncomputable def l_Fi_findPath_52 (y1 : Int) (y2 : Int) : Nat → Int → SS → OO
  | 0, _, _ => none
  | fu + 1, x3, s0 =>
    if 8 ≤ x3 then (
      j_Fi_findPath_98 y1 s0)
    else (
      if (gi s0 62 3) = y2 then (
        j_Fi_findPath_98 y1 s0)
      else (
        ob (f_Fi_firstWayNearer (gi s0 62 3) s0) fun r7 s7 =>
        ob (f_Ro_append 62 2 r7 s7) fun r8 s8 =>
        (l_Fi_findPath_52 y1 y2 fu) (iw (x3 + 1)) s8))
noncomputable def f_Fi_findPath (a1 : Int) (a2 : Int) (s0 : SS) : OO :=
  ob (f_La_isPlace 2 a1 s0) fun r2 s2 =>
  if r2 = 0 then (
    some ((-1), s2))
  else (
    ob (f_La_isPlace 2 a2 s2) fun r5 s5 =>
    if r5 = 0 then (
      some ((-1), s5))
    else (
      ob (f_Fi_lookHowFar a2 s5) fun r7 s7 =>
      oc (0 ≤ a1 ∧ a1 < 8) <|
      if (gi s7 66 ((a1).toNat)) < 1000000 then (
        ob (f_Ro_reset 62 a1 s7) fun r12 s12 =>
        l_Fi_findPath_52 a1 a2 FU 0 s12)
      else (
        some ((-1), s7))))
noncomputable def l_Fi_layShortest_21 (y3 : Int) : Nat → Int → SS → OO
  | 0, _, _ => none
  | fu + 1, x4, s0 =>
    if (gi s0 62 2) ≤ x4 then (
      some (y3, s0))
    else (
      if 12 ≤ x4 then (
        some (y3, s0))
      else (
        oc (0 ≤ x4 ∧ x4 < 12) <|
        ob (f_Fi_lay (gi s0 63 ((x4).toNat)) s0) fun r7 s7 =>
        (l_Fi_layShortest_21 y3 fu) (iw (x4 + 1)) s7))
noncomputable def f_Fi_layShortest (a1 : Int) (a2 : Int) (s0 : SS) : OO :=
  ob (f_Fi_layNothing s0) fun r1 s1 =>
  ob (f_Fi_findPath a1 a2 s1) fun r2 s2 =>
  if r2 = (-1) then (
    some ((-1), s2))
  else (
    l_Fi_layShortest_21 r2 FU 0 s2)
noncomputable def f_Fi_endsJustBehindPath (a1 : Int) (s0 : SS) : OO :=
  ob (f_St_begin 75 a1 s0) fun r2 s2 =>
  ob (f_St_goOn 75 47 62 s2) fun r6 s6 =>
  if r6 = 0 then (
    some (0, s6))
  else (
    ob (f_St_isAtEnd 75 62 s6) fun r10 s10 =>
    if r10 = 0 then (
      some (0, s10))
    else (
      some (1, s10)))
noncomputable def l_Fi_laySent_21  : Nat → Int → Int → SS → OO
  | 0, _, _, _ => none
  | fu + 1, x3, x4, s0 =>
    if 600 ≤ x4 then (
      some (x3, s0))
    else (
      ob (f_La_isCouple 2 x4 s0) fun r3 s3 =>
      if r3 = 0 then (
        (l_Fi_laySent_21 fu) x3 (iw (x4 + 1)) s3)
      else (
        ob (f_Fi_endsJustBehindPath x4 s3) fun r5 s5 =>
        if r5 = 0 then (
          (l_Fi_laySent_21 fu) x3 (iw (x4 + 1)) s5)
        else (
          if x3 = 0 then (
            ob (f_Fi_lay (Int.tdiv x4 100) s5) fun r8 s8 =>
            ob (f_Fi_lay (Int.tmod (Int.tdiv x4 10) 10) s8) fun r9 s9 =>
            ob (f_Fi_lay (Int.tmod x4 10) s9) fun r10 s10 =>
            (l_Fi_laySent_21 fu) (iw (x3 + 1)) (iw (x4 + 1)) s10)
          else (
            (l_Fi_laySent_21 fu) (iw (x3 + 1)) (iw (x4 + 1)) s5))))
noncomputable def f_Fi_laySent (a1 : Int) (a2 : Int) (s0 : SS) : OO :=
  ob (f_Fi_layNothing s0) fun r1 s1 =>
  ob (f_Fi_findPath a1 a2 s1) fun r2 s2 =>
  if r2 = (-1) then (
    some ((-1), s2))
  else (
    l_Fi_laySent_21 FU 0 0 s2)
noncomputable def j_Fi_setPath_40  (x1 : Int) (z1 : Int) (s0 : SS) : OO :=
  ob (f_Ro_reset 62 z1 s0) fun r1 s1 =>
  ob (f_Ro_append 62 2 x1 s1) fun r4 s4 =>
  some (0, s4)
noncomputable def f_Fi_setPath (a1 : Int) (a2 : Int) (s0 : SS) : OO :=
  ob (f_La_isWay 2 a1 s0) fun r2 s2 =>
  if r2 = 0 then (
    some (0, s2))
  else (
    if a2 = 0 then (
      oc (0 ≤ a1 ∧ a1 < 14) <|
      j_Fi_setPath_40 a1 (gi s2 6 ((a1).toNat)) s2)
    else (
      oc (0 ≤ a1 ∧ a1 < 14) <|
      j_Fi_setPath_40 a1 (gi s2 7 ((a1).toNat)) s2))
noncomputable def l_Fi_measurePath_10 (y1 : Int) : Nat → Int → SS → OO
  | 0, _, _ => none
  | fu + 1, x2, s0 =>
    if 1000000 ≤ x2 then (
      some (x2, s0))
    else (
      ob (f_St_goOn 75 47 62 s0) fun r5 s5 =>
      if r5 = 0 then (
        some (x2, s5))
      else (
        ob (f_St_isAtEnd 75 62 s5) fun r9 s9 =>
        if r9 = 0 then (
          ob (f_Ta_begin 76 y1 s9) fun r13 s13 =>
          (l_Fi_measurePath_10 y1 fu) (iw (x2 + 1)) s13)
        else (
          some (x2, s9))))
noncomputable def f_Fi_measurePath (a1 : Int) (s0 : SS) : OO :=
  ob (f_St_begin 75 a1 s0) fun r2 s2 =>
  l_Fi_measurePath_10 a1 FU 1 s2
noncomputable def l_Fi_countAdding_5 (y1 : Int) (y2 : Int) : Nat → Int → Int → SS → OO
  | 0, _, _, _ => none
  | fu + 1, x3, x4, s0 =>
    if 600 ≤ x4 then (
      some (x3, s0))
    else (
      ob (f_La_isCouple 2 x4 s0) fun r3 s3 =>
      if r3 = 0 then (
        (l_Fi_countAdding_5 y1 y2 fu) x3 (iw (x4 + 1)) s3)
      else (
        ob (f_Fi_setPath y1 0 s3) fun r5 s5 =>
        ob (f_Fi_measurePath x4 s5) fun r6 s6 =>
        ob (f_Fi_setPath y2 0 s6) fun r7 s7 =>
        ob (f_Fi_measurePath x4 s7) fun r8 s8 =>
        ol (iw (r6 + r8)) fun x9_ =>
        ob (f_Fi_setPath y1 0 s8) fun r10 s10 =>
        ob (f_Ro_append 62 2 y2 s10) fun r13 s13 =>
        ob (f_Fi_measurePath x4 s13) fun r14 s14 =>
        if r14 = x9_ then (
          (l_Fi_countAdding_5 y1 y2 fu) (iw (x3 + 1)) (iw (x4 + 1)) s14)
        else (
          (l_Fi_countAdding_5 y1 y2 fu) x3 (iw (x4 + 1)) s14)))
noncomputable def f_Fi_countAdding (a1 : Int) (a2 : Int) (s0 : SS) : OO :=
  l_Fi_countAdding_5 a1 a2 FU 0 0 s0
noncomputable def j_Fi_countFair_82 (self4 : Int → Int → SS → OO) (x1 : Int) (x2 : Int) (x3 : Int) (s0 : SS) : OO :=
  if x3 = 0 then (
    self4 x1 (iw (x2 + 1)) s0)
  else (
    self4 (iw (x1 + 1)) (iw (x2 + 1)) s0)
noncomputable def l_Fi_countFair_23 (self4 : Int → Int → SS → OO) (y1 : Int) (y2 : Int) : Nat → Int → Int → SS → OO
  | 0, _, _, _ => none
  | fu + 1, x3, x4, s0 =>
    if (gi s0 2 4) ≤ x4 then (
      j_Fi_countFair_82 self4 y1 y2 x3 s0)
    else (
      if x3 = 0 then (
        j_Fi_countFair_82 self4 y1 y2 x3 s0)
      else (
        ob (f_Fi_setPath x4 0 s0) fun r4 s4 =>
        ob (f_Fi_measurePath y2 s4) fun r5 s5 =>
        ob (f_Fi_setPath x4 1 s5) fun r6 s6 =>
        ob (f_Fi_measurePath y2 s6) fun r7 s7 =>
        if r7 = r5 then (
          (l_Fi_countFair_23 self4 y1 y2 fu) 1 (iw (x4 + 1)) s7)
        else (
          (l_Fi_countFair_23 self4 y1 y2 fu) 0 (iw (x4 + 1)) s7)))
noncomputable def l_Fi_countFair_4  : Nat → Int → Int → SS → OO
  | 0, _, _, _ => none
  | fu + 1, x1, x2, s0 =>
    if 600 ≤ x2 then (
      some (x1, s0))
    else (
      ob (f_La_isCouple 2 x2 s0) fun r3 s3 =>
      l_Fi_countFair_23 (l_Fi_countFair_4 fu) x1 x2 FU r3 0 s3)
noncomputable def f_Fi_countFair  (s0 : SS) : OO :=
  l_Fi_countFair_4 FU 0 0 s0
noncomputable def j_Fi_lookForEndings_66 (self7 : Int → SS → OO) (x1 : Int) (x2 : Int) (s0 : SS) : OO :=
  if x2 = 0 then (
    self7 (iw (x1 + 1)) s0)
  else (
    if 180 ≤ (gi s0 61 9) then (
      self7 (iw (x1 + 1)) s0)
    else (
      oc (0 ≤ gi s0 61 9 ∧ gi s0 61 9 < 180) <|
      os (si s0 67 ((gi s0 61 9).toNat) x1) fun s5 =>
      oc (0 ≤ gi s5 61 9 ∧ gi s5 61 9 < 180) <|
      os (si s5 68 ((gi s5 61 9).toNat) x2) fun s8 =>
      os (si s8 61 9 (iw ((gi s8 61 9) + 1))) fun s9 =>
      self7 (iw (x1 + 1)) s9))
noncomputable def l_Fi_lookForEndings_18 (self7 : Int → SS → OO) (y1 : Int) : Nat → Int → Int → SS → OO
  | 0, _, _, _ => none
  | fu + 1, x2, x3, s0 =>
    if (gi s0 2 4) ≤ x3 then (
      j_Fi_lookForEndings_66 self7 y1 x2 s0)
    else (
      ob (f_La_isCouple 2 y1 s0) fun r4 s4 =>
      if r4 = 0 then (
        j_Fi_lookForEndings_66 self7 y1 x2 s4)
      else (
        ob (f_Fi_setPath x3 0 s4) fun r6 s6 =>
        ob (f_Fi_endsJustBehindPath y1 s6) fun r7 s7 =>
        if r7 = 0 then (
          (l_Fi_lookForEndings_18 self7 y1 fu) x2 (iw (x3 + 1)) s7)
        else (
          ol (zor x2 (zshl 1 x3)) fun x9_ =>
          (l_Fi_lookForEndings_18 self7 y1 fu) x9_ (iw (x3 + 1)) s7)))
noncomputable def l_Fi_lookForEndings_7  : Nat → Int → SS → OO
  | 0, _, _ => none
  | fu + 1, x1, s0 =>
    if 600 ≤ x1 then (
      some (0, s0))
    else (
      l_Fi_lookForEndings_18 (l_Fi_lookForEndings_7 fu) x1 FU 0 0 s0)
noncomputable def f_Fi_lookForEndings  (s0 : SS) : OO :=
  os (si s0 61 9 0) fun s1 =>
  l_Fi_lookForEndings_7 FU 0 s1
noncomputable def l_Fi_firstCovering_19 (y2 : Int) (y3 : Int) : Nat → Int → SS → OO
  | 0, _, _ => none
  | fu + 1, x4, s0 =>
    if (gi s0 61 9) ≤ x4 then (
      some ((-1), s0))
    else (
      if 180 ≤ x4 then (
        some ((-1), s0))
      else (
        oc (0 ≤ x4 ∧ x4 < 180) <|
        if (zor y2 (gi s0 68 ((x4).toNat))) = y3 then (
          some (x4, s0))
        else (
          (l_Fi_firstCovering_19 y2 y3 fu) (iw (x4 + 1)) s0)))
noncomputable def f_Fi_firstCovering (a1 : Int) (a2 : Int) (s0 : SS) : OO :=
  ol (iw ((zshl 1 (gi s0 2 4)) - 1)) fun x2_ =>
  ol (zmax 0 a1) fun x3_ =>
  l_Fi_firstCovering_19 a2 x2_ FU x3_ s0
noncomputable def f_Fi_coverByOne  (s0 : SS) : OO :=
  ob (f_Fi_firstCovering 0 0 s0) fun r1 s1 =>
  if r1 = (-1) then (
    some (0, s1))
  else (
    oc (0 ≤ r1 ∧ r1 < 180) <|
    ob (f_Fi_lay (gi s1 67 ((r1).toNat)) s1) fun r5 s5 =>
    some (1, s5))
noncomputable def l_Fi_coverByTwo_2  : Nat → Int → SS → OO
  | 0, _, _ => none
  | fu + 1, x1, s0 =>
    if (gi s0 61 9) ≤ x1 then (
      some (0, s0))
    else (
      if 180 ≤ x1 then (
        some (0, s0))
      else (
        oc (0 ≤ x1 ∧ x1 < 180) <|
        ob (f_Fi_firstCovering (iw (x1 + 1)) (gi s0 68 ((x1).toNat)) s0) fun r5 s5 =>
        if r5 = (-1) then (
          (l_Fi_coverByTwo_2 fu) (iw (x1 + 1)) s5)
        else (
          oc (0 ≤ x1 ∧ x1 < 180) <|
          ob (f_Fi_lay (gi s5 67 ((x1).toNat)) s5) fun r9 s9 =>
          oc (0 ≤ r5 ∧ r5 < 180) <|
          ob (f_Fi_lay (gi s9 67 ((r5).toNat)) s9) fun r12 s12 =>
          some (1, s12))))
noncomputable def f_Fi_coverByTwo  (s0 : SS) : OO :=
  l_Fi_coverByTwo_2 FU 0 s0
noncomputable def l_Fi_coverByThree_21 (self2 : Int → SS → OO) (y1 : Int) : Nat → Int → SS → OO
  | 0, _, _ => none
  | fu + 1, x2, s0 =>
    if (gi s0 61 9) ≤ x2 then (
      self2 (iw (y1 + 1)) s0)
    else (
      if 180 ≤ x2 then (
        self2 (iw (y1 + 1)) s0)
      else (
        oc (0 ≤ y1 ∧ y1 < 180) <|
        oc (0 ≤ x2 ∧ x2 < 180) <|
        ob (f_Fi_firstCovering (iw (x2 + 1)) (zor (gi s0 68 ((y1).toNat)) (gi s0 68 ((x2).toNat))) s0) fun r7 s7 =>
        if r7 = (-1) then (
          (l_Fi_coverByThree_21 self2 y1 fu) (iw (x2 + 1)) s7)
        else (
          oc (0 ≤ y1 ∧ y1 < 180) <|
          ob (f_Fi_lay (gi s7 67 ((y1).toNat)) s7) fun r11 s11 =>
          oc (0 ≤ x2 ∧ x2 < 180) <|
          ob (f_Fi_lay (gi s11 67 ((x2).toNat)) s11) fun r14 s14 =>
          oc (0 ≤ r7 ∧ r7 < 180) <|
          ob (f_Fi_lay (gi s14 67 ((r7).toNat)) s14) fun r17 s17 =>
          some (1, s17))))
noncomputable def l_Fi_coverByThree_2  : Nat → Int → SS → OO
  | 0, _, _ => none
  | fu + 1, x1, s0 =>
    if (gi s0 61 9) ≤ x1 then (
      some (0, s0))
    else (
      if 180 ≤ x1 then (
        some (0, s0))
      else (
        ol (iw (x1 + 1)) fun x3_ =>
        l_Fi_coverByThree_21 (l_Fi_coverByThree_2 fu) x1 FU x3_ s0))
noncomputable def f_Fi_coverByThree  (s0 : SS) : OO :=
  l_Fi_coverByThree_2 FU 0 s0
noncomputable def f_Fi_layCover  (s0 : SS) : OO :=
  ob (f_Fi_layNothing s0) fun r1 s1 =>
  if 0 < (gi s1 2 4) then (
    ob (f_Fi_coverByOne s1) fun r4 s4 =>
    if r4 = 0 then (
      ob (f_Fi_coverByTwo s4) fun r6 s6 =>
      if r6 = 0 then (
        ob (f_Fi_coverByThree s6) fun r8 s8 =>
        if r8 = 0 then (
          some ((-1), s8))
        else (
          some (gi s8 61 5, s8)))
      else (
        some (gi s6 61 5, s6)))
    else (
      some (gi s4 61 5, s4)))
  else (
    some (0, s1))
noncomputable def f_Fi_openLength (a1 : Int) (s0 : SS) : OO :=
  ob (f_Ta_begin 76 a1 s0) fun r3 s3 =>
  ob (f_Ta_talkOpenly 76 47 200 s3) fun r7 s7 =>
  some (r7, s7)
noncomputable def l_Fi_countTurned_4  : Nat → Int → Int → SS → OO
  | 0, _, _, _ => none
  | fu + 1, x1, x2, s0 =>
    if 600 ≤ x2 then (
      some (x1, s0))
    else (
      ol (Int.tdiv x2 100) fun x2_ =>
      ol (Int.tmod (Int.tdiv x2 10) 10) fun x3_ =>
      ol (Int.tmod x2 10) fun x4_ =>
      if x3_ ≤ x2_ then (
        (l_Fi_countTurned_4 fu) x1 (iw (x2 + 1)) s0)
      else (
        ob (f_La_isCouple 2 x2 s0) fun r7 s7 =>
        if r7 = 0 then (
          (l_Fi_countTurned_4 fu) x1 (iw (x2 + 1)) s7)
        else (
          ob (f_Fi_openLength x2 s7) fun r9 s9 =>
          ob (f_La_couple 2 x3_ x2_ x4_ s9) fun r11 s11 =>
          ob (f_Fi_openLength r11 s11) fun r12 s12 =>
          if r9 = r12 then (
            (l_Fi_countTurned_4 fu) (iw (x1 + 1)) (iw (x2 + 1)) s12)
          else (
            (l_Fi_countTurned_4 fu) x1 (iw (x2 + 1)) s12))))
noncomputable def f_Fi_countTurned  (s0 : SS) : OO :=
  l_Fi_countTurned_4 FU 0 0 s0
noncomputable def l_Fi_layRow_33 (y1 : Int) : Nat → Int → SS → OO
  | 0, _, _ => none
  | fu + 1, x2, s0 =>
    if y1 ≤ x2 then (
      some (0, s0))
    else (
      if 4 ≤ x2 then (
        some (0, s0))
      else (
        oc (0 ≤ x2 ∧ x2 < 4) <|
        ob (f_Fi_lay (gi s0 72 ((x2).toNat)) s0) fun r5 s5 =>
        (l_Fi_layRow_33 y1 fu) (iw (x2 + 1)) s5))
noncomputable def j_Fi_layRow_27  (x1 : Int) (s0 : SS) : OO :=
  ob (f_Fi_layNothing s0) fun r1 s1 =>
  l_Fi_layRow_33 x1 FU 0 s1
noncomputable def f_Fi_layRow (a1 : Int) (s0 : SS) : OO :=
  os (si s0 61 19 (iw ((gi s0 61 19) + 1))) fun s1 =>
  if (gi s1 61 19) ≤ 1 then (
    j_Fi_layRow_27 a1 s1)
  else (
    if a1 < (gi s1 61 5) then (
      j_Fi_layRow_27 a1 s1)
    else (
      some (0, s1)))
noncomputable def j_Fi_goesOn_106  (x1 : Int) (x2 : Int) (x3 : Int) (x5 : Int) (s0 : SS) : OO :=
  ob (f_Ta_isOver 76 s0) fun r1 s1 =>
  if r1 = 0 then (
    if (gi s1 61 18) ≤ (iw (x1 + 1)) then (
      some (0, s1))
    else (
      if (iw (x1 + 1)) < 4 then (
        oc (0 ≤ iw (x1 + 1) ∧ iw (x1 + 1) < 4) <|
        os (si s1 73 ((iw (x1 + 1)).toNat) x3) fun s7 =>
        oc (0 ≤ iw (x1 + 1) ∧ iw (x1 + 1) < 4) <|
        os (si s7 72 ((iw (x1 + 1)).toNat) (-1)) fun s10 =>
        ob (f_Ta_put 76 74 (iw ((iw (x1 + 1)) * 24)) s10) fun r12 s12 =>
        some (1, s12))
      else (
        some (0, s1))))
  else (
    oc (0 ≤ x2 ∧ x2 < 14) <|
    if x5 = (gi s1 8 ((x2).toNat)) then (
      if x3 = (gi s1 61 17) then (
        ob (f_Fi_layRow (iw (x1 + 1)) s1) fun r18 s18 =>
        some (0, s18))
      else (
        some (0, s1)))
    else (
      some (0, s1)))
noncomputable def l_Fi_goesOn_65 (y1 : Int) (y2 : Int) (y3 : Int) : Nat → Int → SS → OO
  | 0, _, _ => none
  | fu + 1, x5, s0 =>
    oc (0 ≤ y2 ∧ y2 < 14) <|
    if (gi s0 8 ((y2).toNat)) ≤ x5 then (
      j_Fi_goesOn_106 y1 y2 y3 x5 s0)
    else (
      ob (f_Ta_isOver 76 s0) fun r5 s5 =>
      if r5 = 0 then (
        ob (f_Ta_sayOnWay 76 47 y2 (iw (x5 + 1)) y3 s5) fun r8 s8 =>
        (l_Fi_goesOn_65 y1 y2 y3 fu) (iw (x5 + 1)) s8)
      else (
        j_Fi_goesOn_106 y1 y2 y3 x5 s5))
noncomputable def f_Fi_goesOn (a1 : Int) (s0 : SS) : OO :=
  if a1 < 0 then (
    some (0, s0))
  else (
    if a1 < 4 then (
      oc (0 ≤ a1 ∧ a1 < 4) <|
      ol (gi s0 72 ((a1).toNat)) fun x5_ =>
      oc (0 ≤ a1 ∧ a1 < 4) <|
      ob (f_La_otherEnd 2 x5_ (gi s0 73 ((a1).toNat)) s0) fun r9 s9 =>
      if r9 = (-1) then (
        some (0, s9))
      else (
        ob (f_Ta_bring 76 74 (iw (a1 * 24)) s9) fun r14 s14 =>
        l_Fi_goesOn_65 a1 x5_ r9 FU 0 s14))
    else (
      some (0, s0)))
noncomputable def l_Fi_searchHome_18  : Nat → Int → Int → SS → OO
  | 0, _, _, _ => none
  | fu + 1, x2, x3, s0 =>
    if 1000000 ≤ x3 then (
      some (0, s0))
    else (
      if x2 < 0 then (
        some (0, s0))
      else (
        if 4 ≤ x2 then (
          some (0, s0))
        else (
          oc (0 ≤ x2 ∧ x2 < 4) <|
          oc (0 ≤ x2 ∧ x2 < 4) <|
          os (si s0 72 ((x2).toNat) (iw ((gi s0 72 ((x2).toNat)) + 1))) fun s7 =>
          oc (0 ≤ x2 ∧ x2 < 4) <|
          if (gi s7 72 ((x2).toNat)) < (gi s7 2 4) then (
            ob (f_Fi_goesOn x2 s7) fun r12 s12 =>
            if r12 = 0 then (
              (l_Fi_searchHome_18 fu) x2 (iw (x3 + 1)) s12)
            else (
              (l_Fi_searchHome_18 fu) (iw (x2 + 1)) (iw (x3 + 1)) s12))
          else (
            (l_Fi_searchHome_18 fu) (iw (x2 + (-1))) (iw (x3 + 1)) s7))))
noncomputable def f_Fi_searchHome (a1 : Int) (s0 : SS) : OO :=
  os (si s0 73 0 a1) fun s2 =>
  os (si s2 72 0 (-1)) fun s4 =>
  l_Fi_searchHome_18 FU 0 0 s4
noncomputable def j_Fi_layHome_36  (x1 : Int) (x2 : Int) (x3 : Int) (x4 : Int) (z0 : Int) (s0 : SS) : OO :=
  if z0 = 0 then (
    some ((-1), s0))
  else (
    if x4 < 1 then (
      some ((-1), s0))
    else (
      if x4 ≤ 4 then (
        os (si s0 61 17 x3) fun s4 =>
        os (si s4 61 18 x4) fun s5 =>
        os (si s5 61 19 0) fun s6 =>
        ob (f_Ta_begin 76 x1 s6) fun r9 s9 =>
        ob (f_Ta_put 76 74 0 s9) fun r13 s13 =>
        ob (f_Fi_searchHome x2 s13) fun r14 s14 =>
        some (gi s14 61 19, s14))
      else (
        some ((-1), s0))))
noncomputable def j_Fi_layHome_35  (x1 : Int) (x2 : Int) (x3 : Int) (x4 : Int) (s0 : SS) : OO :=
  j_Fi_layHome_36 x1 x2 x3 x4 0 s0
noncomputable def f_Fi_layHome (a1 : Int) (a2 : Int) (a3 : Int) (a4 : Int) (s0 : SS) : OO :=
  ob (f_Fi_layNothing s0) fun r1 s1 =>
  if a1 = (-1) then (
    j_Fi_layHome_35 a1 a2 a3 a4 s1)
  else (
    ob (f_La_isPlace 2 a2 s1) fun r4 s4 =>
    if r4 = 0 then (
      j_Fi_layHome_35 a1 a2 a3 a4 s4)
    else (
      ob (f_La_isPlace 2 a3 s4) fun r7 s7 =>
      if r7 = 0 then (
        j_Fi_layHome_35 a1 a2 a3 a4 s7)
      else (
        j_Fi_layHome_36 a1 a2 a3 a4 1 s7)))
noncomputable def j_Fi_temperAt_19  (x1 : Int) (z0 : Int) (s0 : SS) : OO :=
  some (iw ((iw (2 * z0)) + (Int.tmod x1 2)), s0)
noncomputable def f_Fi_temperAt (a1 : Int) (a2 : Int) (s0 : SS) : OO :=
  if 2 ≤ a2 then (
    j_Fi_temperAt_19 a2 (Int.tmod (Int.tdiv a1 10) 10) s0)
  else (
    j_Fi_temperAt_19 a2 (Int.tdiv a1 100) s0)
noncomputable def f_Fi_temperNow (a1 : Int) (a2 : Int) (s0 : SS) : OO :=
  ob (f_Fi_temperAt a1 a2 s0) fun r1 s1 =>
  if r1 < 0 then (
    some (0, s1))
  else (
    if 12 ≤ r1 then (
      some (0, s1))
    else (
      oc (0 ≤ r1 ∧ r1 < 12) <|
      some (gi s1 47 ((r1).toNat), s1)))
noncomputable def j_Fi_setBounds_96 (self2 : Int → SS → OO) (x1 : Int) (x2 : Int) (z1 : Int) (z2 : Int) (s0 : SS) : OO :=
  oc (0 ≤ z1 ∧ z1 < 4) <|
  os (si s0 71 ((z1).toNat) z2) fun s2 =>
  self2 (iw (x2 + 1)) s2
noncomputable def j_Fi_setBounds_78 (self2 : Int → SS → OO) (x1 : Int) (x2 : Int) (x4 : Int) (x5 : Int) (z1 : Int) (z2 : Int) (s0 : SS) : OO :=
  oc (0 ≤ z1 ∧ z1 < 4) <|
  os (si s0 70 ((z1).toNat) z2) fun s2 =>
  if x4 = 0 then (
    j_Fi_setBounds_96 self2 x1 x2 x2 x5 s2)
  else (
    j_Fi_setBounds_96 self2 x1 x2 x2 9 s2)
noncomputable def j_Fi_setBounds_52 (self2 : Int → SS → OO) (x1 : Int) (x2 : Int) (z0 : Int) (s0 : SS) : OO :=
  ob (f_Fi_temperNow x1 x2 s0) fun r1 s1 =>
  if z0 = 0 then (
    j_Fi_setBounds_78 self2 x1 x2 z0 r1 x2 r1 s1)
  else (
    j_Fi_setBounds_78 self2 x1 x2 z0 r1 x2 0 s1)
noncomputable def j_Fi_setBounds_47 (self2 : Int → SS → OO) (x1 : Int) (x2 : Int) (s0 : SS) : OO :=
  j_Fi_setBounds_52 self2 x1 x2 1 s0
noncomputable def j_Fi_setBounds_18 (self2 : Int → SS → OO) (x1 : Int) (x2 : Int) (z0 : Int) (s0 : SS) : OO :=
  ob (f_Fo_asksFor 16 z0 s0) fun r3 s3 =>
  if r3 = 0 then (
    ob (f_Fo_asksFor 19 z0 s3) fun r7 s7 =>
    if r7 = 0 then (
      j_Fi_setBounds_52 self2 x1 x2 0 s7)
    else (
      j_Fi_setBounds_47 self2 x1 x2 s7))
  else (
    j_Fi_setBounds_47 self2 x1 x2 s3)
noncomputable def l_Fi_setBounds_2 (y1 : Int) : Nat → Int → SS → OO
  | 0, _, _ => none
  | fu + 1, x2, s0 =>
    if 4 ≤ x2 then (
      some (0, s0))
    else (
      if (Int.tmod x2 2) = 0 then (
        j_Fi_setBounds_18 (l_Fi_setBounds_2 y1 fu) y1 x2 2 s0)
      else (
        j_Fi_setBounds_18 (l_Fi_setBounds_2 y1 fu) y1 x2 3 s0))
noncomputable def f_Fi_setBounds (a1 : Int) (s0 : SS) : OO :=
  l_Fi_setBounds_2 a1 FU 0 s0
noncomputable def f_Fi_tryTemper (a1 : Int) (a2 : Int) (a3 : Int) (s0 : SS) : OO :=
  ob (f_Fi_temperAt a1 a2 s0) fun r1 s1 =>
  if r1 < 0 then (
    some (0, s1))
  else (
    if 12 ≤ r1 then (
      some (0, s1))
    else (
      oc (0 ≤ r1 ∧ r1 < 12) <|
      os (si s1 69 ((r1).toNat) a3) fun s7 =>
      some (0, s7)))
noncomputable def j_Fi_layIfLong_108 (self69 : Int → SS → OO) (x1 : Int) (x3 : Int) (z1 : Int) (s0 : SS) : OO :=
  ob (f_Fi_lay z1 s0) fun r1 s1 =>
  self69 (iw (x3 + 1)) s1
noncomputable def j_Fi_layIfLong_107 (self69 : Int → SS → OO) (x1 : Int) (x3 : Int) (s0 : SS) : OO :=
  j_Fi_layIfLong_108 self69 x1 x3 0 s0
noncomputable def l_Fi_layIfLong_69 (y1 : Int) : Nat → Int → SS → OO
  | 0, _, _ => none
  | fu + 1, x3, s0 =>
    if 4 ≤ x3 then (
      some (1, s0))
    else (
      ob (f_Fi_temperAt y1 x3 s0) fun r2 s2 =>
      if r2 < 0 then (
        j_Fi_layIfLong_107 (l_Fi_layIfLong_69 y1 fu) y1 x3 s2)
      else (
        if 12 ≤ r2 then (
          j_Fi_layIfLong_107 (l_Fi_layIfLong_69 y1 fu) y1 x3 s2)
        else (
          oc (0 ≤ r2 ∧ r2 < 12) <|
          j_Fi_layIfLong_108 (l_Fi_layIfLong_69 y1 fu) y1 x3 (gi s2 69 ((r2).toNat)) s2)))
noncomputable def f_Fi_layIfLong (a1 : Int) (a2 : Int) (s0 : SS) : OO :=
  if a2 < (gi s0 70 3) then (
    some (0, s0))
  else (
    if a2 ≤ (gi s0 71 3) then (
      ob (f_Fi_tryTemper a1 3 a2 s0) fun r5 s5 =>
      ob (f_Ta_begin 76 a1 s5) fun r8 s8 =>
      ob (f_Ta_talkOpenly 76 69 (gi s8 61 13) s8) fun r12 s12 =>
      if r12 = (gi s12 61 13) then (
        l_Fi_layIfLong_69 a1 FU 0 s12)
      else (
        some (0, s12)))
    else (
      some (0, s0)))
noncomputable def l_Fi_layChanged_81 (self7 : Int → SS → OO) (self40 : Int → SS → OO) (y1 : Int) (y2 : Int) (y3 : Int) (y4 : Int) (y5 : Int) (y6 : Int) : Nat → Int → SS → OO
  | 0, _, _ => none
  | fu + 1, x7, s0 =>
    if (gi s0 71 2) < x7 then (
      self40 (iw (y5 + 1)) s0)
    else (
      if y6 < 0 then (
        self40 (iw (y5 + 1)) s0)
      else (
        ob (f_Fi_temperNow y1 2 s0) fun r4 s4 =>
        ol (iw (y6 - (zabs (iw (x7 - r4))))) fun x5_ =>
        ob (f_Fi_temperNow y1 3 s4) fun r6 s6 =>
        ob (f_Fi_tryTemper y1 0 y3 s6) fun r7 s7 =>
        ob (f_Fi_tryTemper y1 1 y5 s7) fun r8 s8 =>
        ob (f_Fi_tryTemper y1 2 x7 s8) fun r9 s9 =>
        if x5_ < 0 then (
          (l_Fi_layChanged_81 self7 self40 y1 y2 y3 y4 y5 y6 fu) (iw (x7 + 1)) s9)
        else (
          ob (f_Fi_layIfLong y1 (iw (r6 - x5_)) s9) fun r11 s11 =>
          if r11 = 0 then (
            ob (f_Fi_layIfLong y1 (iw (r6 + x5_)) s11) fun r13 s13 =>
            if r13 = 0 then (
              (l_Fi_layChanged_81 self7 self40 y1 y2 y3 y4 y5 y6 fu) (iw (x7 + 1)) s13)
            else (
              some (1, s13)))
          else (
            some (1, s11)))))
noncomputable def l_Fi_layChanged_40 (self7 : Int → SS → OO) (y1 : Int) (y2 : Int) (y3 : Int) (y4 : Int) : Nat → Int → SS → OO
  | 0, _, _ => none
  | fu + 1, x5, s0 =>
    if (gi s0 71 1) < x5 then (
      self7 (iw (y3 + 1)) s0)
    else (
      if y4 < 0 then (
        self7 (iw (y3 + 1)) s0)
      else (
        ob (f_Fi_temperNow y1 1 s0) fun r4 s4 =>
        ol (iw (y4 - (zabs (iw (x5 - r4))))) fun x5_ =>
        ol (gi s4 70 2) fun x7_ =>
        l_Fi_layChanged_81 self7 (l_Fi_layChanged_40 self7 y1 y2 y3 y4 fu) y1 y2 y3 y4 x5 x5_ FU x7_ s4))
noncomputable def l_Fi_layChanged_7 (y1 : Int) (y2 : Int) : Nat → Int → SS → OO
  | 0, _, _ => none
  | fu + 1, x3, s0 =>
    if (gi s0 71 0) < x3 then (
      some (0, s0))
    else (
      ob (f_Fi_temperNow y1 0 s0) fun r3 s3 =>
      ol (iw (y2 - (zabs (iw (x3 - r3))))) fun x4_ =>
      ol (gi s3 70 1) fun x6_ =>
      l_Fi_layChanged_40 (l_Fi_layChanged_7 y1 y2 fu) y1 y2 x3 x4_ FU x6_ s3)
noncomputable def f_Fi_layChanged (a1 : Int) (a2 : Int) (s0 : SS) : OO :=
  ol (gi s0 70 0) fun x2_ =>
  l_Fi_layChanged_7 a1 a2 FU x2_ s0
noncomputable def l_Fi_layTempers_35 (y1 : Int) : Nat → Int → SS → OO
  | 0, _, _ => none
  | fu + 1, x3, s0 =>
    if 36 < x3 then (
      some ((-1), s0))
    else (
      ob (f_Fi_layChanged y1 x3 s0) fun r2 s2 =>
      if r2 = 0 then (
        (l_Fi_layTempers_35 y1 fu) (iw (x3 + 1)) s2)
      else (
        some (x3, s2)))
noncomputable def f_Fi_layTempers (a1 : Int) (a2 : Int) (s0 : SS) : OO :=
  ob (f_Fi_layNothing s0) fun r1 s1 =>
  if a1 = (-1) then (
    some ((-2), s1))
  else (
    if a2 < 1 then (
      some ((-2), s1))
    else (
      if a2 ≤ 60 then (
        os (si s1 61 13 a2) fun s5 =>
        ob (f_Fi_setBounds a1 s5) fun r6 s6 =>
        l_Fi_layTempers_35 a1 FU 0 s6)
      else (
        some ((-2), s1))))
set_option maxRecDepth 20000 in
theorem m_Fi_layNothing {l : Launch} {D : va_G} {cs : Nat → ClassId} {aS aV : Nat} {A : Nat → Prop} {ad : Nat → Nat} {n : Nat} {nl : Nat → Nat → Bool} {out : Int × SS} (hw : w_WH n nl) (ht : 61 < n) {s0 : SS} (hs0 : rS s0) (hf : f_Fi_layNothing s0 = some out) : w_MC l D cs aS aV A yX1_layNothing cX1_layNothing 1 0 rm_Fi_layNothing ad n nl [.ref (ad 61)] s0 (w_Po ad n nl out) := by
  refine w_MC_of (by decide +kernel) (by decide) hs0 (Nat.le_of_ble_eq_true rfl) (fun K h hr => ?_)
  refine r_lv (lv' := [(0, .ref (ad 61))]) rfl ?_
  unfold f_Fi_layNothing at hf
  refine r_rS h (fun hs0 => ?_)
  refine r_aload_n h dX1_layNothing_0 rfl 0 rfl ?_
  refine r_iconst h dX1_layNothing_1 ?_
  refine p_X1_65 h dX1_layNothing_2 ht rC_61 (rIc rfl) ?_
  refine r_os hf (fun s1 hf => ?_)
  refine r_rS h (fun hs1 => ?_)
  exact r_ret0 (x := 0) hr dX1_layNothing_5 hf
set_option maxRecDepth 20000 in
theorem m_Fi_lay {l : Launch} {D : va_G} {cs : Nat → ClassId} {aS aV : Nat} {A : Nat → Prop} {ad : Nat → Nat} {n : Nat} {nl : Nat → Nat → Bool} {out : Int × SS} (hw : w_WH n nl) (ht : 61 < n) {a1 : Int} (ra1 : rI a1) {s0 : SS} (hs0 : rS s0) (hf : f_Fi_lay a1 s0 = some out) : w_MC l D cs aS aV A yX1_lay cX1_lay 2 0 rm_Fi_lay ad n nl [.ref (ad 61), .int (vI a1)] s0 (w_Po ad n nl out) := by
  refine w_MC_of (by decide +kernel) (by decide) hs0 (Nat.le_of_ble_eq_true rfl) (fun K h hr => ?_)
  refine r_lv (lv' := [(0, .ref (ad 61)), (1, .int (vI a1))]) rfl ?_
  unfold f_Fi_lay at hf
  refine r_rS h (fun hs0 => ?_)
  refine r_aload_n h dX1_lay_0 rfl 0 rfl ?_
  refine g_X1_65 h dX1_lay_1 ht rC_61 ?_
  refine r_if_lt (tgt := 39) h dX1_lay_4 (by decide) (hs0.1 _ _) (fun hc1 => ?_) (fun hc1 => ?_)
  · have hf := ite_t hc1 hf
    exact r_ret0 (x := 0) hr dX1_lay_39 hf
  · have hf := ite_f hc1 hf
    refine r_aload_n h dX1_lay_7 rfl 0 rfl ?_
    refine g_X1_65 h dX1_lay_8 ht rC_61 ?_
    refine r_aload_n h dX1_lay_11 rfl 0 rfl ?_
    have hq2 := w_ref hw ht rC_61 (by decide) (k := 4) (by decide) rf_1_4
    refine g_X1_18 h dX1_lay_12 ht rC_61 hq2.1 ?_
    refine r_alen (N := 12) h dX1_lay_15 hq2.2 rC_65 (Or.inr (Or.inl rfl)) (by rw [rN_65]; rfl) ?_
    refine r_icmp_ge (tgt := 39) h dX1_lay_16 (by decide) (hs0.1 _ _) (rIc rfl) (fun hc3 => ?_) (fun hc3 => ?_)
    · have hf := ite_t hc3 hf
      exact r_ret0 (x := 0) hr dX1_lay_39 hf
    · have hf := ite_f hc3 hf
      refine r_aload_n h dX1_lay_19 rfl 0 rfl ?_
      have hq4 := w_ref hw ht rC_61 (by decide) (k := 4) (by decide) rf_1_4
      refine g_X1_18 h dX1_lay_20 ht rC_61 hq4.1 ?_
      refine r_aload_n h dX1_lay_23 rfl 0 rfl ?_
      refine g_X1_65 h dX1_lay_24 ht rC_61 ?_
      refine r_iload_n h dX1_lay_27 rfl 1 rfl ?_
      obtain ⟨hi5, hf⟩ := oc_some hf
      refine r_iast h dX1_lay_28 hq4.2 rC_65 (hs0.1 _ _) (N := 12) (by rw [rN_65]; rfl) (j := (gi s0 61 5).toNat) rfl hi5 ra1 ?_
      refine r_os hf (fun s6 hf => ?_)
      refine r_rS h (fun hs6 => ?_)
      refine r_aload_n h dX1_lay_29 rfl 0 rfl ?_
      refine r_dup h dX1_lay_30 rfl ?_
      refine g_X1_65 h dX1_lay_31 ht rC_61 ?_
      refine r_iconst h dX1_lay_34 ?_
      refine r_iadd h dX1_lay_35 ?_
      refine p_X1_65 h dX1_lay_36 ht rC_61 (rI_iw _) ?_
      refine r_os hf (fun s7 hf => ?_)
      refine r_rS h (fun hs7 => ?_)
      exact r_ret0 (x := 0) hr dX1_lay_39 hf
set_option maxRecDepth 20000 in
theorem m_Fi_tellLying {l : Launch} {D : va_G} {cs : Nat → ClassId} {aS aV : Nat} {A : Nat → Prop} {ad : Nat → Nat} {n : Nat} {nl : Nat → Nat → Bool} {out : Int × SS} (hw : w_WH n nl) (ht : 61 < n) {a1 : Int} (ra1 : rI a1) {s0 : SS} (hs0 : rS s0) (hf : f_Fi_tellLying a1 s0 = some out) : w_MC l D cs aS aV A yX1_tellLying cX1_tellLying 2 1 rm_Fi_tellLying ad n nl [.ref (ad 61), .int (vI a1)] s0 (w_Po ad n nl out) := by
  refine w_MC_of (by decide +kernel) (by decide) hs0 (Nat.le_of_ble_eq_true rfl) (fun K h hr => ?_)
  refine r_lv (lv' := [(0, .ref (ad 61)), (1, .int (vI a1))]) rfl ?_
  unfold f_Fi_tellLying at hf
  refine r_rS h (fun hs0 => ?_)
  refine r_iload_n h dX1_tellLying_0 rfl 1 rfl ?_
  refine r_if_lt (tgt := 30) h dX1_tellLying_1 (by decide) ra1 (fun hc1 => ?_) (fun hc1 => ?_)
  · have hf := ite_t hc1 hf
    refine r_iconst h dX1_tellLying_30 ?_
    exact r_ret1 hr dX1_tellLying_31 (rIc rfl) hf
  · have hf := ite_f hc1 hf
    refine r_iload_n h dX1_tellLying_4 rfl 1 rfl ?_
    refine r_aload_n h dX1_tellLying_5 rfl 0 rfl ?_
    refine g_X1_65 h dX1_tellLying_6 ht rC_61 ?_
    refine r_icmp_ge (tgt := 30) h dX1_tellLying_9 (by decide) ra1 (hs0.1 _ _) (fun hc2 => ?_) (fun hc2 => ?_)
    · have hf := ite_t hc2 hf
      refine r_iconst h dX1_tellLying_30 ?_
      exact r_ret1 hr dX1_tellLying_31 (rIc rfl) hf
    · have hf := ite_f hc2 hf
      refine r_iload_n h dX1_tellLying_12 rfl 1 rfl ?_
      refine r_aload_n h dX1_tellLying_13 rfl 0 rfl ?_
      have hq3 := w_ref hw ht rC_61 (by decide) (k := 4) (by decide) rf_1_4
      refine g_X1_18 h dX1_tellLying_14 ht rC_61 hq3.1 ?_
      refine r_alen (N := 12) h dX1_tellLying_17 hq3.2 rC_65 (Or.inr (Or.inl rfl)) (by rw [rN_65]; rfl) ?_
      refine r_icmp_ge (tgt := 30) h dX1_tellLying_18 (by decide) ra1 (rIc rfl) (fun hc4 => ?_) (fun hc4 => ?_)
      · have hf := ite_t hc4 hf
        refine r_iconst h dX1_tellLying_30 ?_
        exact r_ret1 hr dX1_tellLying_31 (rIc rfl) hf
      · have hf := ite_f hc4 hf
        refine r_aload_n h dX1_tellLying_21 rfl 0 rfl ?_
        have hq5 := w_ref hw ht rC_61 (by decide) (k := 4) (by decide) rf_1_4
        refine g_X1_18 h dX1_tellLying_22 ht rC_61 hq5.1 ?_
        refine r_iload_n h dX1_tellLying_25 rfl 1 rfl ?_
        obtain ⟨hi6, hf⟩ := oc_some hf
        refine r_iald h dX1_tellLying_26 hq5.2 rC_65 ra1 (N := 12) (by rw [rN_65]; rfl) (j := (a1).toNat) rfl hi6 ?_
        refine r_goto (tgt := 31) h dX1_tellLying_27 (by decide) ?_
        exact r_ret1 hr dX1_tellLying_31 (hs0.1 _ _) hf
set_option maxRecDepth 20000 in
theorem b_Fi_lookHowFar_24 {l : Launch} {D : va_G} {cs : Nat → ClassId} {aS aV : Nat} {A : Nat → Prop} {K : KT} {ad : Nat → Nat} {n : Nat} {nl : Nat → Nat → Bool} {out : Int × SS} (h : w_Cl l rm_Fi_lookHowFar D cs aS aV A cX1_lookHowFar 6 RX1 "lookHowFar" K) (hr : w_Rt 0 cX1_lookHowFar 0 0 (w_Po ad n nl out) K) (hw : w_WH n nl) (ht : 61 < n) (x1 : Int) (x2 : Int) (z1 : Int) (z2 : Int) (self2 : Int → SS → OO) (hself2 : ∀ (x2 : Int) (τ : SS), rI x2 → self2 x2 τ = some out → K ad n nl 0 0 2 [(0, .ref (ad 61)), (1, .int (vI x1)), (2, .int (vI x2))] [] τ) (s0 : SS) (rx1 : rI x1) (rx2 : rI x2) (rz1 : rI z1) (rz2 : rI z2) (hf : j_Fi_lookHowFar_24 self2 x1 x2 z1 z2 s0 = some out) : K ad n nl 0 0 24 [(0, .ref (ad 61)), (1, .int (vI x1)), (2, .int (vI x2))] [.int (vI z2), .int (vI z1), .ref (ad 66)] s0 := by
  unfold j_Fi_lookHowFar_24 at hf
  have q66_0 := w_ref hw ht rC_61 (by decide) (k := 6) (by decide) rf_1_6
  refine r_rS h (fun hs0 => ?_)
  obtain ⟨hi1, hf⟩ := oc_some hf
  refine r_iast h dX1_lookHowFar_24 q66_0.2 rC_66 rz1 (N := 8) (by rw [rN_66]; rfl) (j := (z1).toNat) rfl hi1 rz2 ?_
  refine r_os hf (fun s2 hf => ?_)
  refine r_rS h (fun hs2 => ?_)
  refine r_iinc h [(2, .int (vI (iw (x2 + 1)))), (0, .ref (ad 61)), (1, .int (vI x1))] dX1_lookHowFar_25 2 rfl (by decide) rfl ?_
  refine r_goto (tgt := 2) h dX1_lookHowFar_28 (by decide) ?_
  refine r_sub h [1, 2, 0] rfl ?_
  exact hself2 (iw (x2 + 1)) s2 (rI_iw _) hf
set_option maxRecDepth 20000 in
theorem b_Fi_lookHowFar_41 {l : Launch} {D : va_G} {cs : Nat → ClassId} {aS aV : Nat} {A : Nat → Prop} {K : KT} {ad : Nat → Nat} {n : Nat} {nl : Nat → Nat → Bool} {out : Int × SS} (h : w_Cl l rm_Fi_lookHowFar D cs aS aV A cX1_lookHowFar 6 RX1 "lookHowFar" K) (hr : w_Rt 0 cX1_lookHowFar 0 0 (w_Po ad n nl out) K) (hw : w_WH n nl) (ht : 61 < n) {y2 : Int} (ry2 : rI y2) (self33 : Int → SS → OO) (hself33 : ∀ (x2 : Int) (τ : SS), rI x2 → self33 x2 τ = some out → K ad n nl 0 0 33 [(0, .ref (ad 61)), (2, .int (vI x2))] [] τ) : ∀ (fu : Nat) (x3 : Int) (s0 : SS), rI x3 → l_Fi_lookHowFar_41 self33 y2 fu x3 s0 = some out → K ad n nl 0 0 41 [(0, .ref (ad 61)), (2, .int (vI y2)), (3, .int (vI x3))] [] s0 := by
  intro fu
  induction fu with
  | zero =>
    intro x3 s0 rx3 hf
    rw [l_Fi_lookHowFar_41] at hf
    cases hf
  | succ fu ih =>
    intro x3 s0 rx3 hf
    rw [l_Fi_lookHowFar_41] at hf
    refine r_rS h (fun hs0 => ?_)
    refine r_iload_n h dX1_lookHowFar_41 rfl 2 rfl ?_
    refine r_aload_n h dX1_lookHowFar_42 rfl 0 rfl ?_
    have hq1 := w_ref hw ht rC_61 (by decide) (k := 0) (by decide) rf_1_0
    refine g_X1_49 h dX1_lookHowFar_43 ht rC_61 hq1.1 ?_
    refine g_X1_110 h dX1_lookHowFar_46 hq1.2 rC_2 ?_
    refine r_icmp_ge (tgt := 178) h dX1_lookHowFar_49 (by decide) rx3 (hs0.1 _ _) (fun hc2 => ?_) (fun hc2 => ?_)
    · have hf := ite_t hc2 hf
      refine r_iinc h [(2, .int (vI (iw (y2 + 1)))), (0, .ref (ad 61)), (3, .int (vI x3))] dX1_lookHowFar_178 1 rfl (by decide) rfl ?_
      refine r_goto (tgt := 33) h dX1_lookHowFar_181 (by decide) ?_
      refine r_sub h [1, 0] rfl ?_
      exact hself33 (iw (y2 + 1)) s0 (rI_iw _) hf
    · have hf := ite_f hc2 hf
      refine r_iload_n h dX1_lookHowFar_52 rfl 2 rfl ?_
      refine r_bipush h dX1_lookHowFar_53 (by decide) ?_
      refine r_icmp_ge (tgt := 178) h dX1_lookHowFar_55 (by decide) rx3 (rIc rfl) (fun hc3 => ?_) (fun hc3 => ?_)
      · have hf := ite_t hc3 hf
        refine r_iinc h [(2, .int (vI (iw (y2 + 1)))), (0, .ref (ad 61)), (3, .int (vI x3))] dX1_lookHowFar_178 1 rfl (by decide) rfl ?_
        refine r_goto (tgt := 33) h dX1_lookHowFar_181 (by decide) ?_
        refine r_sub h [1, 0] rfl ?_
        exact hself33 (iw (y2 + 1)) s0 (rI_iw _) hf
      · have hf := ite_f hc3 hf
        refine r_aload_n h dX1_lookHowFar_58 rfl 0 rfl ?_
        have hq4 := w_ref hw ht rC_61 (by decide) (k := 0) (by decide) rf_1_0
        refine g_X1_49 h dX1_lookHowFar_59 ht rC_61 hq4.1 ?_
        have hq5c := rf_4_5 _ rC_2
        have hq5 := w_ref hw hq4.2 rC_2 (by decide) (k := 5) (by decide) hq5c.1
        refine g_X1_112 h dX1_lookHowFar_62 hq4.2 rC_2 hq5.1 ?_
        refine r_st (st0 := [.ref (ad 6)]) rfl ?_
        refine r_iload_n h dX1_lookHowFar_65 rfl 2 rfl ?_
        obtain ⟨hi6, hf⟩ := oc_some hf
        refine r_iald h dX1_lookHowFar_66 hq5.2 rC_6 rx3 (N := 14) (by rw [rN_6]; rfl) (j := (x3).toNat) rfl hi6 ?_
        refine r_ol hf (hs0.1 _ _) (fun x7_ rx7_ hf => ?_)
        refine r_istore h [(4, .int (vI x7_)), (0, .ref (ad 61)), (2, .int (vI y2)), (3, .int (vI x3))] dX1_lookHowFar_67 (by decide) rfl ?_
        refine r_aload_n h dX1_lookHowFar_69 rfl 1 rfl ?_
        have hq8 := w_ref hw ht rC_61 (by decide) (k := 0) (by decide) rf_1_0
        refine g_X1_49 h dX1_lookHowFar_70 ht rC_61 hq8.1 ?_
        have hq9c := rf_4_6 _ rC_2
        have hq9 := w_ref hw hq8.2 rC_2 (by decide) (k := 6) (by decide) hq9c.1
        refine g_X1_115 h dX1_lookHowFar_73 hq8.2 rC_2 hq9.1 ?_
        refine r_st (st0 := [.ref (ad 7)]) rfl ?_
        refine r_iload_n h dX1_lookHowFar_76 rfl 3 rfl ?_
        obtain ⟨hi10, hf⟩ := oc_some hf
        refine r_iald h dX1_lookHowFar_77 hq9.2 rC_7 rx3 (N := 14) (by rw [rN_7]; rfl) (j := (x3).toNat) rfl hi10 ?_
        refine r_ol hf (hs0.1 _ _) (fun x11_ rx11_ hf => ?_)
        refine r_istore h [(5, .int (vI x11_)), (4, .int (vI x7_)), (0, .ref (ad 61)), (2, .int (vI y2)), (3, .int (vI x3))] dX1_lookHowFar_78 (by decide) rfl ?_
        refine r_aload_n h dX1_lookHowFar_80 rfl 2 rfl ?_
        have hq12 := w_ref hw ht rC_61 (by decide) (k := 0) (by decide) rf_1_0
        refine g_X1_49 h dX1_lookHowFar_81 ht rC_61 hq12.1 ?_
        refine r_iload h dX1_lookHowFar_84 1 rfl ?_
        obtain ⟨r13, s13, hq13, hf⟩ := ob_some hf
        refine r_callV2 h [.int (vI x7_)] dX1_lookHowFar_86 (fun hs => m_La_isPlace hw hq12.2 rC_2 rx7_ hs hq13) ml_X1_86 cv_La_isPlace rfl (co := 4) rfl (by decide) hq12.2 rC_2 ⟨rfl, rfl⟩ ⟨Nat.le_of_ble_eq_true rfl, Nat.le_of_ble_eq_true rfl⟩ ⟨Nat.le_of_ble_eq_true rfl, Nat.le_of_ble_eq_true rfl⟩ (Nat.le_of_ble_eq_true rfl) rfl (fun hr13 hs13 => ?_)
        refine r_if_eq (tgt := 172) h dX1_lookHowFar_89 (by decide) (rI_b hr13) (fun hc14 => ?_) (fun hc14 => ?_)
        · have hf := ite_t hc14 hf
          refine r_iinc h [(3, .int (vI (iw (x3 + 1)))), (5, .int (vI x11_)), (4, .int (vI x7_)), (0, .ref (ad 61)), (2, .int (vI y2))] dX1_lookHowFar_172 4 rfl (by decide) rfl ?_
          refine r_goto (tgt := 41) h dX1_lookHowFar_175 (by decide) ?_
          refine r_sub h [3, 4, 0] rfl ?_
          exact ih (iw (x3 + 1)) s13 (rI_iw _) hf
        · have hf := ite_f hc14 hf
          refine r_aload_n h dX1_lookHowFar_92 rfl 2 rfl ?_
          have hq15 := w_ref hw ht rC_61 (by decide) (k := 0) (by decide) rf_1_0
          refine g_X1_49 h dX1_lookHowFar_93 ht rC_61 hq15.1 ?_
          refine r_iload h dX1_lookHowFar_96 0 rfl ?_
          obtain ⟨r16, s16, hq16, hf⟩ := ob_some hf
          refine r_callV2 h [.int (vI x11_)] dX1_lookHowFar_98 (fun hs => m_La_isPlace hw hq15.2 rC_2 rx11_ hs hq16) ml_X1_86 cv_La_isPlace rfl (co := 4) rfl (by decide) hq15.2 rC_2 ⟨rfl, rfl⟩ ⟨Nat.le_of_ble_eq_true rfl, Nat.le_of_ble_eq_true rfl⟩ ⟨Nat.le_of_ble_eq_true rfl, Nat.le_of_ble_eq_true rfl⟩ (Nat.le_of_ble_eq_true rfl) rfl (fun hr16 hs16 => ?_)
          refine r_if_eq (tgt := 172) h dX1_lookHowFar_101 (by decide) (rI_b hr16) (fun hc17 => ?_) (fun hc17 => ?_)
          · have hf := ite_t hc17 hf
            refine r_iinc h [(3, .int (vI (iw (x3 + 1)))), (5, .int (vI x11_)), (4, .int (vI x7_)), (0, .ref (ad 61)), (2, .int (vI y2))] dX1_lookHowFar_172 4 rfl (by decide) rfl ?_
            refine r_goto (tgt := 41) h dX1_lookHowFar_175 (by decide) ?_
            refine r_sub h [3, 4, 0] rfl ?_
            exact ih (iw (x3 + 1)) s16 (rI_iw _) hf
          · have hf := ite_f hc17 hf
            refine r_aload_n h dX1_lookHowFar_104 rfl 2 rfl ?_
            have hq18 := w_ref hw ht rC_61 (by decide) (k := 6) (by decide) rf_1_6
            refine g_X1_22 h dX1_lookHowFar_105 ht rC_61 hq18.1 ?_
            refine r_iload h dX1_lookHowFar_108 1 rfl ?_
            refine r_aload_n h dX1_lookHowFar_110 rfl 2 rfl ?_
            have hq19 := w_ref hw ht rC_61 (by decide) (k := 6) (by decide) rf_1_6
            refine g_X1_22 h dX1_lookHowFar_111 ht rC_61 hq19.1 ?_
            refine r_iload h dX1_lookHowFar_114 1 rfl ?_
            obtain ⟨hi20, hf⟩ := oc_some hf
            refine r_iald h dX1_lookHowFar_116 hq19.2 rC_66 rx7_ (N := 8) (by rw [rN_66]; rfl) (j := (x7_).toNat) rfl hi20 ?_
            refine r_aload_n h dX1_lookHowFar_117 rfl 2 rfl ?_
            have hq21 := w_ref hw ht rC_61 (by decide) (k := 6) (by decide) rf_1_6
            refine g_X1_22 h dX1_lookHowFar_118 ht rC_61 hq21.1 ?_
            refine r_iload h dX1_lookHowFar_121 0 rfl ?_
            obtain ⟨hi22, hf⟩ := oc_some hf
            refine r_iald h dX1_lookHowFar_123 hq21.2 rC_66 rx11_ (N := 8) (by rw [rN_66]; rfl) (j := (x11_).toNat) rfl hi22 ?_
            refine r_aload_n h dX1_lookHowFar_124 rfl 2 rfl ?_
            have hq23 := w_ref hw ht rC_61 (by decide) (k := 0) (by decide) rf_1_0
            refine g_X1_49 h dX1_lookHowFar_125 ht rC_61 hq23.1 ?_
            have hq24c := rf_4_7 _ rC_2
            have hq24 := w_ref hw hq23.2 rC_2 (by decide) (k := 7) (by decide) hq24c.1
            refine g_X1_118 h dX1_lookHowFar_128 hq23.2 rC_2 hq24.1 ?_
            refine r_st (st0 := [.ref (ad 8), .int (vI (gi s16 66 ((x11_).toNat))), .int (vI (gi s16 66 ((x7_).toNat))), .int (vI x7_), .ref (ad 66)]) rfl ?_
            refine r_iload_n h dX1_lookHowFar_131 rfl 4 rfl ?_
            obtain ⟨hi25, hf⟩ := oc_some hf
            refine r_iald h dX1_lookHowFar_132 hq24.2 rC_8 rx3 (N := 14) (by rw [rN_8]; rfl) (j := (x3).toNat) rfl hi25 ?_
            refine r_iadd h dX1_lookHowFar_133 ?_
            refine r_mmin h dX1_lookHowFar_134 (gt_in5 40 rfl rfl) ms_mmin.1 ms_mmin.2.1 ms_mmin.2.2 (Nat.le_of_ble_eq_true rfl) (Nat.le_of_ble_eq_true rfl) (Nat.le_of_ble_eq_true rfl) (Nat.le_of_ble_eq_true rfl) (hs16.1 _ _) (rI_iw _) ?_
            obtain ⟨hi26, hf⟩ := oc_some hf
            refine r_iast h dX1_lookHowFar_137 hq18.2 rC_66 rx7_ (N := 8) (by rw [rN_66]; rfl) (j := (x7_).toNat) rfl hi26 (rI_zmin (hs16.1 _ _) (rI_iw _)) ?_
            refine r_os hf (fun s27 hf => ?_)
            refine r_rS h (fun hs27 => ?_)
            refine r_aload_n h dX1_lookHowFar_138 rfl 2 rfl ?_
            have hq28 := w_ref hw ht rC_61 (by decide) (k := 6) (by decide) rf_1_6
            refine g_X1_22 h dX1_lookHowFar_139 ht rC_61 hq28.1 ?_
            refine r_iload h dX1_lookHowFar_142 0 rfl ?_
            refine r_aload_n h dX1_lookHowFar_144 rfl 2 rfl ?_
            have hq29 := w_ref hw ht rC_61 (by decide) (k := 6) (by decide) rf_1_6
            refine g_X1_22 h dX1_lookHowFar_145 ht rC_61 hq29.1 ?_
            refine r_iload h dX1_lookHowFar_148 0 rfl ?_
            obtain ⟨hi30, hf⟩ := oc_some hf
            refine r_iald h dX1_lookHowFar_150 hq29.2 rC_66 rx11_ (N := 8) (by rw [rN_66]; rfl) (j := (x11_).toNat) rfl hi30 ?_
            refine r_aload_n h dX1_lookHowFar_151 rfl 2 rfl ?_
            have hq31 := w_ref hw ht rC_61 (by decide) (k := 6) (by decide) rf_1_6
            refine g_X1_22 h dX1_lookHowFar_152 ht rC_61 hq31.1 ?_
            refine r_iload h dX1_lookHowFar_155 1 rfl ?_
            obtain ⟨hi32, hf⟩ := oc_some hf
            refine r_iald h dX1_lookHowFar_157 hq31.2 rC_66 rx7_ (N := 8) (by rw [rN_66]; rfl) (j := (x7_).toNat) rfl hi32 ?_
            refine r_aload_n h dX1_lookHowFar_158 rfl 2 rfl ?_
            have hq33 := w_ref hw ht rC_61 (by decide) (k := 0) (by decide) rf_1_0
            refine g_X1_49 h dX1_lookHowFar_159 ht rC_61 hq33.1 ?_
            have hq34c := rf_4_7 _ rC_2
            have hq34 := w_ref hw hq33.2 rC_2 (by decide) (k := 7) (by decide) hq34c.1
            refine g_X1_118 h dX1_lookHowFar_162 hq33.2 rC_2 hq34.1 ?_
            refine r_st (st0 := [.ref (ad 8), .int (vI (gi s27 66 ((x7_).toNat))), .int (vI (gi s27 66 ((x11_).toNat))), .int (vI x11_), .ref (ad 66)]) rfl ?_
            refine r_iload_n h dX1_lookHowFar_165 rfl 4 rfl ?_
            obtain ⟨hi35, hf⟩ := oc_some hf
            refine r_iald h dX1_lookHowFar_166 hq34.2 rC_8 rx3 (N := 14) (by rw [rN_8]; rfl) (j := (x3).toNat) rfl hi35 ?_
            refine r_iadd h dX1_lookHowFar_167 ?_
            refine r_mmin h dX1_lookHowFar_168 (gt_in5 40 rfl rfl) ms_mmin.1 ms_mmin.2.1 ms_mmin.2.2 (Nat.le_of_ble_eq_true rfl) (Nat.le_of_ble_eq_true rfl) (Nat.le_of_ble_eq_true rfl) (Nat.le_of_ble_eq_true rfl) (hs27.1 _ _) (rI_iw _) ?_
            obtain ⟨hi36, hf⟩ := oc_some hf
            refine r_iast h dX1_lookHowFar_171 hq28.2 rC_66 rx11_ (N := 8) (by rw [rN_66]; rfl) (j := (x11_).toNat) rfl hi36 (rI_zmin (hs27.1 _ _) (rI_iw _)) ?_
            refine r_os hf (fun s37 hf => ?_)
            refine r_rS h (fun hs37 => ?_)
            refine r_iinc h [(3, .int (vI (iw (x3 + 1)))), (5, .int (vI x11_)), (4, .int (vI x7_)), (0, .ref (ad 61)), (2, .int (vI y2))] dX1_lookHowFar_172 4 rfl (by decide) rfl ?_
            refine r_goto (tgt := 41) h dX1_lookHowFar_175 (by decide) ?_
            refine r_sub h [3, 4, 0] rfl ?_
            exact ih (iw (x3 + 1)) s37 (rI_iw _) hf
set_option maxRecDepth 20000 in
theorem b_Fi_lookHowFar_33 {l : Launch} {D : va_G} {cs : Nat → ClassId} {aS aV : Nat} {A : Nat → Prop} {K : KT} {ad : Nat → Nat} {n : Nat} {nl : Nat → Nat → Bool} {out : Int × SS} (h : w_Cl l rm_Fi_lookHowFar D cs aS aV A cX1_lookHowFar 6 RX1 "lookHowFar" K) (hr : w_Rt 0 cX1_lookHowFar 0 0 (w_Po ad n nl out) K) (hw : w_WH n nl) (ht : 61 < n) : ∀ (fu : Nat) (x2 : Int) (s0 : SS), rI x2 → l_Fi_lookHowFar_33 fu x2 s0 = some out → K ad n nl 0 0 33 [(0, .ref (ad 61)), (2, .int (vI x2))] [] s0 := by
  intro fu
  induction fu with
  | zero =>
    intro x2 s0 rx2 hf
    rw [l_Fi_lookHowFar_33] at hf
    cases hf
  | succ fu ih =>
    intro x2 s0 rx2 hf
    rw [l_Fi_lookHowFar_33] at hf
    refine r_rS h (fun hs0 => ?_)
    refine r_iload_n h dX1_lookHowFar_33 rfl 1 rfl ?_
    refine r_bipush h dX1_lookHowFar_34 (by decide) ?_
    refine r_icmp_ge (tgt := 184) h dX1_lookHowFar_36 (by decide) rx2 (rIc rfl) (fun hc1 => ?_) (fun hc1 => ?_)
    · have hf := ite_t hc1 hf
      exact r_ret0 (x := 0) hr dX1_lookHowFar_184 hf
    · have hf := ite_f hc1 hf
      refine r_iconst h dX1_lookHowFar_39 ?_
      refine r_istore_n h [(3, .int (vI 0)), (0, .ref (ad 61)), (2, .int (vI x2))] dX1_lookHowFar_40 rfl (by decide) rfl ?_
      refine r_sub h [1, 2, 0] rfl ?_
      exact b_Fi_lookHowFar_41 h hr hw ht rx2 (l_Fi_lookHowFar_33 fu) ih FU 0 s0 (rIc rfl) hf
set_option maxRecDepth 20000 in
theorem b_Fi_lookHowFar_2 {l : Launch} {D : va_G} {cs : Nat → ClassId} {aS aV : Nat} {A : Nat → Prop} {K : KT} {ad : Nat → Nat} {n : Nat} {nl : Nat → Nat → Bool} {out : Int × SS} (h : w_Cl l rm_Fi_lookHowFar D cs aS aV A cX1_lookHowFar 6 RX1 "lookHowFar" K) (hr : w_Rt 0 cX1_lookHowFar 0 0 (w_Po ad n nl out) K) (hw : w_WH n nl) (ht : 61 < n) {y1 : Int} (ry1 : rI y1) : ∀ (fu : Nat) (x2 : Int) (s0 : SS), rI x2 → l_Fi_lookHowFar_2 y1 fu x2 s0 = some out → K ad n nl 0 0 2 [(0, .ref (ad 61)), (1, .int (vI y1)), (2, .int (vI x2))] [] s0 := by
  intro fu
  induction fu with
  | zero =>
    intro x2 s0 rx2 hf
    rw [l_Fi_lookHowFar_2] at hf
    cases hf
  | succ fu ih =>
    intro x2 s0 rx2 hf
    rw [l_Fi_lookHowFar_2] at hf
    refine r_rS h (fun hs0 => ?_)
    refine r_iload_n h dX1_lookHowFar_2 rfl 2 rfl ?_
    refine r_bipush h dX1_lookHowFar_3 (by decide) ?_
    refine r_icmp_ge (tgt := 31) h dX1_lookHowFar_5 (by decide) rx2 (rIc rfl) (fun hc1 => ?_) (fun hc1 => ?_)
    · have hf := ite_t hc1 hf
      refine r_iconst h dX1_lookHowFar_31 ?_
      refine r_istore_n h [(2, .int (vI 0)), (0, .ref (ad 61)), (1, .int (vI y1))] dX1_lookHowFar_32 rfl (by decide) rfl ?_
      refine r_sub h [1, 0] rfl ?_
      exact b_Fi_lookHowFar_33 h hr hw ht FU 0 s0 (rIc rfl) hf
    · have hf := ite_f hc1 hf
      refine r_aload_n h dX1_lookHowFar_8 rfl 0 rfl ?_
      have hq2 := w_ref hw ht rC_61 (by decide) (k := 6) (by decide) rf_1_6
      refine g_X1_22 h dX1_lookHowFar_9 ht rC_61 hq2.1 ?_
      refine r_iload_n h dX1_lookHowFar_12 rfl 2 rfl ?_
      refine r_iload_n h dX1_lookHowFar_13 rfl 2 rfl ?_
      refine r_iload_n h dX1_lookHowFar_14 rfl 1 rfl ?_
      refine r_icmp_ne (tgt := 22) h dX1_lookHowFar_15 (by decide) rx2 ry1 (fun hc3 => ?_) (fun hc3 => ?_)
      · have hf := ite_f hc3 hf
        refine r_ldc (x := 1000000) h dX1_lookHowFar_22 (gt_in5 39 rfl rfl) rfl ?_
        exact b_Fi_lookHowFar_24 h hr hw ht y1 x2 x2 1000000 (l_Fi_lookHowFar_2 y1 fu) ih s0 ry1 rx2 rx2 (rIc rfl) hf
      · have hf := ite_nf hc3 hf
        refine r_iconst h dX1_lookHowFar_18 ?_
        refine r_goto (tgt := 24) h dX1_lookHowFar_19 (by decide) ?_
        exact b_Fi_lookHowFar_24 h hr hw ht y1 x2 x2 0 (l_Fi_lookHowFar_2 y1 fu) ih s0 ry1 rx2 rx2 (rIc rfl) hf
set_option maxRecDepth 20000 in
theorem m_Fi_lookHowFar {l : Launch} {D : va_G} {cs : Nat → ClassId} {aS aV : Nat} {A : Nat → Prop} {ad : Nat → Nat} {n : Nat} {nl : Nat → Nat → Bool} {out : Int × SS} (hw : w_WH n nl) (ht : 61 < n) {a1 : Int} (ra1 : rI a1) {s0 : SS} (hs0 : rS s0) (hf : f_Fi_lookHowFar a1 s0 = some out) : w_MC l D cs aS aV A yX1_lookHowFar cX1_lookHowFar 6 0 rm_Fi_lookHowFar ad n nl [.ref (ad 61), .int (vI a1)] s0 (w_Po ad n nl out) := by
  refine w_MC_of (by decide +kernel) (by decide) hs0 (Nat.le_of_ble_eq_true rfl) (fun K h hr => ?_)
  refine r_lv (lv' := [(0, .ref (ad 61)), (1, .int (vI a1))]) rfl ?_
  unfold f_Fi_lookHowFar at hf
  refine r_rS h (fun hs0 => ?_)
  refine r_iconst h dX1_lookHowFar_0 ?_
  refine r_istore_n h [(2, .int (vI 0)), (0, .ref (ad 61)), (1, .int (vI a1))] dX1_lookHowFar_1 rfl (by decide) rfl ?_
  refine r_sub h [1, 2, 0] rfl ?_
  exact b_Fi_lookHowFar_2 h hr hw ht ra1 FU 0 s0 (rIc rfl) hf
set_option maxRecDepth 20000 in
theorem b_Fi_firstWayNearer_2 {l : Launch} {D : va_G} {cs : Nat → ClassId} {aS aV : Nat} {A : Nat → Prop} {K : KT} {ad : Nat → Nat} {n : Nat} {nl : Nat → Nat → Bool} {out : Int × SS} (h : w_Cl l rm_Fi_firstWayNearer D cs aS aV A cX1_firstWayNearer 4 RX1 "firstWayNearer" K) (hr : w_Rt 1 cX1_firstWayNearer 0 0 (w_Po ad n nl out) K) (hw : w_WH n nl) (ht : 61 < n) {y1 : Int} (ry1 : rI y1) : ∀ (fu : Nat) (x2 : Int) (s0 : SS), rI x2 → l_Fi_firstWayNearer_2 y1 fu x2 s0 = some out → K ad n nl 0 0 2 [(0, .ref (ad 61)), (1, .int (vI y1)), (2, .int (vI x2))] [] s0 := by
  intro fu
  induction fu with
  | zero =>
    intro x2 s0 rx2 hf
    rw [l_Fi_firstWayNearer_2] at hf
    cases hf
  | succ fu ih =>
    intro x2 s0 rx2 hf
    rw [l_Fi_firstWayNearer_2] at hf
    refine r_rS h (fun hs0 => ?_)
    refine r_iload_n h dX1_firstWayNearer_2 rfl 2 rfl ?_
    refine r_aload_n h dX1_firstWayNearer_3 rfl 0 rfl ?_
    have hq1 := w_ref hw ht rC_61 (by decide) (k := 0) (by decide) rf_1_0
    refine g_X1_49 h dX1_firstWayNearer_4 ht rC_61 hq1.1 ?_
    refine g_X1_110 h dX1_firstWayNearer_7 hq1.2 rC_2 ?_
    refine r_icmp_ge (tgt := 84) h dX1_firstWayNearer_10 (by decide) rx2 (hs0.1 _ _) (fun hc2 => ?_) (fun hc2 => ?_)
    · have hf := ite_t hc2 hf
      refine r_iconst h dX1_firstWayNearer_84 ?_
      exact r_ret1 hr dX1_firstWayNearer_85 (rIc rfl) hf
    · have hf := ite_f hc2 hf
      refine r_iload_n h dX1_firstWayNearer_13 rfl 2 rfl ?_
      refine r_bipush h dX1_firstWayNearer_14 (by decide) ?_
      refine r_icmp_ge (tgt := 84) h dX1_firstWayNearer_16 (by decide) rx2 (rIc rfl) (fun hc3 => ?_) (fun hc3 => ?_)
      · have hf := ite_t hc3 hf
        refine r_iconst h dX1_firstWayNearer_84 ?_
        exact r_ret1 hr dX1_firstWayNearer_85 (rIc rfl) hf
      · have hf := ite_f hc3 hf
        refine r_aload_n h dX1_firstWayNearer_19 rfl 0 rfl ?_
        have hq4 := w_ref hw ht rC_61 (by decide) (k := 0) (by decide) rf_1_0
        refine g_X1_49 h dX1_firstWayNearer_20 ht rC_61 hq4.1 ?_
        refine r_iload_n h dX1_firstWayNearer_23 rfl 2 rfl ?_
        refine r_iload_n h dX1_firstWayNearer_24 rfl 1 rfl ?_
        obtain ⟨r5, s5, hq5, hf⟩ := ob_some hf
        refine r_callV1 h [.int (vI x2), .int (vI y1)] dX1_firstWayNearer_25 (fun hs => m_La_otherEnd hw hq4.2 rC_2 rx2 ry1 hs hq5) ml_X1_126 cv_La_otherEnd rfl (co := 4) rfl (by decide) hq4.2 rC_2 ⟨rfl, rfl⟩ ⟨Nat.le_of_ble_eq_true rfl, Nat.le_of_ble_eq_true rfl⟩ ⟨Nat.le_of_ble_eq_true rfl, Nat.le_of_ble_eq_true rfl⟩ (Nat.le_of_ble_eq_true rfl) rfl (fun hr5 hs5 => ?_)
        refine r_istore_n h [(3, .int (vI r5)), (0, .ref (ad 61)), (1, .int (vI y1)), (2, .int (vI x2))] dX1_firstWayNearer_28 rfl (by decide) rfl ?_
        refine r_aload_n h dX1_firstWayNearer_29 rfl 1 rfl ?_
        have hq6 := w_ref hw ht rC_61 (by decide) (k := 0) (by decide) rf_1_0
        refine g_X1_49 h dX1_firstWayNearer_30 ht rC_61 hq6.1 ?_
        refine r_iload_n h dX1_firstWayNearer_33 rfl 2 rfl ?_
        obtain ⟨r7, s7, hq7, hf⟩ := ob_some hf
        refine r_callV2 h [.int (vI y1)] dX1_firstWayNearer_34 (fun hs => m_La_isPlace hw hq6.2 rC_2 ry1 hs hq7) ml_X1_86 cv_La_isPlace rfl (co := 4) rfl (by decide) hq6.2 rC_2 ⟨rfl, rfl⟩ ⟨Nat.le_of_ble_eq_true rfl, Nat.le_of_ble_eq_true rfl⟩ ⟨Nat.le_of_ble_eq_true rfl, Nat.le_of_ble_eq_true rfl⟩ (Nat.le_of_ble_eq_true rfl) rfl (fun hr7 hs7 => ?_)
        refine r_if_eq (tgt := 78) h dX1_firstWayNearer_37 (by decide) (rI_b hr7) (fun hc8 => ?_) (fun hc8 => ?_)
        · have hf := ite_t hc8 hf
          refine r_iinc h [(2, .int (vI (iw (x2 + 1)))), (3, .int (vI r5)), (0, .ref (ad 61)), (1, .int (vI y1))] dX1_firstWayNearer_78 3 rfl (by decide) rfl ?_
          refine r_goto (tgt := 2) h dX1_firstWayNearer_81 (by decide) ?_
          refine r_sub h [2, 3, 0] rfl ?_
          exact ih (iw (x2 + 1)) s7 (rI_iw _) hf
        · have hf := ite_f hc8 hf
          refine r_aload_n h dX1_firstWayNearer_40 rfl 1 rfl ?_
          have hq9 := w_ref hw ht rC_61 (by decide) (k := 0) (by decide) rf_1_0
          refine g_X1_49 h dX1_firstWayNearer_41 ht rC_61 hq9.1 ?_
          refine r_iload_n h dX1_firstWayNearer_44 rfl 0 rfl ?_
          obtain ⟨r10, s10, hq10, hf⟩ := ob_some hf
          refine r_callV2 h [.int (vI r5)] dX1_firstWayNearer_45 (fun hs => m_La_isPlace hw hq9.2 rC_2 hr5 hs hq10) ml_X1_86 cv_La_isPlace rfl (co := 4) rfl (by decide) hq9.2 rC_2 ⟨rfl, rfl⟩ ⟨Nat.le_of_ble_eq_true rfl, Nat.le_of_ble_eq_true rfl⟩ ⟨Nat.le_of_ble_eq_true rfl, Nat.le_of_ble_eq_true rfl⟩ (Nat.le_of_ble_eq_true rfl) rfl (fun hr10 hs10 => ?_)
          refine r_if_eq (tgt := 78) h dX1_firstWayNearer_48 (by decide) (rI_b hr10) (fun hc11 => ?_) (fun hc11 => ?_)
          · have hf := ite_t hc11 hf
            refine r_iinc h [(2, .int (vI (iw (x2 + 1)))), (3, .int (vI r5)), (0, .ref (ad 61)), (1, .int (vI y1))] dX1_firstWayNearer_78 3 rfl (by decide) rfl ?_
            refine r_goto (tgt := 2) h dX1_firstWayNearer_81 (by decide) ?_
            refine r_sub h [2, 3, 0] rfl ?_
            exact ih (iw (x2 + 1)) s10 (rI_iw _) hf
          · have hf := ite_f hc11 hf
            refine r_aload_n h dX1_firstWayNearer_51 rfl 1 rfl ?_
            have hq12 := w_ref hw ht rC_61 (by decide) (k := 6) (by decide) rf_1_6
            refine g_X1_22 h dX1_firstWayNearer_52 ht rC_61 hq12.1 ?_
            refine r_iload_n h dX1_firstWayNearer_55 rfl 0 rfl ?_
            obtain ⟨hi13, hf⟩ := oc_some hf
            refine r_iald h dX1_firstWayNearer_56 hq12.2 rC_66 hr5 (N := 8) (by rw [rN_66]; rfl) (j := (r5).toNat) rfl hi13 ?_
            refine r_aload_n h dX1_firstWayNearer_57 rfl 1 rfl ?_
            have hq14 := w_ref hw ht rC_61 (by decide) (k := 0) (by decide) rf_1_0
            refine g_X1_49 h dX1_firstWayNearer_58 ht rC_61 hq14.1 ?_
            have hq15c := rf_4_7 _ rC_2
            have hq15 := w_ref hw hq14.2 rC_2 (by decide) (k := 7) (by decide) hq15c.1
            refine g_X1_118 h dX1_firstWayNearer_61 hq14.2 rC_2 hq15.1 ?_
            refine r_st (st0 := [.ref (ad 8), .int (vI (gi s10 66 ((r5).toNat)))]) rfl ?_
            refine r_iload_n h dX1_firstWayNearer_64 rfl 3 rfl ?_
            obtain ⟨hi16, hf⟩ := oc_some hf
            refine r_iald h dX1_firstWayNearer_65 hq15.2 rC_8 rx2 (N := 14) (by rw [rN_8]; rfl) (j := (x2).toNat) rfl hi16 ?_
            refine r_iadd h dX1_firstWayNearer_66 ?_
            refine r_aload_n h dX1_firstWayNearer_67 rfl 1 rfl ?_
            have hq17 := w_ref hw ht rC_61 (by decide) (k := 6) (by decide) rf_1_6
            refine g_X1_22 h dX1_firstWayNearer_68 ht rC_61 hq17.1 ?_
            refine r_iload_n h dX1_firstWayNearer_71 rfl 2 rfl ?_
            obtain ⟨hi18, hf⟩ := oc_some hf
            refine r_iald h dX1_firstWayNearer_72 hq17.2 rC_66 ry1 (N := 8) (by rw [rN_66]; rfl) (j := (y1).toNat) rfl hi18 ?_
            refine r_icmp_ne (tgt := 78) h dX1_firstWayNearer_73 (by decide) (rI_iw _) (hs10.1 _ _) (fun hc19 => ?_) (fun hc19 => ?_)
            · have hf := ite_f hc19 hf
              refine r_iinc h [(2, .int (vI (iw (x2 + 1)))), (3, .int (vI r5)), (0, .ref (ad 61)), (1, .int (vI y1))] dX1_firstWayNearer_78 3 rfl (by decide) rfl ?_
              refine r_goto (tgt := 2) h dX1_firstWayNearer_81 (by decide) ?_
              refine r_sub h [2, 3, 0] rfl ?_
              exact ih (iw (x2 + 1)) s10 (rI_iw _) hf
            · have hf := ite_nf hc19 hf
              refine r_iload_n h dX1_firstWayNearer_76 rfl 3 rfl ?_
              exact r_ret1 hr dX1_firstWayNearer_77 rx2 hf
set_option maxRecDepth 20000 in
theorem m_Fi_firstWayNearer {l : Launch} {D : va_G} {cs : Nat → ClassId} {aS aV : Nat} {A : Nat → Prop} {ad : Nat → Nat} {n : Nat} {nl : Nat → Nat → Bool} {out : Int × SS} (hw : w_WH n nl) (ht : 61 < n) {a1 : Int} (ra1 : rI a1) {s0 : SS} (hs0 : rS s0) (hf : f_Fi_firstWayNearer a1 s0 = some out) : w_MC l D cs aS aV A yX1_firstWayNearer cX1_firstWayNearer 4 1 rm_Fi_firstWayNearer ad n nl [.ref (ad 61), .int (vI a1)] s0 (w_Po ad n nl out) := by
  refine w_MC_of (by decide +kernel) (by decide) hs0 (Nat.le_of_ble_eq_true rfl) (fun K h hr => ?_)
  refine r_lv (lv' := [(0, .ref (ad 61)), (1, .int (vI a1))]) rfl ?_
  unfold f_Fi_firstWayNearer at hf
  refine r_rS h (fun hs0 => ?_)
  refine r_iconst h dX1_firstWayNearer_0 ?_
  refine r_istore_n h [(2, .int (vI 0)), (0, .ref (ad 61)), (1, .int (vI a1))] dX1_firstWayNearer_1 rfl (by decide) rfl ?_
  refine r_sub h [1, 2, 0] rfl ?_
  exact b_Fi_firstWayNearer_2 h hr hw ht ra1 FU 0 s0 (rIc rfl) hf
set_option maxRecDepth 20000 in
theorem b_Fi_findPath_98 {l : Launch} {D : va_G} {cs : Nat → ClassId} {aS aV : Nat} {A : Nat → Prop} {K : KT} {ad : Nat → Nat} {n : Nat} {nl : Nat → Nat → Bool} {out : Int × SS} (h : w_Cl l rm_Fi_findPath D cs aS aV A cX1_findPath 4 RX1 "findPath" K) (hr : w_Rt 1 cX1_findPath 0 0 (w_Po ad n nl out) K) (hw : w_WH n nl) (ht : 61 < n) (x1 : Int) (s0 : SS) (rx1 : rI x1) (hf : j_Fi_findPath_98 x1 s0 = some out) : K ad n nl 0 0 98 [(0, .ref (ad 61)), (1, .int (vI x1))] [] s0 := by
  unfold j_Fi_findPath_98 at hf
  refine r_rS h (fun hs0 => ?_)
  refine r_aload_n h dX1_findPath_98 rfl 0 rfl ?_
  have hq1 := w_ref hw ht rC_61 (by decide) (k := 6) (by decide) rf_1_6
  refine g_X1_22 h dX1_findPath_99 ht rC_61 hq1.1 ?_
  refine r_iload_n h dX1_findPath_102 rfl 1 rfl ?_
  obtain ⟨hi2, hf⟩ := oc_some hf
  refine r_iald h dX1_findPath_103 hq1.2 rC_66 rx1 (N := 8) (by rw [rN_66]; rfl) (j := (x1).toNat) rfl hi2 ?_
  exact r_ret1 hr dX1_findPath_104 (hs0.1 _ _) hf
set_option maxRecDepth 20000 in
theorem b_Fi_findPath_52 {l : Launch} {D : va_G} {cs : Nat → ClassId} {aS aV : Nat} {A : Nat → Prop} {K : KT} {ad : Nat → Nat} {n : Nat} {nl : Nat → Nat → Bool} {out : Int × SS} (h : w_Cl l rm_Fi_findPath D cs aS aV A cX1_findPath 4 RX1 "findPath" K) (hr : w_Rt 1 cX1_findPath 0 0 (w_Po ad n nl out) K) (hw : w_WH n nl) (ht : 61 < n) {y1 : Int} (ry1 : rI y1) {y2 : Int} (ry2 : rI y2) : ∀ (fu : Nat) (x3 : Int) (s0 : SS), rI x3 → l_Fi_findPath_52 y1 y2 fu x3 s0 = some out → K ad n nl 0 0 52 [(0, .ref (ad 61)), (1, .int (vI y1)), (2, .int (vI y2)), (3, .int (vI x3))] [] s0 := by
  intro fu
  induction fu with
  | zero =>
    intro x3 s0 rx3 hf
    rw [l_Fi_findPath_52] at hf
    cases hf
  | succ fu ih =>
    intro x3 s0 rx3 hf
    rw [l_Fi_findPath_52] at hf
    refine r_rS h (fun hs0 => ?_)
    refine r_iload_n h dX1_findPath_52 rfl 3 rfl ?_
    refine r_bipush h dX1_findPath_53 (by decide) ?_
    refine r_icmp_ge (tgt := 98) h dX1_findPath_55 (by decide) rx3 (rIc rfl) (fun hc1 => ?_) (fun hc1 => ?_)
    · have hf := ite_t hc1 hf
      refine r_sub h [0, 1] rfl ?_
      exact b_Fi_findPath_98 h hr hw ht y1 s0 ry1 hf
    · have hf := ite_f hc1 hf
      refine r_aload_n h dX1_findPath_58 rfl 0 rfl ?_
      have hq2 := w_ref hw ht rC_61 (by decide) (k := 3) (by decide) rf_1_3
      refine g_X1_12 h dX1_findPath_59 ht rC_61 hq2.1 ?_
      refine g_X1_99 h dX1_findPath_62 hq2.2 rC_62 ?_
      refine r_iload_n h dX1_findPath_65 rfl 2 rfl ?_
      refine r_icmp_eq (tgt := 98) h dX1_findPath_66 (by decide) (hs0.1 _ _) ry2 (fun hc3 => ?_) (fun hc3 => ?_)
      · have hf := ite_t hc3 hf
        refine r_sub h [0, 1] rfl ?_
        exact b_Fi_findPath_98 h hr hw ht y1 s0 ry1 hf
      · have hf := ite_f hc3 hf
        refine r_aload_n h dX1_findPath_69 rfl 0 rfl ?_
        have hq4 := w_ref hw ht rC_61 (by decide) (k := 3) (by decide) rf_1_3
        refine g_X1_12 h dX1_findPath_70 ht rC_61 hq4.1 ?_
        refine r_aload_n h dX1_findPath_73 rfl 0 rfl ?_
        have hq5 := w_ref hw ht rC_61 (by decide) (k := 0) (by decide) rf_1_0
        refine g_X1_49 h dX1_findPath_74 ht rC_61 hq5.1 ?_
        refine r_aload_n h dX1_findPath_77 rfl 0 rfl ?_
        refine r_aload_n h dX1_findPath_78 rfl 0 rfl ?_
        have hq6 := w_ref hw ht rC_61 (by decide) (k := 3) (by decide) rf_1_3
        refine g_X1_12 h dX1_findPath_79 ht rC_61 hq6.1 ?_
        refine g_X1_99 h dX1_findPath_82 hq6.2 rC_62 ?_
        obtain ⟨r7, s7, hq7, hf⟩ := ob_some hf
        refine r_callV1 h [.int (vI (gi s0 62 3))] dX1_findPath_85 (fun hs => m_Fi_firstWayNearer hw ht (hs0.1 _ _) hs hq7) ml_X1_102 cv_Fi_firstWayNearer rfl (co := 1) rfl (by decide) ht rC_61 ⟨rfl, rfl⟩ ⟨Nat.le_of_ble_eq_true rfl, Nat.le_of_ble_eq_true rfl⟩ ⟨Nat.le_of_ble_eq_true rfl, Nat.le_of_ble_eq_true rfl⟩ (Nat.le_of_ble_eq_true rfl) rfl (fun hr7 hs7 => ?_)
        obtain ⟨r8, s8, hq8, hf⟩ := ob_some hf
        refine r_callV2 h [.ref (ad 2), .int (vI r7)] dX1_findPath_88 (fun hs => m_Ro_append hw hq4.2 rC_62 hq5.2 rC_2 hr7 hs hq8) ml_X1_106 cv_Ro_append rfl (co := 7) rfl (by decide) hq4.2 rC_62 ⟨rfl, rfl⟩ ⟨Nat.le_of_ble_eq_true rfl, Nat.le_of_ble_eq_true rfl⟩ ⟨Nat.le_of_ble_eq_true rfl, Nat.le_of_ble_eq_true rfl⟩ (Nat.le_of_ble_eq_true rfl) rfl (fun hr8 hs8 => ?_)
        refine r_pop h dX1_findPath_91 rfl ?_
        refine r_iinc h [(3, .int (vI (iw (x3 + 1)))), (0, .ref (ad 61)), (1, .int (vI y1)), (2, .int (vI y2))] dX1_findPath_92 3 rfl (by decide) rfl ?_
        refine r_goto (tgt := 52) h dX1_findPath_95 (by decide) ?_
        refine r_sub h [1, 2, 3, 0] rfl ?_
        exact ih (iw (x3 + 1)) s8 (rI_iw _) hf
set_option maxRecDepth 20000 in
theorem m_Fi_findPath {l : Launch} {D : va_G} {cs : Nat → ClassId} {aS aV : Nat} {A : Nat → Prop} {ad : Nat → Nat} {n : Nat} {nl : Nat → Nat → Bool} {out : Int × SS} (hw : w_WH n nl) (ht : 61 < n) {a1 : Int} (ra1 : rI a1) {a2 : Int} (ra2 : rI a2) {s0 : SS} (hs0 : rS s0) (hf : f_Fi_findPath a1 a2 s0 = some out) : w_MC l D cs aS aV A yX1_findPath cX1_findPath 4 1 rm_Fi_findPath ad n nl [.ref (ad 61), .int (vI a1), .int (vI a2)] s0 (w_Po ad n nl out) := by
  refine w_MC_of (by decide +kernel) (by decide) hs0 (Nat.le_of_ble_eq_true rfl) (fun K h hr => ?_)
  refine r_lv (lv' := [(0, .ref (ad 61)), (1, .int (vI a1)), (2, .int (vI a2))]) rfl ?_
  unfold f_Fi_findPath at hf
  refine r_rS h (fun hs0 => ?_)
  refine r_aload_n h dX1_findPath_0 rfl 0 rfl ?_
  have hq1 := w_ref hw ht rC_61 (by decide) (k := 0) (by decide) rf_1_0
  refine g_X1_49 h dX1_findPath_1 ht rC_61 hq1.1 ?_
  refine r_iload_n h dX1_findPath_4 rfl 1 rfl ?_
  obtain ⟨r2, s2, hq2, hf⟩ := ob_some hf
  refine r_callV2 h [.int (vI a1)] dX1_findPath_5 (fun hs => m_La_isPlace hw hq1.2 rC_2 ra1 hs hq2) ml_X1_86 cv_La_isPlace rfl (co := 4) rfl (by decide) hq1.2 rC_2 ⟨rfl, rfl⟩ ⟨Nat.le_of_ble_eq_true rfl, Nat.le_of_ble_eq_true rfl⟩ ⟨Nat.le_of_ble_eq_true rfl, Nat.le_of_ble_eq_true rfl⟩ (Nat.le_of_ble_eq_true rfl) rfl (fun hr2 hs2 => ?_)
  refine r_if_eq (tgt := 22) h dX1_findPath_8 (by decide) (rI_b hr2) (fun hc3 => ?_) (fun hc3 => ?_)
  · have hf := ite_t hc3 hf
    refine r_iconst h dX1_findPath_22 ?_
    exact r_ret1 hr dX1_findPath_23 (rIc rfl) hf
  · have hf := ite_f hc3 hf
    refine r_aload_n h dX1_findPath_11 rfl 0 rfl ?_
    have hq4 := w_ref hw ht rC_61 (by decide) (k := 0) (by decide) rf_1_0
    refine g_X1_49 h dX1_findPath_12 ht rC_61 hq4.1 ?_
    refine r_iload_n h dX1_findPath_15 rfl 2 rfl ?_
    obtain ⟨r5, s5, hq5, hf⟩ := ob_some hf
    refine r_callV2 h [.int (vI a2)] dX1_findPath_16 (fun hs => m_La_isPlace hw hq4.2 rC_2 ra2 hs hq5) ml_X1_86 cv_La_isPlace rfl (co := 4) rfl (by decide) hq4.2 rC_2 ⟨rfl, rfl⟩ ⟨Nat.le_of_ble_eq_true rfl, Nat.le_of_ble_eq_true rfl⟩ ⟨Nat.le_of_ble_eq_true rfl, Nat.le_of_ble_eq_true rfl⟩ (Nat.le_of_ble_eq_true rfl) rfl (fun hr5 hs5 => ?_)
    refine r_if_ne (tgt := 24) h dX1_findPath_19 (by decide) (rI_b hr5) (fun hc6 => ?_) (fun hc6 => ?_)
    · have hf := ite_f hc6 hf
      refine r_aload_n h dX1_findPath_24 rfl 0 rfl ?_
      refine r_iload_n h dX1_findPath_25 rfl 2 rfl ?_
      obtain ⟨r7, s7, hq7, hf⟩ := ob_some hf
      refine r_callV0 h [.int (vI a2)] dX1_findPath_26 (fun hs => m_Fi_lookHowFar hw ht ra2 hs hq7) ml_X1_92 cv_Fi_lookHowFar rfl (co := 1) rfl (by decide) ht rC_61 ⟨rfl, rfl⟩ ⟨Nat.le_of_ble_eq_true rfl, Nat.le_of_ble_eq_true rfl⟩ ⟨Nat.le_of_ble_eq_true rfl, Nat.le_of_ble_eq_true rfl⟩ (Nat.le_of_ble_eq_true rfl) rfl (fun hr7 hs7 => ?_)
      refine r_aload_n h dX1_findPath_29 rfl 0 rfl ?_
      have hq8 := w_ref hw ht rC_61 (by decide) (k := 6) (by decide) rf_1_6
      refine g_X1_22 h dX1_findPath_30 ht rC_61 hq8.1 ?_
      refine r_iload_n h dX1_findPath_33 rfl 1 rfl ?_
      obtain ⟨hi9, hf⟩ := oc_some hf
      refine r_iald h dX1_findPath_34 hq8.2 rC_66 ra1 (N := 8) (by rw [rN_66]; rfl) (j := (a1).toNat) rfl hi9 ?_
      refine r_ldc (x := 1000000) h dX1_findPath_35 (gt_in5 39 rfl rfl) rfl ?_
      refine r_icmp_lt (tgt := 42) h dX1_findPath_37 (by decide) (hs7.1 _ _) (rIc rfl) (fun hc10 => ?_) (fun hc10 => ?_)
      · have hf := ite_t hc10 hf
        refine r_aload_n h dX1_findPath_42 rfl 0 rfl ?_
        have hq11 := w_ref hw ht rC_61 (by decide) (k := 3) (by decide) rf_1_3
        refine g_X1_12 h dX1_findPath_43 ht rC_61 hq11.1 ?_
        refine r_iload_n h dX1_findPath_46 rfl 1 rfl ?_
        obtain ⟨r12, s12, hq12, hf⟩ := ob_some hf
        refine r_callV0 h [.int (vI a1)] dX1_findPath_47 (fun hs => m_Ro_reset hw hq11.2 rC_62 ra1 hs hq12) ml_X1_96 cv_Ro_reset rfl (co := 7) rfl (by decide) hq11.2 rC_62 ⟨rfl, rfl⟩ ⟨Nat.le_of_ble_eq_true rfl, Nat.le_of_ble_eq_true rfl⟩ ⟨Nat.le_of_ble_eq_true rfl, Nat.le_of_ble_eq_true rfl⟩ (Nat.le_of_ble_eq_true rfl) rfl (fun hr12 hs12 => ?_)
        refine r_iconst h dX1_findPath_50 ?_
        refine r_istore_n h [(3, .int (vI 0)), (0, .ref (ad 61)), (1, .int (vI a1)), (2, .int (vI a2))] dX1_findPath_51 rfl (by decide) rfl ?_
        refine r_sub h [1, 2, 3, 0] rfl ?_
        exact b_Fi_findPath_52 h hr hw ht ra1 ra2 FU 0 s12 (rIc rfl) hf
      · have hf := ite_f hc10 hf
        refine r_iconst h dX1_findPath_40 ?_
        exact r_ret1 hr dX1_findPath_41 (rIc rfl) hf
    · have hf := ite_nf hc6 hf
      refine r_iconst h dX1_findPath_22 ?_
      exact r_ret1 hr dX1_findPath_23 (rIc rfl) hf
set_option maxRecDepth 20000 in
theorem b_Fi_layShortest_21 {l : Launch} {D : va_G} {cs : Nat → ClassId} {aS aV : Nat} {A : Nat → Prop} {K : KT} {ad : Nat → Nat} {n : Nat} {nl : Nat → Nat → Bool} {out : Int × SS} (h : w_Cl l rm_Fi_layShortest D cs aS aV A cX1_layShortest 5 RX1 "layShortest" K) (hr : w_Rt 1 cX1_layShortest 0 0 (w_Po ad n nl out) K) (hw : w_WH n nl) (ht : 61 < n) {y3 : Int} (ry3 : rI y3) : ∀ (fu : Nat) (x4 : Int) (s0 : SS), rI x4 → l_Fi_layShortest_21 y3 fu x4 s0 = some out → K ad n nl 0 0 21 [(0, .ref (ad 61)), (3, .int (vI y3)), (4, .int (vI x4))] [] s0 := by
  intro fu
  induction fu with
  | zero =>
    intro x4 s0 rx4 hf
    rw [l_Fi_layShortest_21] at hf
    cases hf
  | succ fu ih =>
    intro x4 s0 rx4 hf
    rw [l_Fi_layShortest_21] at hf
    refine r_rS h (fun hs0 => ?_)
    refine r_iload h dX1_layShortest_21 2 rfl ?_
    refine r_aload_n h dX1_layShortest_23 rfl 0 rfl ?_
    have hq1 := w_ref hw ht rC_61 (by decide) (k := 3) (by decide) rf_1_3
    refine g_X1_12 h dX1_layShortest_24 ht rC_61 hq1.1 ?_
    refine g_X1_76 h dX1_layShortest_27 hq1.2 rC_62 ?_
    refine r_icmp_ge (tgt := 60) h dX1_layShortest_30 (by decide) rx4 (hs0.1 _ _) (fun hc2 => ?_) (fun hc2 => ?_)
    · have hf := ite_t hc2 hf
      refine r_iload_n h dX1_layShortest_60 rfl 1 rfl ?_
      exact r_ret1 hr dX1_layShortest_61 ry3 hf
    · have hf := ite_f hc2 hf
      refine r_iload h dX1_layShortest_33 2 rfl ?_
      refine r_bipush h dX1_layShortest_35 (by decide) ?_
      refine r_icmp_ge (tgt := 60) h dX1_layShortest_37 (by decide) rx4 (rIc rfl) (fun hc3 => ?_) (fun hc3 => ?_)
      · have hf := ite_t hc3 hf
        refine r_iload_n h dX1_layShortest_60 rfl 1 rfl ?_
        exact r_ret1 hr dX1_layShortest_61 ry3 hf
      · have hf := ite_f hc3 hf
        refine r_aload_n h dX1_layShortest_40 rfl 0 rfl ?_
        refine r_aload_n h dX1_layShortest_41 rfl 0 rfl ?_
        have hq4 := w_ref hw ht rC_61 (by decide) (k := 3) (by decide) rf_1_3
        refine g_X1_12 h dX1_layShortest_42 ht rC_61 hq4.1 ?_
        have hq5c := rf_7_0 _ rC_62
        have hq5 := w_ref hw hq4.2 rC_62 (by decide) (k := 0) (by decide) hq5c.1
        refine g_X1_79 h dX1_layShortest_45 hq4.2 rC_62 hq5.1 ?_
        refine r_st (st0 := [.ref (ad 63), .ref (ad 61)]) rfl ?_
        refine r_iload h dX1_layShortest_48 2 rfl ?_
        obtain ⟨hi6, hf⟩ := oc_some hf
        refine r_iald h dX1_layShortest_50 hq5.2 rC_63 rx4 (N := 12) (by rw [rN_63]; rfl) (j := (x4).toNat) rfl hi6 ?_
        obtain ⟨r7, s7, hq7, hf⟩ := ob_some hf
        refine r_callV0 h [.int (vI (gi s0 63 ((x4).toNat)))] dX1_layShortest_51 (fun hs => m_Fi_lay hw ht (hs0.1 _ _) hs hq7) ml_X1_82 cv_Fi_lay rfl (co := 1) rfl (by decide) ht rC_61 ⟨rfl, rfl⟩ ⟨Nat.le_of_ble_eq_true rfl, Nat.le_of_ble_eq_true rfl⟩ ⟨Nat.le_of_ble_eq_true rfl, Nat.le_of_ble_eq_true rfl⟩ (Nat.le_of_ble_eq_true rfl) rfl (fun hr7 hs7 => ?_)
        refine r_iinc h [(4, .int (vI (iw (x4 + 1)))), (0, .ref (ad 61)), (3, .int (vI y3))] dX1_layShortest_54 2 rfl (by decide) rfl ?_
        refine r_goto (tgt := 21) h dX1_layShortest_57 (by decide) ?_
        refine r_sub h [1, 2, 0] rfl ?_
        exact ih (iw (x4 + 1)) s7 (rI_iw _) hf
set_option maxRecDepth 20000 in
theorem m_Fi_layShortest {l : Launch} {D : va_G} {cs : Nat → ClassId} {aS aV : Nat} {A : Nat → Prop} {ad : Nat → Nat} {n : Nat} {nl : Nat → Nat → Bool} {out : Int × SS} (hw : w_WH n nl) (ht : 61 < n) {a1 : Int} (ra1 : rI a1) {a2 : Int} (ra2 : rI a2) {s0 : SS} (hs0 : rS s0) (hf : f_Fi_layShortest a1 a2 s0 = some out) : w_MC l D cs aS aV A yX1_layShortest cX1_layShortest 5 1 rm_Fi_layShortest ad n nl [.ref (ad 61), .int (vI a1), .int (vI a2)] s0 (w_Po ad n nl out) := by
  refine w_MC_of (by decide +kernel) (by decide) hs0 (Nat.le_of_ble_eq_true rfl) (fun K h hr => ?_)
  refine r_lv (lv' := [(0, .ref (ad 61)), (1, .int (vI a1)), (2, .int (vI a2))]) rfl ?_
  unfold f_Fi_layShortest at hf
  refine r_rS h (fun hs0 => ?_)
  refine r_aload_n h dX1_layShortest_0 rfl 0 rfl ?_
  obtain ⟨r1, s1, hq1, hf⟩ := ob_some hf
  refine r_callV0 h [] dX1_layShortest_1 (fun hs => m_Fi_layNothing hw ht hs hq1) ml_X1_69 cv_Fi_layNothing rfl (co := 1) rfl (by decide) ht rC_61 ⟨rfl, rfl⟩ ⟨Nat.le_of_ble_eq_true rfl, Nat.le_of_ble_eq_true rfl⟩ ⟨Nat.le_of_ble_eq_true rfl, Nat.le_of_ble_eq_true rfl⟩ (Nat.le_of_ble_eq_true rfl) rfl (fun hr1 hs1 => ?_)
  refine r_aload_n h dX1_layShortest_4 rfl 0 rfl ?_
  refine r_iload_n h dX1_layShortest_5 rfl 1 rfl ?_
  refine r_iload_n h dX1_layShortest_6 rfl 2 rfl ?_
  obtain ⟨r2, s2, hq2, hf⟩ := ob_some hf
  refine r_callV1 h [.int (vI a1), .int (vI a2)] dX1_layShortest_7 (fun hs => m_Fi_findPath hw ht ra1 ra2 hs hq2) ml_X1_72 cv_Fi_findPath rfl (co := 1) rfl (by decide) ht rC_61 ⟨rfl, rfl⟩ ⟨Nat.le_of_ble_eq_true rfl, Nat.le_of_ble_eq_true rfl⟩ ⟨Nat.le_of_ble_eq_true rfl, Nat.le_of_ble_eq_true rfl⟩ (Nat.le_of_ble_eq_true rfl) rfl (fun hr2 hs2 => ?_)
  refine r_istore_n h [(3, .int (vI r2)), (0, .ref (ad 61)), (1, .int (vI a1)), (2, .int (vI a2))] dX1_layShortest_10 rfl (by decide) rfl ?_
  refine r_iload_n h dX1_layShortest_11 rfl 0 rfl ?_
  refine r_iconst h dX1_layShortest_12 ?_
  refine r_icmp_ne (tgt := 18) h dX1_layShortest_13 (by decide) hr2 (rIc rfl) (fun hc3 => ?_) (fun hc3 => ?_)
  · have hf := ite_f hc3 hf
    refine r_iconst h dX1_layShortest_18 ?_
    refine r_istore h [(4, .int (vI 0)), (3, .int (vI r2)), (0, .ref (ad 61)), (1, .int (vI a1)), (2, .int (vI a2))] dX1_layShortest_19 (by decide) rfl ?_
    refine r_sub h [2, 1, 0] rfl ?_
    exact b_Fi_layShortest_21 h hr hw ht hr2 FU 0 s2 (rIc rfl) hf
  · have hf := ite_nf hc3 hf
    refine r_iconst h dX1_layShortest_16 ?_
    exact r_ret1 hr dX1_layShortest_17 (rIc rfl) hf
set_option maxRecDepth 20000 in
theorem m_Fi_endsJustBehindPath {l : Launch} {D : va_G} {cs : Nat → ClassId} {aS aV : Nat} {A : Nat → Prop} {ad : Nat → Nat} {n : Nat} {nl : Nat → Nat → Bool} {out : Int × SS} (hw : w_WH n nl) (ht : 61 < n) {a1 : Int} (ra1 : rI a1) {s0 : SS} (hs0 : rS s0) (hf : f_Fi_endsJustBehindPath a1 s0 = some out) : w_MC l D cs aS aV A yX1_endsJustBehindPath cX1_endsJustBehindPath 2 2 rm_Fi_endsJustBehindPath ad n nl [.ref (ad 61), .int (vI a1)] s0 (w_Po ad n nl out) := by
  refine w_MC_of (by decide +kernel) (by decide) hs0 (Nat.le_of_ble_eq_true rfl) (fun K h hr => ?_)
  refine r_lv (lv' := [(0, .ref (ad 61)), (1, .int (vI a1))]) rfl ?_
  unfold f_Fi_endsJustBehindPath at hf
  refine r_rS h (fun hs0 => ?_)
  refine r_aload_n h dX1_endsJustBehindPath_0 rfl 0 rfl ?_
  have hq1 := w_ref hw ht rC_61 (by decide) (k := 2) (by decide) rf_1_2
  refine g_X1_61 h dX1_endsJustBehindPath_1 ht rC_61 hq1.1 ?_
  refine r_iload_n h dX1_endsJustBehindPath_4 rfl 1 rfl ?_
  obtain ⟨r2, s2, hq2, hf⟩ := ob_some hf
  refine r_callV0 h [.int (vI a1)] dX1_endsJustBehindPath_5 (fun hs => m_St_begin hw hq1.2 rC_75 ra1 hs hq2) ml_X1_135 cv_St_begin rfl (co := 8) rfl (by decide) hq1.2 rC_75 ⟨rfl, rfl⟩ ⟨Nat.le_of_ble_eq_true rfl, Nat.le_of_ble_eq_true rfl⟩ ⟨Nat.le_of_ble_eq_true rfl, Nat.le_of_ble_eq_true rfl⟩ (Nat.le_of_ble_eq_true rfl) rfl (fun hr2 hs2 => ?_)
  refine r_aload_n h dX1_endsJustBehindPath_8 rfl 0 rfl ?_
  have hq3 := w_ref hw ht rC_61 (by decide) (k := 2) (by decide) rf_1_2
  refine g_X1_61 h dX1_endsJustBehindPath_9 ht rC_61 hq3.1 ?_
  refine r_aload_n h dX1_endsJustBehindPath_12 rfl 0 rfl ?_
  have hq4 := w_ref hw ht rC_61 (by decide) (k := 1) (by decide) rf_1_1
  refine g_X1_53 h dX1_endsJustBehindPath_13 ht rC_61 hq4.1 ?_
  refine r_aload_n h dX1_endsJustBehindPath_16 rfl 0 rfl ?_
  have hq5 := w_ref hw ht rC_61 (by decide) (k := 3) (by decide) rf_1_3
  refine g_X1_12 h dX1_endsJustBehindPath_17 ht rC_61 hq5.1 ?_
  obtain ⟨r6, s6, hq6, hf⟩ := ob_some hf
  refine r_callV2 h [.ref (ad 47), .ref (ad 62)] dX1_endsJustBehindPath_20 (fun hs => m_St_goOn hw hq3.2 rC_75 hq4.2 rC_47 hq5.2 rC_62 hs hq6) ml_X1_138 cv_St_goOn rfl (co := 8) rfl (by decide) hq3.2 rC_75 ⟨rfl, rfl⟩ ⟨Nat.le_of_ble_eq_true rfl, Nat.le_of_ble_eq_true rfl⟩ ⟨Nat.le_of_ble_eq_true rfl, Nat.le_of_ble_eq_true rfl⟩ (Nat.le_of_ble_eq_true rfl) rfl (fun hr6 hs6 => ?_)
  refine r_if_eq (tgt := 44) h dX1_endsJustBehindPath_23 (by decide) (rI_b hr6) (fun hc7 => ?_) (fun hc7 => ?_)
  · have hf := ite_t hc7 hf
    refine r_iconst h dX1_endsJustBehindPath_44 ?_
    exact r_ret2 hr dX1_endsJustBehindPath_45 (Or.inl rfl) hf
  · have hf := ite_f hc7 hf
    refine r_aload_n h dX1_endsJustBehindPath_26 rfl 0 rfl ?_
    have hq8 := w_ref hw ht rC_61 (by decide) (k := 2) (by decide) rf_1_2
    refine g_X1_61 h dX1_endsJustBehindPath_27 ht rC_61 hq8.1 ?_
    refine r_aload_n h dX1_endsJustBehindPath_30 rfl 0 rfl ?_
    have hq9 := w_ref hw ht rC_61 (by decide) (k := 3) (by decide) rf_1_3
    refine g_X1_12 h dX1_endsJustBehindPath_31 ht rC_61 hq9.1 ?_
    obtain ⟨r10, s10, hq10, hf⟩ := ob_some hf
    refine r_callV2 h [.ref (ad 62)] dX1_endsJustBehindPath_34 (fun hs => m_St_isAtEnd hw hq8.2 rC_75 hq9.2 rC_62 hs hq10) ml_X1_142 cv_St_isAtEnd rfl (co := 8) rfl (by decide) hq8.2 rC_75 ⟨rfl, rfl⟩ ⟨Nat.le_of_ble_eq_true rfl, Nat.le_of_ble_eq_true rfl⟩ ⟨Nat.le_of_ble_eq_true rfl, Nat.le_of_ble_eq_true rfl⟩ (Nat.le_of_ble_eq_true rfl) rfl (fun hr10 hs10 => ?_)
    refine r_if_eq (tgt := 44) h dX1_endsJustBehindPath_37 (by decide) (rI_b hr10) (fun hc11 => ?_) (fun hc11 => ?_)
    · have hf := ite_t hc11 hf
      refine r_iconst h dX1_endsJustBehindPath_44 ?_
      exact r_ret2 hr dX1_endsJustBehindPath_45 (Or.inl rfl) hf
    · have hf := ite_f hc11 hf
      refine r_iconst h dX1_endsJustBehindPath_40 ?_
      refine r_goto (tgt := 45) h dX1_endsJustBehindPath_41 (by decide) ?_
      exact r_ret2 hr dX1_endsJustBehindPath_45 (Or.inr rfl) hf
set_option maxRecDepth 20000 in
theorem b_Fi_laySent_21 {l : Launch} {D : va_G} {cs : Nat → ClassId} {aS aV : Nat} {A : Nat → Prop} {K : KT} {ad : Nat → Nat} {n : Nat} {nl : Nat → Nat → Bool} {out : Int × SS} (h : w_Cl l rm_Fi_laySent D cs aS aV A cX1_laySent 5 RX1 "laySent" K) (hr : w_Rt 1 cX1_laySent 0 0 (w_Po ad n nl out) K) (hw : w_WH n nl) (ht : 61 < n) : ∀ (fu : Nat) (x3 : Int) (x4 : Int) (s0 : SS), rI x3 → rI x4 → l_Fi_laySent_21 fu x3 x4 s0 = some out → K ad n nl 0 0 21 [(0, .ref (ad 61)), (3, .int (vI x3)), (4, .int (vI x4))] [] s0 := by
  intro fu
  induction fu with
  | zero =>
    intro x3 x4 s0 rx3 rx4 hf
    rw [l_Fi_laySent_21] at hf
    cases hf
  | succ fu ih =>
    intro x3 x4 s0 rx3 rx4 hf
    rw [l_Fi_laySent_21] at hf
    refine r_rS h (fun hs0 => ?_)
    refine r_iload h dX1_laySent_21 2 rfl ?_
    refine r_sipush h dX1_laySent_23 (by decide) ?_
    refine r_icmp_ge (tgt := 93) h dX1_laySent_26 (by decide) rx4 (rIc rfl) (fun hc1 => ?_) (fun hc1 => ?_)
    · have hf := ite_t hc1 hf
      refine r_iload_n h dX1_laySent_93 rfl 1 rfl ?_
      exact r_ret1 hr dX1_laySent_94 rx3 hf
    · have hf := ite_f hc1 hf
      refine r_aload_n h dX1_laySent_29 rfl 0 rfl ?_
      have hq2 := w_ref hw ht rC_61 (by decide) (k := 0) (by decide) rf_1_0
      refine g_X1_49 h dX1_laySent_30 ht rC_61 hq2.1 ?_
      refine r_iload h dX1_laySent_33 2 rfl ?_
      obtain ⟨r3, s3, hq3, hf⟩ := ob_some hf
      refine r_callV2 h [.int (vI x4)] dX1_laySent_35 (fun hs => m_La_isCouple hw hq2.2 rC_2 rx4 hs hq3) ml_X1_129 cv_La_isCouple rfl (co := 4) rfl (by decide) hq2.2 rC_2 ⟨rfl, rfl⟩ ⟨Nat.le_of_ble_eq_true rfl, Nat.le_of_ble_eq_true rfl⟩ ⟨Nat.le_of_ble_eq_true rfl, Nat.le_of_ble_eq_true rfl⟩ (Nat.le_of_ble_eq_true rfl) rfl (fun hr3 hs3 => ?_)
      refine r_if_eq (tgt := 87) h dX1_laySent_38 (by decide) (rI_b hr3) (fun hc4 => ?_) (fun hc4 => ?_)
      · have hf := ite_t hc4 hf
        refine r_iinc h [(4, .int (vI (iw (x4 + 1)))), (0, .ref (ad 61)), (3, .int (vI x3))] dX1_laySent_87 2 rfl (by decide) rfl ?_
        refine r_goto (tgt := 21) h dX1_laySent_90 (by decide) ?_
        refine r_sub h [1, 2, 0] rfl ?_
        exact ih x3 (iw (x4 + 1)) s3 rx3 (rI_iw _) hf
      · have hf := ite_f hc4 hf
        refine r_aload_n h dX1_laySent_41 rfl 0 rfl ?_
        refine r_iload h dX1_laySent_42 2 rfl ?_
        obtain ⟨r5, s5, hq5, hf⟩ := ob_some hf
        refine r_callV2 h [.int (vI x4)] dX1_laySent_44 (fun hs => m_Fi_endsJustBehindPath hw ht rx4 hs hq5) ml_X1_132 cv_Fi_endsJustBehindPath rfl (co := 1) rfl (by decide) ht rC_61 ⟨rfl, rfl⟩ ⟨Nat.le_of_ble_eq_true rfl, Nat.le_of_ble_eq_true rfl⟩ ⟨Nat.le_of_ble_eq_true rfl, Nat.le_of_ble_eq_true rfl⟩ (Nat.le_of_ble_eq_true rfl) rfl (fun hr5 hs5 => ?_)
        refine r_if_eq (tgt := 87) h dX1_laySent_47 (by decide) (rI_b hr5) (fun hc6 => ?_) (fun hc6 => ?_)
        · have hf := ite_t hc6 hf
          refine r_iinc h [(4, .int (vI (iw (x4 + 1)))), (0, .ref (ad 61)), (3, .int (vI x3))] dX1_laySent_87 2 rfl (by decide) rfl ?_
          refine r_goto (tgt := 21) h dX1_laySent_90 (by decide) ?_
          refine r_sub h [1, 2, 0] rfl ?_
          exact ih x3 (iw (x4 + 1)) s5 rx3 (rI_iw _) hf
        · have hf := ite_f hc6 hf
          refine r_iload_n h dX1_laySent_50 rfl 1 rfl ?_
          refine r_if_ne (tgt := 84) h dX1_laySent_51 (by decide) rx3 (fun hc7 => ?_) (fun hc7 => ?_)
          · have hf := ite_f hc7 hf
            refine r_iinc h [(3, .int (vI (iw (x3 + 1)))), (0, .ref (ad 61)), (4, .int (vI x4))] dX1_laySent_84 1 rfl (by decide) rfl ?_
            refine r_iinc h [(4, .int (vI (iw (x4 + 1)))), (3, .int (vI (iw (x3 + 1)))), (0, .ref (ad 61))] dX1_laySent_87 2 rfl (by decide) rfl ?_
            refine r_goto (tgt := 21) h dX1_laySent_90 (by decide) ?_
            refine r_sub h [2, 1, 0] rfl ?_
            exact ih (iw (x3 + 1)) (iw (x4 + 1)) s5 (rI_iw _) (rI_iw _) hf
          · have hf := ite_nf hc7 hf
            refine r_aload_n h dX1_laySent_54 rfl 0 rfl ?_
            refine r_iload h dX1_laySent_55 2 rfl ?_
            refine r_bipush h dX1_laySent_57 (by decide) ?_
            refine r_idivP h dX1_laySent_59 rx4 (rIc rfl) (by decide) ?_
            obtain ⟨r8, s8, hq8, hf⟩ := ob_some hf
            refine r_callV0 h [.int (vI (Int.tdiv x4 100))] dX1_laySent_60 (fun hs => m_Fi_lay hw ht (rI_tdivP rx4 (by decide)) hs hq8) ml_X1_82 cv_Fi_lay rfl (co := 1) rfl (by decide) ht rC_61 ⟨rfl, rfl⟩ ⟨Nat.le_of_ble_eq_true rfl, Nat.le_of_ble_eq_true rfl⟩ ⟨Nat.le_of_ble_eq_true rfl, Nat.le_of_ble_eq_true rfl⟩ (Nat.le_of_ble_eq_true rfl) rfl (fun hr8 hs8 => ?_)
            refine r_aload_n h dX1_laySent_63 rfl 0 rfl ?_
            refine r_iload h dX1_laySent_64 2 rfl ?_
            refine r_bipush h dX1_laySent_66 (by decide) ?_
            refine r_idivP h dX1_laySent_68 rx4 (rIc rfl) (by decide) ?_
            refine r_bipush h dX1_laySent_69 (by decide) ?_
            refine r_irem h dX1_laySent_71 (rI_tdivP rx4 (by decide)) (rIc rfl) (by decide) ?_
            obtain ⟨r9, s9, hq9, hf⟩ := ob_some hf
            refine r_callV0 h [.int (vI (Int.tmod (Int.tdiv x4 10) 10))] dX1_laySent_72 (fun hs => m_Fi_lay hw ht (rI_tmod (rI_tdivP rx4 (by decide)) (rIc rfl)) hs hq9) ml_X1_82 cv_Fi_lay rfl (co := 1) rfl (by decide) ht rC_61 ⟨rfl, rfl⟩ ⟨Nat.le_of_ble_eq_true rfl, Nat.le_of_ble_eq_true rfl⟩ ⟨Nat.le_of_ble_eq_true rfl, Nat.le_of_ble_eq_true rfl⟩ (Nat.le_of_ble_eq_true rfl) rfl (fun hr9 hs9 => ?_)
            refine r_aload_n h dX1_laySent_75 rfl 0 rfl ?_
            refine r_iload h dX1_laySent_76 2 rfl ?_
            refine r_bipush h dX1_laySent_78 (by decide) ?_
            refine r_irem h dX1_laySent_80 rx4 (rIc rfl) (by decide) ?_
            obtain ⟨r10, s10, hq10, hf⟩ := ob_some hf
            refine r_callV0 h [.int (vI (Int.tmod x4 10))] dX1_laySent_81 (fun hs => m_Fi_lay hw ht (rI_tmod rx4 (rIc rfl)) hs hq10) ml_X1_82 cv_Fi_lay rfl (co := 1) rfl (by decide) ht rC_61 ⟨rfl, rfl⟩ ⟨Nat.le_of_ble_eq_true rfl, Nat.le_of_ble_eq_true rfl⟩ ⟨Nat.le_of_ble_eq_true rfl, Nat.le_of_ble_eq_true rfl⟩ (Nat.le_of_ble_eq_true rfl) rfl (fun hr10 hs10 => ?_)
            refine r_iinc h [(3, .int (vI (iw (x3 + 1)))), (0, .ref (ad 61)), (4, .int (vI x4))] dX1_laySent_84 1 rfl (by decide) rfl ?_
            refine r_iinc h [(4, .int (vI (iw (x4 + 1)))), (3, .int (vI (iw (x3 + 1)))), (0, .ref (ad 61))] dX1_laySent_87 2 rfl (by decide) rfl ?_
            refine r_goto (tgt := 21) h dX1_laySent_90 (by decide) ?_
            refine r_sub h [2, 1, 0] rfl ?_
            exact ih (iw (x3 + 1)) (iw (x4 + 1)) s10 (rI_iw _) (rI_iw _) hf
set_option maxRecDepth 20000 in
theorem m_Fi_laySent {l : Launch} {D : va_G} {cs : Nat → ClassId} {aS aV : Nat} {A : Nat → Prop} {ad : Nat → Nat} {n : Nat} {nl : Nat → Nat → Bool} {out : Int × SS} (hw : w_WH n nl) (ht : 61 < n) {a1 : Int} (ra1 : rI a1) {a2 : Int} (ra2 : rI a2) {s0 : SS} (hs0 : rS s0) (hf : f_Fi_laySent a1 a2 s0 = some out) : w_MC l D cs aS aV A yX1_laySent cX1_laySent 5 1 rm_Fi_laySent ad n nl [.ref (ad 61), .int (vI a1), .int (vI a2)] s0 (w_Po ad n nl out) := by
  refine w_MC_of (by decide +kernel) (by decide) hs0 (Nat.le_of_ble_eq_true rfl) (fun K h hr => ?_)
  refine r_lv (lv' := [(0, .ref (ad 61)), (1, .int (vI a1)), (2, .int (vI a2))]) rfl ?_
  unfold f_Fi_laySent at hf
  refine r_rS h (fun hs0 => ?_)
  refine r_aload_n h dX1_laySent_0 rfl 0 rfl ?_
  obtain ⟨r1, s1, hq1, hf⟩ := ob_some hf
  refine r_callV0 h [] dX1_laySent_1 (fun hs => m_Fi_layNothing hw ht hs hq1) ml_X1_69 cv_Fi_layNothing rfl (co := 1) rfl (by decide) ht rC_61 ⟨rfl, rfl⟩ ⟨Nat.le_of_ble_eq_true rfl, Nat.le_of_ble_eq_true rfl⟩ ⟨Nat.le_of_ble_eq_true rfl, Nat.le_of_ble_eq_true rfl⟩ (Nat.le_of_ble_eq_true rfl) rfl (fun hr1 hs1 => ?_)
  refine r_aload_n h dX1_laySent_4 rfl 0 rfl ?_
  refine r_iload_n h dX1_laySent_5 rfl 1 rfl ?_
  refine r_iload_n h dX1_laySent_6 rfl 2 rfl ?_
  obtain ⟨r2, s2, hq2, hf⟩ := ob_some hf
  refine r_callV1 h [.int (vI a1), .int (vI a2)] dX1_laySent_7 (fun hs => m_Fi_findPath hw ht ra1 ra2 hs hq2) ml_X1_72 cv_Fi_findPath rfl (co := 1) rfl (by decide) ht rC_61 ⟨rfl, rfl⟩ ⟨Nat.le_of_ble_eq_true rfl, Nat.le_of_ble_eq_true rfl⟩ ⟨Nat.le_of_ble_eq_true rfl, Nat.le_of_ble_eq_true rfl⟩ (Nat.le_of_ble_eq_true rfl) rfl (fun hr2 hs2 => ?_)
  refine r_iconst h dX1_laySent_10 ?_
  refine r_icmp_ne (tgt := 16) h dX1_laySent_11 (by decide) hr2 (rIc rfl) (fun hc3 => ?_) (fun hc3 => ?_)
  · have hf := ite_f hc3 hf
    refine r_iconst h dX1_laySent_16 ?_
    refine r_istore_n h [(3, .int (vI 0)), (0, .ref (ad 61)), (1, .int (vI a1)), (2, .int (vI a2))] dX1_laySent_17 rfl (by decide) rfl ?_
    refine r_iconst h dX1_laySent_18 ?_
    refine r_istore h [(4, .int (vI 0)), (3, .int (vI 0)), (0, .ref (ad 61)), (1, .int (vI a1)), (2, .int (vI a2))] dX1_laySent_19 (by decide) rfl ?_
    refine r_sub h [2, 1, 0] rfl ?_
    exact b_Fi_laySent_21 h hr hw ht FU 0 0 s2 (rIc rfl) (rIc rfl) hf
  · have hf := ite_nf hc3 hf
    refine r_iconst h dX1_laySent_14 ?_
    exact r_ret1 hr dX1_laySent_15 (rIc rfl) hf
set_option maxRecDepth 20000 in
theorem b_Fi_setPath_40 {l : Launch} {D : va_G} {cs : Nat → ClassId} {aS aV : Nat} {A : Nat → Prop} {K : KT} {ad : Nat → Nat} {n : Nat} {nl : Nat → Nat → Bool} {out : Int × SS} (h : w_Cl l rm_Fi_setPath D cs aS aV A cX1_setPath 3 RX1 "setPath" K) (hr : w_Rt 0 cX1_setPath 0 0 (w_Po ad n nl out) K) (hw : w_WH n nl) (ht : 61 < n) (x1 : Int) (z1 : Int) (s0 : SS) (rx1 : rI x1) (rz1 : rI z1) (hf : j_Fi_setPath_40 x1 z1 s0 = some out) : K ad n nl 0 0 40 [(0, .ref (ad 61)), (1, .int (vI x1))] [.int (vI z1), .ref (ad 62)] s0 := by
  unfold j_Fi_setPath_40 at hf
  have q62_0 := w_ref hw ht rC_61 (by decide) (k := 3) (by decide) rf_1_3
  refine r_rS h (fun hs0 => ?_)
  obtain ⟨r1, s1, hq1, hf⟩ := ob_some hf
  refine r_callV0 h [.int (vI z1)] dX1_setPath_40 (fun hs => m_Ro_reset hw q62_0.2 rC_62 rz1 hs hq1) ml_X1_96 cv_Ro_reset rfl (co := 7) rfl (by decide) q62_0.2 rC_62 ⟨rfl, rfl⟩ ⟨Nat.le_of_ble_eq_true rfl, Nat.le_of_ble_eq_true rfl⟩ ⟨Nat.le_of_ble_eq_true rfl, Nat.le_of_ble_eq_true rfl⟩ (Nat.le_of_ble_eq_true rfl) rfl (fun hr1 hs1 => ?_)
  refine r_aload_n h dX1_setPath_43 rfl 0 rfl ?_
  have hq2 := w_ref hw ht rC_61 (by decide) (k := 3) (by decide) rf_1_3
  refine g_X1_12 h dX1_setPath_44 ht rC_61 hq2.1 ?_
  refine r_aload_n h dX1_setPath_47 rfl 0 rfl ?_
  have hq3 := w_ref hw ht rC_61 (by decide) (k := 0) (by decide) rf_1_0
  refine g_X1_49 h dX1_setPath_48 ht rC_61 hq3.1 ?_
  refine r_iload_n h dX1_setPath_51 rfl 1 rfl ?_
  obtain ⟨r4, s4, hq4, hf⟩ := ob_some hf
  refine r_callV2 h [.ref (ad 2), .int (vI x1)] dX1_setPath_52 (fun hs => m_Ro_append hw hq2.2 rC_62 hq3.2 rC_2 rx1 hs hq4) ml_X1_106 cv_Ro_append rfl (co := 7) rfl (by decide) hq2.2 rC_62 ⟨rfl, rfl⟩ ⟨Nat.le_of_ble_eq_true rfl, Nat.le_of_ble_eq_true rfl⟩ ⟨Nat.le_of_ble_eq_true rfl, Nat.le_of_ble_eq_true rfl⟩ (Nat.le_of_ble_eq_true rfl) rfl (fun hr4 hs4 => ?_)
  refine r_pop h dX1_setPath_55 rfl ?_
  exact r_ret0 (x := 0) hr dX1_setPath_56 hf
set_option maxRecDepth 20000 in
theorem m_Fi_setPath {l : Launch} {D : va_G} {cs : Nat → ClassId} {aS aV : Nat} {A : Nat → Prop} {ad : Nat → Nat} {n : Nat} {nl : Nat → Nat → Bool} {out : Int × SS} (hw : w_WH n nl) (ht : 61 < n) {a1 : Int} (ra1 : rI a1) {a2 : Int} (ba2 : a2 = 0 ∨ a2 = 1) {s0 : SS} (hs0 : rS s0) (hf : f_Fi_setPath a1 a2 s0 = some out) : w_MC l D cs aS aV A yX1_setPath cX1_setPath 3 0 rm_Fi_setPath ad n nl [.ref (ad 61), .int (vI a1), .int (vI a2)] s0 (w_Po ad n nl out) := by
  refine w_MC_of (by decide +kernel) (by decide) hs0 (Nat.le_of_ble_eq_true rfl) (fun K h hr => ?_)
  refine r_lv (lv' := [(0, .ref (ad 61)), (1, .int (vI a1)), (2, .int (vI a2))]) rfl ?_
  unfold f_Fi_setPath at hf
  refine r_rS h (fun hs0 => ?_)
  refine r_aload_n h dX1_setPath_0 rfl 0 rfl ?_
  have hq1 := w_ref hw ht rC_61 (by decide) (k := 0) (by decide) rf_1_0
  refine g_X1_49 h dX1_setPath_1 ht rC_61 hq1.1 ?_
  refine r_iload_n h dX1_setPath_4 rfl 1 rfl ?_
  obtain ⟨r2, s2, hq2, hf⟩ := ob_some hf
  refine r_callV2 h [.int (vI a1)] dX1_setPath_5 (fun hs => m_La_isWay hw hq1.2 rC_2 ra1 hs hq2) ml_X1_146 cv_La_isWay rfl (co := 4) rfl (by decide) hq1.2 rC_2 ⟨rfl, rfl⟩ ⟨Nat.le_of_ble_eq_true rfl, Nat.le_of_ble_eq_true rfl⟩ ⟨Nat.le_of_ble_eq_true rfl, Nat.le_of_ble_eq_true rfl⟩ (Nat.le_of_ble_eq_true rfl) rfl (fun hr2 hs2 => ?_)
  refine r_if_eq (tgt := 56) h dX1_setPath_8 (by decide) (rI_b hr2) (fun hc3 => ?_) (fun hc3 => ?_)
  · have hf := ite_t hc3 hf
    exact r_ret0 (x := 0) hr dX1_setPath_56 hf
  · have hf := ite_f hc3 hf
    refine r_aload_n h dX1_setPath_11 rfl 0 rfl ?_
    have hq4 := w_ref hw ht rC_61 (by decide) (k := 3) (by decide) rf_1_3
    refine g_X1_12 h dX1_setPath_12 ht rC_61 hq4.1 ?_
    refine r_iload_n h dX1_setPath_15 rfl 2 rfl ?_
    refine r_if_eq (tgt := 31) h dX1_setPath_16 (by decide) (rI_b ba2) (fun hc5 => ?_) (fun hc5 => ?_)
    · have hf := ite_t hc5 hf
      refine r_aload_n h dX1_setPath_31 rfl 0 rfl ?_
      have hq6 := w_ref hw ht rC_61 (by decide) (k := 0) (by decide) rf_1_0
      refine g_X1_49 h dX1_setPath_32 ht rC_61 hq6.1 ?_
      have hq7c := rf_4_5 _ rC_2
      have hq7 := w_ref hw hq6.2 rC_2 (by decide) (k := 5) (by decide) hq7c.1
      refine g_X1_112 h dX1_setPath_35 hq6.2 rC_2 hq7.1 ?_
      refine r_st (st0 := [.ref (ad 6), .ref (ad 62)]) rfl ?_
      refine r_iload_n h dX1_setPath_38 rfl 1 rfl ?_
      obtain ⟨hi8, hf⟩ := oc_some hf
      refine r_iald h dX1_setPath_39 hq7.2 rC_6 ra1 (N := 14) (by rw [rN_6]; rfl) (j := (a1).toNat) rfl hi8 ?_
      refine r_sub h [0, 1] rfl ?_
      exact b_Fi_setPath_40 h hr hw ht a1 (gi s2 6 ((a1).toNat)) s2 ra1 (hs2.1 _ _) hf
    · have hf := ite_f hc5 hf
      refine r_aload_n h dX1_setPath_19 rfl 0 rfl ?_
      have hq9 := w_ref hw ht rC_61 (by decide) (k := 0) (by decide) rf_1_0
      refine g_X1_49 h dX1_setPath_20 ht rC_61 hq9.1 ?_
      have hq10c := rf_4_6 _ rC_2
      have hq10 := w_ref hw hq9.2 rC_2 (by decide) (k := 6) (by decide) hq10c.1
      refine g_X1_115 h dX1_setPath_23 hq9.2 rC_2 hq10.1 ?_
      refine r_st (st0 := [.ref (ad 7), .ref (ad 62)]) rfl ?_
      refine r_iload_n h dX1_setPath_26 rfl 1 rfl ?_
      obtain ⟨hi11, hf⟩ := oc_some hf
      refine r_iald h dX1_setPath_27 hq10.2 rC_7 ra1 (N := 14) (by rw [rN_7]; rfl) (j := (a1).toNat) rfl hi11 ?_
      refine r_goto (tgt := 40) h dX1_setPath_28 (by decide) ?_
      refine r_sub h [0, 1] rfl ?_
      exact b_Fi_setPath_40 h hr hw ht a1 (gi s2 7 ((a1).toNat)) s2 ra1 (hs2.1 _ _) hf
set_option maxRecDepth 20000 in
theorem b_Fi_measurePath_10 {l : Launch} {D : va_G} {cs : Nat → ClassId} {aS aV : Nat} {A : Nat → Prop} {K : KT} {ad : Nat → Nat} {n : Nat} {nl : Nat → Nat → Bool} {out : Int × SS} (h : w_Cl l rm_Fi_measurePath D cs aS aV A cX1_measurePath 3 RX1 "measurePath" K) (hr : w_Rt 1 cX1_measurePath 0 0 (w_Po ad n nl out) K) (hw : w_WH n nl) (ht : 61 < n) {y1 : Int} (ry1 : rI y1) : ∀ (fu : Nat) (x2 : Int) (s0 : SS), rI x2 → l_Fi_measurePath_10 y1 fu x2 s0 = some out → K ad n nl 0 0 10 [(0, .ref (ad 61)), (1, .int (vI y1)), (2, .int (vI x2))] [] s0 := by
  intro fu
  induction fu with
  | zero =>
    intro x2 s0 rx2 hf
    rw [l_Fi_measurePath_10] at hf
    cases hf
  | succ fu ih =>
    intro x2 s0 rx2 hf
    rw [l_Fi_measurePath_10] at hf
    refine r_rS h (fun hs0 => ?_)
    refine r_iload_n h dX1_measurePath_10 rfl 2 rfl ?_
    refine r_ldc (x := 1000000) h dX1_measurePath_11 (gt_in5 39 rfl rfl) rfl ?_
    refine r_icmp_ge (tgt := 65) h dX1_measurePath_13 (by decide) rx2 (rIc rfl) (fun hc1 => ?_) (fun hc1 => ?_)
    · have hf := ite_t hc1 hf
      refine r_iload_n h dX1_measurePath_65 rfl 2 rfl ?_
      exact r_ret1 hr dX1_measurePath_66 rx2 hf
    · have hf := ite_f hc1 hf
      refine r_aload_n h dX1_measurePath_16 rfl 0 rfl ?_
      have hq2 := w_ref hw ht rC_61 (by decide) (k := 2) (by decide) rf_1_2
      refine g_X1_61 h dX1_measurePath_17 ht rC_61 hq2.1 ?_
      refine r_aload_n h dX1_measurePath_20 rfl 0 rfl ?_
      have hq3 := w_ref hw ht rC_61 (by decide) (k := 1) (by decide) rf_1_1
      refine g_X1_53 h dX1_measurePath_21 ht rC_61 hq3.1 ?_
      refine r_aload_n h dX1_measurePath_24 rfl 0 rfl ?_
      have hq4 := w_ref hw ht rC_61 (by decide) (k := 3) (by decide) rf_1_3
      refine g_X1_12 h dX1_measurePath_25 ht rC_61 hq4.1 ?_
      obtain ⟨r5, s5, hq5, hf⟩ := ob_some hf
      refine r_callV2 h [.ref (ad 47), .ref (ad 62)] dX1_measurePath_28 (fun hs => m_St_goOn hw hq2.2 rC_75 hq3.2 rC_47 hq4.2 rC_62 hs hq5) ml_X1_138 cv_St_goOn rfl (co := 8) rfl (by decide) hq2.2 rC_75 ⟨rfl, rfl⟩ ⟨Nat.le_of_ble_eq_true rfl, Nat.le_of_ble_eq_true rfl⟩ ⟨Nat.le_of_ble_eq_true rfl, Nat.le_of_ble_eq_true rfl⟩ (Nat.le_of_ble_eq_true rfl) rfl (fun hr5 hs5 => ?_)
      refine r_if_eq (tgt := 65) h dX1_measurePath_31 (by decide) (rI_b hr5) (fun hc6 => ?_) (fun hc6 => ?_)
      · have hf := ite_t hc6 hf
        refine r_iload_n h dX1_measurePath_65 rfl 2 rfl ?_
        exact r_ret1 hr dX1_measurePath_66 rx2 hf
      · have hf := ite_f hc6 hf
        refine r_aload_n h dX1_measurePath_34 rfl 0 rfl ?_
        have hq7 := w_ref hw ht rC_61 (by decide) (k := 2) (by decide) rf_1_2
        refine g_X1_61 h dX1_measurePath_35 ht rC_61 hq7.1 ?_
        refine r_aload_n h dX1_measurePath_38 rfl 0 rfl ?_
        have hq8 := w_ref hw ht rC_61 (by decide) (k := 3) (by decide) rf_1_3
        refine g_X1_12 h dX1_measurePath_39 ht rC_61 hq8.1 ?_
        obtain ⟨r9, s9, hq9, hf⟩ := ob_some hf
        refine r_callV2 h [.ref (ad 62)] dX1_measurePath_42 (fun hs => m_St_isAtEnd hw hq7.2 rC_75 hq8.2 rC_62 hs hq9) ml_X1_142 cv_St_isAtEnd rfl (co := 8) rfl (by decide) hq7.2 rC_75 ⟨rfl, rfl⟩ ⟨Nat.le_of_ble_eq_true rfl, Nat.le_of_ble_eq_true rfl⟩ ⟨Nat.le_of_ble_eq_true rfl, Nat.le_of_ble_eq_true rfl⟩ (Nat.le_of_ble_eq_true rfl) rfl (fun hr9 hs9 => ?_)
        refine r_if_ne (tgt := 65) h dX1_measurePath_45 (by decide) (rI_b hr9) (fun hc10 => ?_) (fun hc10 => ?_)
        · have hf := ite_f hc10 hf
          refine r_iload_n h dX1_measurePath_65 rfl 2 rfl ?_
          exact r_ret1 hr dX1_measurePath_66 rx2 hf
        · have hf := ite_nf hc10 hf
          refine r_aload_n h dX1_measurePath_48 rfl 0 rfl ?_
          have hq11 := w_ref hw ht rC_61 (by decide) (k := 2) (by decide) rf_1_2
          refine g_X1_61 h dX1_measurePath_49 ht rC_61 hq11.1 ?_
          have hq12c := rf_8_1 _ rC_75
          have hq12 := w_ref hw hq11.2 rC_75 (by decide) (k := 1) (by decide) hq12c.1
          refine g_X1_149 h dX1_measurePath_52 hq11.2 rC_75 hq12.1 ?_
          refine r_st (st0 := [.ref (ad 76)]) rfl ?_
          refine r_iload_n h dX1_measurePath_55 rfl 1 rfl ?_
          obtain ⟨r13, s13, hq13, hf⟩ := ob_some hf
          refine r_callV0 h [.int (vI y1)] dX1_measurePath_56 (fun hs => m_Ta_begin hw hq12.2 rC_76 ry1 hs hq13) ml_X1_153 cv_Ta_begin rfl (co := 9) rfl (by decide) hq12.2 rC_76 ⟨rfl, rfl⟩ ⟨Nat.le_of_ble_eq_true rfl, Nat.le_of_ble_eq_true rfl⟩ ⟨Nat.le_of_ble_eq_true rfl, Nat.le_of_ble_eq_true rfl⟩ (Nat.le_of_ble_eq_true rfl) rfl (fun hr13 hs13 => ?_)
          refine r_iinc h [(2, .int (vI (iw (x2 + 1)))), (0, .ref (ad 61)), (1, .int (vI y1))] dX1_measurePath_59 2 rfl (by decide) rfl ?_
          refine r_goto (tgt := 10) h dX1_measurePath_62 (by decide) ?_
          refine r_sub h [1, 2, 0] rfl ?_
          exact ih (iw (x2 + 1)) s13 (rI_iw _) hf
set_option maxRecDepth 20000 in
theorem m_Fi_measurePath {l : Launch} {D : va_G} {cs : Nat → ClassId} {aS aV : Nat} {A : Nat → Prop} {ad : Nat → Nat} {n : Nat} {nl : Nat → Nat → Bool} {out : Int × SS} (hw : w_WH n nl) (ht : 61 < n) {a1 : Int} (ra1 : rI a1) {s0 : SS} (hs0 : rS s0) (hf : f_Fi_measurePath a1 s0 = some out) : w_MC l D cs aS aV A yX1_measurePath cX1_measurePath 3 1 rm_Fi_measurePath ad n nl [.ref (ad 61), .int (vI a1)] s0 (w_Po ad n nl out) := by
  refine w_MC_of (by decide +kernel) (by decide) hs0 (Nat.le_of_ble_eq_true rfl) (fun K h hr => ?_)
  refine r_lv (lv' := [(0, .ref (ad 61)), (1, .int (vI a1))]) rfl ?_
  unfold f_Fi_measurePath at hf
  refine r_rS h (fun hs0 => ?_)
  refine r_iconst h dX1_measurePath_0 ?_
  refine r_istore_n h [(2, .int (vI 1)), (0, .ref (ad 61)), (1, .int (vI a1))] dX1_measurePath_1 rfl (by decide) rfl ?_
  refine r_aload_n h dX1_measurePath_2 rfl 1 rfl ?_
  have hq1 := w_ref hw ht rC_61 (by decide) (k := 2) (by decide) rf_1_2
  refine g_X1_61 h dX1_measurePath_3 ht rC_61 hq1.1 ?_
  refine r_iload_n h dX1_measurePath_6 rfl 2 rfl ?_
  obtain ⟨r2, s2, hq2, hf⟩ := ob_some hf
  refine r_callV0 h [.int (vI a1)] dX1_measurePath_7 (fun hs => m_St_begin hw hq1.2 rC_75 ra1 hs hq2) ml_X1_135 cv_St_begin rfl (co := 8) rfl (by decide) hq1.2 rC_75 ⟨rfl, rfl⟩ ⟨Nat.le_of_ble_eq_true rfl, Nat.le_of_ble_eq_true rfl⟩ ⟨Nat.le_of_ble_eq_true rfl, Nat.le_of_ble_eq_true rfl⟩ (Nat.le_of_ble_eq_true rfl) rfl (fun hr2 hs2 => ?_)
  refine r_sub h [1, 2, 0] rfl ?_
  exact b_Fi_measurePath_10 h hr hw ht ra1 FU 1 s2 (rIc rfl) hf
set_option maxRecDepth 20000 in
theorem b_Fi_countAdding_5 {l : Launch} {D : va_G} {cs : Nat → ClassId} {aS aV : Nat} {A : Nat → Prop} {K : KT} {ad : Nat → Nat} {n : Nat} {nl : Nat → Nat → Bool} {out : Int × SS} (h : w_Cl l rm_Fi_countAdding D cs aS aV A cX1_countAdding 6 RX1 "countAdding" K) (hr : w_Rt 1 cX1_countAdding 0 0 (w_Po ad n nl out) K) (hw : w_WH n nl) (ht : 61 < n) {y1 : Int} (ry1 : rI y1) {y2 : Int} (ry2 : rI y2) : ∀ (fu : Nat) (x3 : Int) (x4 : Int) (s0 : SS), rI x3 → rI x4 → l_Fi_countAdding_5 y1 y2 fu x3 x4 s0 = some out → K ad n nl 0 0 5 [(0, .ref (ad 61)), (1, .int (vI y1)), (2, .int (vI y2)), (3, .int (vI x3)), (4, .int (vI x4))] [] s0 := by
  intro fu
  induction fu with
  | zero =>
    intro x3 x4 s0 rx3 rx4 hf
    rw [l_Fi_countAdding_5] at hf
    cases hf
  | succ fu ih =>
    intro x3 x4 s0 rx3 rx4 hf
    rw [l_Fi_countAdding_5] at hf
    refine r_rS h (fun hs0 => ?_)
    refine r_iload h dX1_countAdding_5 4 rfl ?_
    refine r_sipush h dX1_countAdding_7 (by decide) ?_
    refine r_icmp_ge (tgt := 95) h dX1_countAdding_10 (by decide) rx4 (rIc rfl) (fun hc1 => ?_) (fun hc1 => ?_)
    · have hf := ite_t hc1 hf
      refine r_iload_n h dX1_countAdding_95 rfl 3 rfl ?_
      exact r_ret1 hr dX1_countAdding_96 rx3 hf
    · have hf := ite_f hc1 hf
      refine r_aload_n h dX1_countAdding_13 rfl 0 rfl ?_
      have hq2 := w_ref hw ht rC_61 (by decide) (k := 0) (by decide) rf_1_0
      refine g_X1_49 h dX1_countAdding_14 ht rC_61 hq2.1 ?_
      refine r_iload h dX1_countAdding_17 4 rfl ?_
      obtain ⟨r3, s3, hq3, hf⟩ := ob_some hf
      refine r_callV2 h [.int (vI x4)] dX1_countAdding_19 (fun hs => m_La_isCouple hw hq2.2 rC_2 rx4 hs hq3) ml_X1_129 cv_La_isCouple rfl (co := 4) rfl (by decide) hq2.2 rC_2 ⟨rfl, rfl⟩ ⟨Nat.le_of_ble_eq_true rfl, Nat.le_of_ble_eq_true rfl⟩ ⟨Nat.le_of_ble_eq_true rfl, Nat.le_of_ble_eq_true rfl⟩ (Nat.le_of_ble_eq_true rfl) rfl (fun hr3 hs3 => ?_)
      refine r_if_eq (tgt := 89) h dX1_countAdding_22 (by decide) (rI_b hr3) (fun hc4 => ?_) (fun hc4 => ?_)
      · have hf := ite_t hc4 hf
        refine r_iinc h [(4, .int (vI (iw (x4 + 1)))), (0, .ref (ad 61)), (1, .int (vI y1)), (2, .int (vI y2)), (3, .int (vI x3))] dX1_countAdding_89 4 rfl (by decide) rfl ?_
        refine r_goto (tgt := 5) h dX1_countAdding_92 (by decide) ?_
        refine r_sub h [1, 2, 3, 4, 0] rfl ?_
        exact ih x3 (iw (x4 + 1)) s3 rx3 (rI_iw _) hf
      · have hf := ite_f hc4 hf
        refine r_aload_n h dX1_countAdding_25 rfl 0 rfl ?_
        refine r_iload_n h dX1_countAdding_26 rfl 1 rfl ?_
        refine r_iconst h dX1_countAdding_27 ?_
        obtain ⟨r5, s5, hq5, hf⟩ := ob_some hf
        refine r_callV0 h [.int (vI y1), .int (vI 0)] dX1_countAdding_28 (fun hs => m_Fi_setPath hw ht ry1 (Or.inl rfl) hs hq5) ml_X1_156 cv_Fi_setPath rfl (co := 1) rfl (by decide) ht rC_61 ⟨rfl, rfl⟩ ⟨Nat.le_of_ble_eq_true rfl, Nat.le_of_ble_eq_true rfl⟩ ⟨Nat.le_of_ble_eq_true rfl, Nat.le_of_ble_eq_true rfl⟩ (Nat.le_of_ble_eq_true rfl) rfl (fun hr5 hs5 => ?_)
        refine r_aload_n h dX1_countAdding_31 rfl 0 rfl ?_
        refine r_iload h dX1_countAdding_32 4 rfl ?_
        obtain ⟨r6, s6, hq6, hf⟩ := ob_some hf
        refine r_callV1 h [.int (vI x4)] dX1_countAdding_34 (fun hs => m_Fi_measurePath hw ht rx4 hs hq6) ml_X1_160 cv_Fi_measurePath rfl (co := 1) rfl (by decide) ht rC_61 ⟨rfl, rfl⟩ ⟨Nat.le_of_ble_eq_true rfl, Nat.le_of_ble_eq_true rfl⟩ ⟨Nat.le_of_ble_eq_true rfl, Nat.le_of_ble_eq_true rfl⟩ (Nat.le_of_ble_eq_true rfl) rfl (fun hr6 hs6 => ?_)
        refine r_istore h [(5, .int (vI r6)), (0, .ref (ad 61)), (1, .int (vI y1)), (2, .int (vI y2)), (3, .int (vI x3)), (4, .int (vI x4))] dX1_countAdding_37 (by decide) rfl ?_
        refine r_aload_n h dX1_countAdding_39 rfl 1 rfl ?_
        refine r_iload_n h dX1_countAdding_40 rfl 3 rfl ?_
        refine r_iconst h dX1_countAdding_41 ?_
        obtain ⟨r7, s7, hq7, hf⟩ := ob_some hf
        refine r_callV0 h [.int (vI y2), .int (vI 0)] dX1_countAdding_42 (fun hs => m_Fi_setPath hw ht ry2 (Or.inl rfl) hs hq7) ml_X1_156 cv_Fi_setPath rfl (co := 1) rfl (by decide) ht rC_61 ⟨rfl, rfl⟩ ⟨Nat.le_of_ble_eq_true rfl, Nat.le_of_ble_eq_true rfl⟩ ⟨Nat.le_of_ble_eq_true rfl, Nat.le_of_ble_eq_true rfl⟩ (Nat.le_of_ble_eq_true rfl) rfl (fun hr7 hs7 => ?_)
        refine r_iload h dX1_countAdding_45 0 rfl ?_
        refine r_aload_n h dX1_countAdding_47 rfl 1 rfl ?_
        refine r_iload h dX1_countAdding_48 5 rfl ?_
        obtain ⟨r8, s8, hq8, hf⟩ := ob_some hf
        refine r_callV1 h [.int (vI x4)] dX1_countAdding_50 (fun hs => m_Fi_measurePath hw ht rx4 hs hq8) ml_X1_160 cv_Fi_measurePath rfl (co := 1) rfl (by decide) ht rC_61 ⟨rfl, rfl⟩ ⟨Nat.le_of_ble_eq_true rfl, Nat.le_of_ble_eq_true rfl⟩ ⟨Nat.le_of_ble_eq_true rfl, Nat.le_of_ble_eq_true rfl⟩ (Nat.le_of_ble_eq_true rfl) rfl (fun hr8 hs8 => ?_)
        refine r_iadd h dX1_countAdding_53 ?_
        refine r_ol hf (rI_iw _) (fun x9_ rx9_ hf => ?_)
        refine r_istore h [(5, .int (vI x9_)), (0, .ref (ad 61)), (1, .int (vI y1)), (2, .int (vI y2)), (3, .int (vI x3)), (4, .int (vI x4))] dX1_countAdding_54 (by decide) rfl ?_
        refine r_aload_n h dX1_countAdding_56 rfl 1 rfl ?_
        refine r_iload_n h dX1_countAdding_57 rfl 2 rfl ?_
        refine r_iconst h dX1_countAdding_58 ?_
        obtain ⟨r10, s10, hq10, hf⟩ := ob_some hf
        refine r_callV0 h [.int (vI y1), .int (vI 0)] dX1_countAdding_59 (fun hs => m_Fi_setPath hw ht ry1 (Or.inl rfl) hs hq10) ml_X1_156 cv_Fi_setPath rfl (co := 1) rfl (by decide) ht rC_61 ⟨rfl, rfl⟩ ⟨Nat.le_of_ble_eq_true rfl, Nat.le_of_ble_eq_true rfl⟩ ⟨Nat.le_of_ble_eq_true rfl, Nat.le_of_ble_eq_true rfl⟩ (Nat.le_of_ble_eq_true rfl) rfl (fun hr10 hs10 => ?_)
        refine r_aload_n h dX1_countAdding_62 rfl 1 rfl ?_
        have hq11 := w_ref hw ht rC_61 (by decide) (k := 3) (by decide) rf_1_3
        refine g_X1_12 h dX1_countAdding_63 ht rC_61 hq11.1 ?_
        refine r_aload_n h dX1_countAdding_66 rfl 1 rfl ?_
        have hq12 := w_ref hw ht rC_61 (by decide) (k := 0) (by decide) rf_1_0
        refine g_X1_49 h dX1_countAdding_67 ht rC_61 hq12.1 ?_
        refine r_iload_n h dX1_countAdding_70 rfl 3 rfl ?_
        obtain ⟨r13, s13, hq13, hf⟩ := ob_some hf
        refine r_callV2 h [.ref (ad 2), .int (vI y2)] dX1_countAdding_71 (fun hs => m_Ro_append hw hq11.2 rC_62 hq12.2 rC_2 ry2 hs hq13) ml_X1_106 cv_Ro_append rfl (co := 7) rfl (by decide) hq11.2 rC_62 ⟨rfl, rfl⟩ ⟨Nat.le_of_ble_eq_true rfl, Nat.le_of_ble_eq_true rfl⟩ ⟨Nat.le_of_ble_eq_true rfl, Nat.le_of_ble_eq_true rfl⟩ (Nat.le_of_ble_eq_true rfl) rfl (fun hr13 hs13 => ?_)
        refine r_pop h dX1_countAdding_74 rfl ?_
        refine r_aload_n h dX1_countAdding_75 rfl 1 rfl ?_
        refine r_iload h dX1_countAdding_76 5 rfl ?_
        obtain ⟨r14, s14, hq14, hf⟩ := ob_some hf
        refine r_callV1 h [.int (vI x4)] dX1_countAdding_78 (fun hs => m_Fi_measurePath hw ht rx4 hs hq14) ml_X1_160 cv_Fi_measurePath rfl (co := 1) rfl (by decide) ht rC_61 ⟨rfl, rfl⟩ ⟨Nat.le_of_ble_eq_true rfl, Nat.le_of_ble_eq_true rfl⟩ ⟨Nat.le_of_ble_eq_true rfl, Nat.le_of_ble_eq_true rfl⟩ (Nat.le_of_ble_eq_true rfl) rfl (fun hr14 hs14 => ?_)
        refine r_iload h dX1_countAdding_81 0 rfl ?_
        refine r_icmp_ne (tgt := 89) h dX1_countAdding_83 (by decide) hr14 rx9_ (fun hc15 => ?_) (fun hc15 => ?_)
        · have hf := ite_f hc15 hf
          refine r_iinc h [(4, .int (vI (iw (x4 + 1)))), (5, .int (vI x9_)), (0, .ref (ad 61)), (1, .int (vI y1)), (2, .int (vI y2)), (3, .int (vI x3))] dX1_countAdding_89 5 rfl (by decide) rfl ?_
          refine r_goto (tgt := 5) h dX1_countAdding_92 (by decide) ?_
          refine r_sub h [2, 3, 4, 5, 0] rfl ?_
          exact ih x3 (iw (x4 + 1)) s14 rx3 (rI_iw _) hf
        · have hf := ite_nf hc15 hf
          refine r_iinc h [(3, .int (vI (iw (x3 + 1)))), (5, .int (vI x9_)), (0, .ref (ad 61)), (1, .int (vI y1)), (2, .int (vI y2)), (4, .int (vI x4))] dX1_countAdding_86 4 rfl (by decide) rfl ?_
          refine r_iinc h [(4, .int (vI (iw (x4 + 1)))), (3, .int (vI (iw (x3 + 1)))), (5, .int (vI x9_)), (0, .ref (ad 61)), (1, .int (vI y1)), (2, .int (vI y2))] dX1_countAdding_89 5 rfl (by decide) rfl ?_
          refine r_goto (tgt := 5) h dX1_countAdding_92 (by decide) ?_
          refine r_sub h [3, 4, 5, 1, 0] rfl ?_
          exact ih (iw (x3 + 1)) (iw (x4 + 1)) s14 (rI_iw _) (rI_iw _) hf
set_option maxRecDepth 20000 in
theorem m_Fi_countAdding {l : Launch} {D : va_G} {cs : Nat → ClassId} {aS aV : Nat} {A : Nat → Prop} {ad : Nat → Nat} {n : Nat} {nl : Nat → Nat → Bool} {out : Int × SS} (hw : w_WH n nl) (ht : 61 < n) {a1 : Int} (ra1 : rI a1) {a2 : Int} (ra2 : rI a2) {s0 : SS} (hs0 : rS s0) (hf : f_Fi_countAdding a1 a2 s0 = some out) : w_MC l D cs aS aV A yX1_countAdding cX1_countAdding 6 1 rm_Fi_countAdding ad n nl [.ref (ad 61), .int (vI a1), .int (vI a2)] s0 (w_Po ad n nl out) := by
  refine w_MC_of (by decide +kernel) (by decide) hs0 (Nat.le_of_ble_eq_true rfl) (fun K h hr => ?_)
  refine r_lv (lv' := [(0, .ref (ad 61)), (1, .int (vI a1)), (2, .int (vI a2))]) rfl ?_
  unfold f_Fi_countAdding at hf
  refine r_rS h (fun hs0 => ?_)
  refine r_iconst h dX1_countAdding_0 ?_
  refine r_istore_n h [(3, .int (vI 0)), (0, .ref (ad 61)), (1, .int (vI a1)), (2, .int (vI a2))] dX1_countAdding_1 rfl (by decide) rfl ?_
  refine r_iconst h dX1_countAdding_2 ?_
  refine r_istore h [(4, .int (vI 0)), (3, .int (vI 0)), (0, .ref (ad 61)), (1, .int (vI a1)), (2, .int (vI a2))] dX1_countAdding_3 (by decide) rfl ?_
  refine r_sub h [2, 3, 4, 1, 0] rfl ?_
  exact b_Fi_countAdding_5 h hr hw ht ra1 ra2 FU 0 0 s0 (rIc rfl) (rIc rfl) hf
set_option maxRecDepth 20000 in
theorem b_Fi_countFair_82 {l : Launch} {D : va_G} {cs : Nat → ClassId} {aS aV : Nat} {A : Nat → Prop} {K : KT} {ad : Nat → Nat} {n : Nat} {nl : Nat → Nat → Bool} {out : Int × SS} (h : w_Cl l rm_Fi_countFair D cs aS aV A cX1_countFair 6 RX1 "countFair" K) (hr : w_Rt 1 cX1_countFair 0 0 (w_Po ad n nl out) K) (hw : w_WH n nl) (ht : 61 < n) (x1 : Int) (x2 : Int) (x3 : Int) (self4 : Int → Int → SS → OO) (hself4 : ∀ (x1 : Int) (x2 : Int) (τ : SS), rI x1 → rI x2 → self4 x1 x2 τ = some out → K ad n nl 0 0 4 [(0, .ref (ad 61)), (1, .int (vI x1)), (2, .int (vI x2))] [] τ) (s0 : SS) (rx1 : rI x1) (rx2 : rI x2) (rx3 : rI x3) (hf : j_Fi_countFair_82 self4 x1 x2 x3 s0 = some out) : K ad n nl 0 0 82 [(0, .ref (ad 61)), (1, .int (vI x1)), (2, .int (vI x2)), (3, .int (vI x3))] [] s0 := by
  unfold j_Fi_countFair_82 at hf
  refine r_rS h (fun hs0 => ?_)
  refine r_iload_n h dX1_countFair_82 rfl 3 rfl ?_
  refine r_if_eq (tgt := 89) h dX1_countFair_83 (by decide) rx3 (fun hc1 => ?_) (fun hc1 => ?_)
  · have hf := ite_t hc1 hf
    refine r_iinc h [(2, .int (vI (iw (x2 + 1)))), (0, .ref (ad 61)), (1, .int (vI x1)), (3, .int (vI x3))] dX1_countFair_89 2 rfl (by decide) rfl ?_
    refine r_goto (tgt := 4) h dX1_countFair_92 (by decide) ?_
    refine r_sub h [1, 2, 0] rfl ?_
    exact hself4 x1 (iw (x2 + 1)) s0 rx1 (rI_iw _) hf
  · have hf := ite_f hc1 hf
    refine r_iinc h [(1, .int (vI (iw (x1 + 1)))), (0, .ref (ad 61)), (2, .int (vI x2)), (3, .int (vI x3))] dX1_countFair_86 1 rfl (by decide) rfl ?_
    refine r_iinc h [(2, .int (vI (iw (x2 + 1)))), (1, .int (vI (iw (x1 + 1)))), (0, .ref (ad 61)), (3, .int (vI x3))] dX1_countFair_89 2 rfl (by decide) rfl ?_
    refine r_goto (tgt := 4) h dX1_countFair_92 (by decide) ?_
    refine r_sub h [2, 1, 0] rfl ?_
    exact hself4 (iw (x1 + 1)) (iw (x2 + 1)) s0 (rI_iw _) (rI_iw _) hf
set_option maxRecDepth 20000 in
theorem b_Fi_countFair_23 {l : Launch} {D : va_G} {cs : Nat → ClassId} {aS aV : Nat} {A : Nat → Prop} {K : KT} {ad : Nat → Nat} {n : Nat} {nl : Nat → Nat → Bool} {out : Int × SS} (h : w_Cl l rm_Fi_countFair D cs aS aV A cX1_countFair 6 RX1 "countFair" K) (hr : w_Rt 1 cX1_countFair 0 0 (w_Po ad n nl out) K) (hw : w_WH n nl) (ht : 61 < n) {y1 : Int} (ry1 : rI y1) {y2 : Int} (ry2 : rI y2) (self4 : Int → Int → SS → OO) (hself4 : ∀ (x1 : Int) (x2 : Int) (τ : SS), rI x1 → rI x2 → self4 x1 x2 τ = some out → K ad n nl 0 0 4 [(0, .ref (ad 61)), (1, .int (vI x1)), (2, .int (vI x2))] [] τ) : ∀ (fu : Nat) (x3 : Int) (x4 : Int) (s0 : SS), rI x3 → rI x4 → l_Fi_countFair_23 self4 y1 y2 fu x3 x4 s0 = some out → K ad n nl 0 0 23 [(0, .ref (ad 61)), (1, .int (vI y1)), (2, .int (vI y2)), (3, .int (vI x3)), (4, .int (vI x4))] [] s0 := by
  intro fu
  induction fu with
  | zero =>
    intro x3 x4 s0 rx3 rx4 hf
    rw [l_Fi_countFair_23] at hf
    cases hf
  | succ fu ih =>
    intro x3 x4 s0 rx3 rx4 hf
    rw [l_Fi_countFair_23] at hf
    refine r_rS h (fun hs0 => ?_)
    refine r_iload h dX1_countFair_23 4 rfl ?_
    refine r_aload_n h dX1_countFair_25 rfl 0 rfl ?_
    have hq1 := w_ref hw ht rC_61 (by decide) (k := 0) (by decide) rf_1_0
    refine g_X1_49 h dX1_countFair_26 ht rC_61 hq1.1 ?_
    refine g_X1_110 h dX1_countFair_29 hq1.2 rC_2 ?_
    refine r_icmp_ge (tgt := 82) h dX1_countFair_32 (by decide) rx4 (hs0.1 _ _) (fun hc2 => ?_) (fun hc2 => ?_)
    · have hf := ite_t hc2 hf
      refine r_sub h [0, 1, 2, 3] rfl ?_
      exact b_Fi_countFair_82 h hr hw ht y1 y2 x3 self4 hself4 s0 ry1 ry2 rx3 hf
    · have hf := ite_f hc2 hf
      refine r_iload_n h dX1_countFair_35 rfl 3 rfl ?_
      refine r_if_eq (tgt := 82) h dX1_countFair_36 (by decide) rx3 (fun hc3 => ?_) (fun hc3 => ?_)
      · have hf := ite_t hc3 hf
        refine r_sub h [0, 1, 2, 3] rfl ?_
        exact b_Fi_countFair_82 h hr hw ht y1 y2 x3 self4 hself4 s0 ry1 ry2 rx3 hf
      · have hf := ite_f hc3 hf
        refine r_aload_n h dX1_countFair_39 rfl 0 rfl ?_
        refine r_iload h dX1_countFair_40 4 rfl ?_
        refine r_iconst h dX1_countFair_42 ?_
        obtain ⟨r4, s4, hq4, hf⟩ := ob_some hf
        refine r_callV0 h [.int (vI x4), .int (vI 0)] dX1_countFair_43 (fun hs => m_Fi_setPath hw ht rx4 (Or.inl rfl) hs hq4) ml_X1_156 cv_Fi_setPath rfl (co := 1) rfl (by decide) ht rC_61 ⟨rfl, rfl⟩ ⟨Nat.le_of_ble_eq_true rfl, Nat.le_of_ble_eq_true rfl⟩ ⟨Nat.le_of_ble_eq_true rfl, Nat.le_of_ble_eq_true rfl⟩ (Nat.le_of_ble_eq_true rfl) rfl (fun hr4 hs4 => ?_)
        refine r_aload_n h dX1_countFair_46 rfl 0 rfl ?_
        refine r_iload_n h dX1_countFair_47 rfl 2 rfl ?_
        obtain ⟨r5, s5, hq5, hf⟩ := ob_some hf
        refine r_callV1 h [.int (vI y2)] dX1_countFair_48 (fun hs => m_Fi_measurePath hw ht ry2 hs hq5) ml_X1_160 cv_Fi_measurePath rfl (co := 1) rfl (by decide) ht rC_61 ⟨rfl, rfl⟩ ⟨Nat.le_of_ble_eq_true rfl, Nat.le_of_ble_eq_true rfl⟩ ⟨Nat.le_of_ble_eq_true rfl, Nat.le_of_ble_eq_true rfl⟩ (Nat.le_of_ble_eq_true rfl) rfl (fun hr5 hs5 => ?_)
        refine r_istore h [(5, .int (vI r5)), (0, .ref (ad 61)), (1, .int (vI y1)), (2, .int (vI y2)), (3, .int (vI x3)), (4, .int (vI x4))] dX1_countFair_51 (by decide) rfl ?_
        refine r_aload_n h dX1_countFair_53 rfl 1 rfl ?_
        refine r_iload h dX1_countFair_54 5 rfl ?_
        refine r_iconst h dX1_countFair_56 ?_
        obtain ⟨r6, s6, hq6, hf⟩ := ob_some hf
        refine r_callV0 h [.int (vI x4), .int (vI 1)] dX1_countFair_57 (fun hs => m_Fi_setPath hw ht rx4 (Or.inr rfl) hs hq6) ml_X1_156 cv_Fi_setPath rfl (co := 1) rfl (by decide) ht rC_61 ⟨rfl, rfl⟩ ⟨Nat.le_of_ble_eq_true rfl, Nat.le_of_ble_eq_true rfl⟩ ⟨Nat.le_of_ble_eq_true rfl, Nat.le_of_ble_eq_true rfl⟩ (Nat.le_of_ble_eq_true rfl) rfl (fun hr6 hs6 => ?_)
        refine r_aload_n h dX1_countFair_60 rfl 1 rfl ?_
        refine r_iload_n h dX1_countFair_61 rfl 3 rfl ?_
        obtain ⟨r7, s7, hq7, hf⟩ := ob_some hf
        refine r_callV1 h [.int (vI y2)] dX1_countFair_62 (fun hs => m_Fi_measurePath hw ht ry2 hs hq7) ml_X1_160 cv_Fi_measurePath rfl (co := 1) rfl (by decide) ht rC_61 ⟨rfl, rfl⟩ ⟨Nat.le_of_ble_eq_true rfl, Nat.le_of_ble_eq_true rfl⟩ ⟨Nat.le_of_ble_eq_true rfl, Nat.le_of_ble_eq_true rfl⟩ (Nat.le_of_ble_eq_true rfl) rfl (fun hr7 hs7 => ?_)
        refine r_iload h dX1_countFair_65 0 rfl ?_
        refine r_icmp_ne (tgt := 74) h dX1_countFair_67 (by decide) hr7 hr5 (fun hc8 => ?_) (fun hc8 => ?_)
        · have hf := ite_f hc8 hf
          refine r_iconst h dX1_countFair_74 ?_
          refine r_istore_n h [(3, .int (vI 0)), (5, .int (vI r5)), (0, .ref (ad 61)), (1, .int (vI y1)), (2, .int (vI y2)), (4, .int (vI x4))] dX1_countFair_75 rfl (by decide) rfl ?_
          refine r_iinc h [(4, .int (vI (iw (x4 + 1)))), (3, .int (vI 0)), (5, .int (vI r5)), (0, .ref (ad 61)), (1, .int (vI y1)), (2, .int (vI y2))] dX1_countFair_76 5 rfl (by decide) rfl ?_
          refine r_goto (tgt := 23) h dX1_countFair_79 (by decide) ?_
          refine r_sub h [3, 4, 5, 1, 0] rfl ?_
          exact ih 0 (iw (x4 + 1)) s7 (rIc rfl) (rI_iw _) hf
        · have hf := ite_nf hc8 hf
          refine r_iconst h dX1_countFair_70 ?_
          refine r_goto (tgt := 75) h dX1_countFair_71 (by decide) ?_
          refine r_istore_n h [(3, .int (vI 1)), (5, .int (vI r5)), (0, .ref (ad 61)), (1, .int (vI y1)), (2, .int (vI y2)), (4, .int (vI x4))] dX1_countFair_75 rfl (by decide) rfl ?_
          refine r_iinc h [(4, .int (vI (iw (x4 + 1)))), (3, .int (vI 1)), (5, .int (vI r5)), (0, .ref (ad 61)), (1, .int (vI y1)), (2, .int (vI y2))] dX1_countFair_76 5 rfl (by decide) rfl ?_
          refine r_goto (tgt := 23) h dX1_countFair_79 (by decide) ?_
          refine r_sub h [3, 4, 5, 1, 0] rfl ?_
          exact ih 1 (iw (x4 + 1)) s7 (rIc rfl) (rI_iw _) hf
set_option maxRecDepth 20000 in
theorem b_Fi_countFair_4 {l : Launch} {D : va_G} {cs : Nat → ClassId} {aS aV : Nat} {A : Nat → Prop} {K : KT} {ad : Nat → Nat} {n : Nat} {nl : Nat → Nat → Bool} {out : Int × SS} (h : w_Cl l rm_Fi_countFair D cs aS aV A cX1_countFair 6 RX1 "countFair" K) (hr : w_Rt 1 cX1_countFair 0 0 (w_Po ad n nl out) K) (hw : w_WH n nl) (ht : 61 < n) : ∀ (fu : Nat) (x1 : Int) (x2 : Int) (s0 : SS), rI x1 → rI x2 → l_Fi_countFair_4 fu x1 x2 s0 = some out → K ad n nl 0 0 4 [(0, .ref (ad 61)), (1, .int (vI x1)), (2, .int (vI x2))] [] s0 := by
  intro fu
  induction fu with
  | zero =>
    intro x1 x2 s0 rx1 rx2 hf
    rw [l_Fi_countFair_4] at hf
    cases hf
  | succ fu ih =>
    intro x1 x2 s0 rx1 rx2 hf
    rw [l_Fi_countFair_4] at hf
    refine r_rS h (fun hs0 => ?_)
    refine r_iload_n h dX1_countFair_4 rfl 2 rfl ?_
    refine r_sipush h dX1_countFair_5 (by decide) ?_
    refine r_icmp_ge (tgt := 95) h dX1_countFair_8 (by decide) rx2 (rIc rfl) (fun hc1 => ?_) (fun hc1 => ?_)
    · have hf := ite_t hc1 hf
      refine r_iload_n h dX1_countFair_95 rfl 1 rfl ?_
      exact r_ret1 hr dX1_countFair_96 rx1 hf
    · have hf := ite_f hc1 hf
      refine r_aload_n h dX1_countFair_11 rfl 0 rfl ?_
      have hq2 := w_ref hw ht rC_61 (by decide) (k := 0) (by decide) rf_1_0
      refine g_X1_49 h dX1_countFair_12 ht rC_61 hq2.1 ?_
      refine r_iload_n h dX1_countFair_15 rfl 2 rfl ?_
      obtain ⟨r3, s3, hq3, hf⟩ := ob_some hf
      refine r_callV2 h [.int (vI x2)] dX1_countFair_16 (fun hs => m_La_isCouple hw hq2.2 rC_2 rx2 hs hq3) ml_X1_129 cv_La_isCouple rfl (co := 4) rfl (by decide) hq2.2 rC_2 ⟨rfl, rfl⟩ ⟨Nat.le_of_ble_eq_true rfl, Nat.le_of_ble_eq_true rfl⟩ ⟨Nat.le_of_ble_eq_true rfl, Nat.le_of_ble_eq_true rfl⟩ (Nat.le_of_ble_eq_true rfl) rfl (fun hr3 hs3 => ?_)
      refine r_istore_n h [(3, .int (vI r3)), (0, .ref (ad 61)), (1, .int (vI x1)), (2, .int (vI x2))] dX1_countFair_19 rfl (by decide) rfl ?_
      refine r_iconst h dX1_countFair_20 ?_
      refine r_istore h [(4, .int (vI 0)), (3, .int (vI r3)), (0, .ref (ad 61)), (1, .int (vI x1)), (2, .int (vI x2))] dX1_countFair_21 (by decide) rfl ?_
      refine r_sub h [2, 3, 4, 1, 0] rfl ?_
      exact b_Fi_countFair_23 h hr hw ht rx1 rx2 (l_Fi_countFair_4 fu) ih FU r3 0 s3 (rI_b hr3) (rIc rfl) hf
set_option maxRecDepth 20000 in
theorem m_Fi_countFair {l : Launch} {D : va_G} {cs : Nat → ClassId} {aS aV : Nat} {A : Nat → Prop} {ad : Nat → Nat} {n : Nat} {nl : Nat → Nat → Bool} {out : Int × SS} (hw : w_WH n nl) (ht : 61 < n) {s0 : SS} (hs0 : rS s0) (hf : f_Fi_countFair s0 = some out) : w_MC l D cs aS aV A yX1_countFair cX1_countFair 6 1 rm_Fi_countFair ad n nl [.ref (ad 61)] s0 (w_Po ad n nl out) := by
  refine w_MC_of (by decide +kernel) (by decide) hs0 (Nat.le_of_ble_eq_true rfl) (fun K h hr => ?_)
  refine r_lv (lv' := [(0, .ref (ad 61))]) rfl ?_
  unfold f_Fi_countFair at hf
  refine r_rS h (fun hs0 => ?_)
  refine r_iconst h dX1_countFair_0 ?_
  refine r_istore_n h [(1, .int (vI 0)), (0, .ref (ad 61))] dX1_countFair_1 rfl (by decide) rfl ?_
  refine r_iconst h dX1_countFair_2 ?_
  refine r_istore_n h [(2, .int (vI 0)), (1, .int (vI 0)), (0, .ref (ad 61))] dX1_countFair_3 rfl (by decide) rfl ?_
  refine r_sub h [2, 1, 0] rfl ?_
  exact b_Fi_countFair_4 h hr hw ht FU 0 0 s0 (rIc rfl) (rIc rfl) hf
set_option maxRecDepth 20000 in
theorem b_Fi_lookForEndings_66 {l : Launch} {D : va_G} {cs : Nat → ClassId} {aS aV : Nat} {A : Nat → Prop} {K : KT} {ad : Nat → Nat} {n : Nat} {nl : Nat → Nat → Bool} {out : Int × SS} (h : w_Cl l rm_Fi_lookForEndings D cs aS aV A cX1_lookForEndings 4 RX1 "lookForEndings" K) (hr : w_Rt 0 cX1_lookForEndings 0 0 (w_Po ad n nl out) K) (hw : w_WH n nl) (ht : 61 < n) (x1 : Int) (x2 : Int) (self7 : Int → SS → OO) (hself7 : ∀ (x1 : Int) (τ : SS), rI x1 → self7 x1 τ = some out → K ad n nl 0 0 7 [(0, .ref (ad 61)), (1, .int (vI x1))] [] τ) (s0 : SS) (rx1 : rI x1) (rx2 : rI x2) (hf : j_Fi_lookForEndings_66 self7 x1 x2 s0 = some out) : K ad n nl 0 0 66 [(0, .ref (ad 61)), (1, .int (vI x1)), (2, .int (vI x2))] [] s0 := by
  unfold j_Fi_lookForEndings_66 at hf
  refine r_rS h (fun hs0 => ?_)
  refine r_iload_n h dX1_lookForEndings_66 rfl 2 rfl ?_
  refine r_if_eq (tgt := 110) h dX1_lookForEndings_67 (by decide) rx2 (fun hc1 => ?_) (fun hc1 => ?_)
  · have hf := ite_t hc1 hf
    refine r_iinc h [(1, .int (vI (iw (x1 + 1)))), (0, .ref (ad 61)), (2, .int (vI x2))] dX1_lookForEndings_110 1 rfl (by decide) rfl ?_
    refine r_goto (tgt := 7) h dX1_lookForEndings_113 (by decide) ?_
    refine r_sub h [1, 0] rfl ?_
    exact hself7 (iw (x1 + 1)) s0 (rI_iw _) hf
  · have hf := ite_f hc1 hf
    refine r_aload_n h dX1_lookForEndings_70 rfl 0 rfl ?_
    refine g_X1_163 h dX1_lookForEndings_71 ht rC_61 ?_
    refine r_sipush h dX1_lookForEndings_74 (by decide) ?_
    refine r_icmp_ge (tgt := 110) h dX1_lookForEndings_77 (by decide) (hs0.1 _ _) (rIc rfl) (fun hc2 => ?_) (fun hc2 => ?_)
    · have hf := ite_t hc2 hf
      refine r_iinc h [(1, .int (vI (iw (x1 + 1)))), (0, .ref (ad 61)), (2, .int (vI x2))] dX1_lookForEndings_110 1 rfl (by decide) rfl ?_
      refine r_goto (tgt := 7) h dX1_lookForEndings_113 (by decide) ?_
      refine r_sub h [1, 0] rfl ?_
      exact hself7 (iw (x1 + 1)) s0 (rI_iw _) hf
    · have hf := ite_f hc2 hf
      refine r_aload_n h dX1_lookForEndings_80 rfl 0 rfl ?_
      have hq3 := w_ref hw ht rC_61 (by decide) (k := 7) (by decide) rf_1_7
      refine g_X1_25 h dX1_lookForEndings_81 ht rC_61 hq3.1 ?_
      refine r_aload_n h dX1_lookForEndings_84 rfl 0 rfl ?_
      refine g_X1_163 h dX1_lookForEndings_85 ht rC_61 ?_
      refine r_iload_n h dX1_lookForEndings_88 rfl 1 rfl ?_
      obtain ⟨hi4, hf⟩ := oc_some hf
      refine r_iast h dX1_lookForEndings_89 hq3.2 rC_67 (hs0.1 _ _) (N := 180) (by rw [rN_67]; rfl) (j := (gi s0 61 9).toNat) rfl hi4 rx1 ?_
      refine r_os hf (fun s5 hf => ?_)
      refine r_rS h (fun hs5 => ?_)
      refine r_aload_n h dX1_lookForEndings_90 rfl 0 rfl ?_
      have hq6 := w_ref hw ht rC_61 (by decide) (k := 8) (by decide) rf_1_8
      refine g_X1_28 h dX1_lookForEndings_91 ht rC_61 hq6.1 ?_
      refine r_aload_n h dX1_lookForEndings_94 rfl 0 rfl ?_
      refine g_X1_163 h dX1_lookForEndings_95 ht rC_61 ?_
      refine r_iload_n h dX1_lookForEndings_98 rfl 2 rfl ?_
      obtain ⟨hi7, hf⟩ := oc_some hf
      refine r_iast h dX1_lookForEndings_99 hq6.2 rC_68 (hs5.1 _ _) (N := 180) (by rw [rN_68]; rfl) (j := (gi s5 61 9).toNat) rfl hi7 rx2 ?_
      refine r_os hf (fun s8 hf => ?_)
      refine r_rS h (fun hs8 => ?_)
      refine r_aload_n h dX1_lookForEndings_100 rfl 0 rfl ?_
      refine r_dup h dX1_lookForEndings_101 rfl ?_
      refine g_X1_163 h dX1_lookForEndings_102 ht rC_61 ?_
      refine r_iconst h dX1_lookForEndings_105 ?_
      refine r_iadd h dX1_lookForEndings_106 ?_
      refine p_X1_163 h dX1_lookForEndings_107 ht rC_61 (rI_iw _) ?_
      refine r_os hf (fun s9 hf => ?_)
      refine r_rS h (fun hs9 => ?_)
      refine r_iinc h [(1, .int (vI (iw (x1 + 1)))), (0, .ref (ad 61)), (2, .int (vI x2))] dX1_lookForEndings_110 1 rfl (by decide) rfl ?_
      refine r_goto (tgt := 7) h dX1_lookForEndings_113 (by decide) ?_
      refine r_sub h [1, 0] rfl ?_
      exact hself7 (iw (x1 + 1)) s9 (rI_iw _) hf
set_option maxRecDepth 20000 in
theorem b_Fi_lookForEndings_18 {l : Launch} {D : va_G} {cs : Nat → ClassId} {aS aV : Nat} {A : Nat → Prop} {K : KT} {ad : Nat → Nat} {n : Nat} {nl : Nat → Nat → Bool} {out : Int × SS} (h : w_Cl l rm_Fi_lookForEndings D cs aS aV A cX1_lookForEndings 4 RX1 "lookForEndings" K) (hr : w_Rt 0 cX1_lookForEndings 0 0 (w_Po ad n nl out) K) (hw : w_WH n nl) (ht : 61 < n) {y1 : Int} (ry1 : rI y1) (self7 : Int → SS → OO) (hself7 : ∀ (x1 : Int) (τ : SS), rI x1 → self7 x1 τ = some out → K ad n nl 0 0 7 [(0, .ref (ad 61)), (1, .int (vI x1))] [] τ) : ∀ (fu : Nat) (x2 : Int) (x3 : Int) (s0 : SS), rI x2 → rI x3 → l_Fi_lookForEndings_18 self7 y1 fu x2 x3 s0 = some out → K ad n nl 0 0 18 [(0, .ref (ad 61)), (1, .int (vI y1)), (2, .int (vI x2)), (3, .int (vI x3))] [] s0 := by
  intro fu
  induction fu with
  | zero =>
    intro x2 x3 s0 rx2 rx3 hf
    rw [l_Fi_lookForEndings_18] at hf
    cases hf
  | succ fu ih =>
    intro x2 x3 s0 rx2 rx3 hf
    rw [l_Fi_lookForEndings_18] at hf
    refine r_rS h (fun hs0 => ?_)
    refine r_iload_n h dX1_lookForEndings_18 rfl 3 rfl ?_
    refine r_aload_n h dX1_lookForEndings_19 rfl 0 rfl ?_
    have hq1 := w_ref hw ht rC_61 (by decide) (k := 0) (by decide) rf_1_0
    refine g_X1_49 h dX1_lookForEndings_20 ht rC_61 hq1.1 ?_
    refine g_X1_110 h dX1_lookForEndings_23 hq1.2 rC_2 ?_
    refine r_icmp_ge (tgt := 66) h dX1_lookForEndings_26 (by decide) rx3 (hs0.1 _ _) (fun hc2 => ?_) (fun hc2 => ?_)
    · have hf := ite_t hc2 hf
      refine r_sub h [0, 1, 2] rfl ?_
      exact b_Fi_lookForEndings_66 h hr hw ht y1 x2 self7 hself7 s0 ry1 rx2 hf
    · have hf := ite_f hc2 hf
      refine r_aload_n h dX1_lookForEndings_29 rfl 0 rfl ?_
      have hq3 := w_ref hw ht rC_61 (by decide) (k := 0) (by decide) rf_1_0
      refine g_X1_49 h dX1_lookForEndings_30 ht rC_61 hq3.1 ?_
      refine r_iload_n h dX1_lookForEndings_33 rfl 1 rfl ?_
      obtain ⟨r4, s4, hq4, hf⟩ := ob_some hf
      refine r_callV2 h [.int (vI y1)] dX1_lookForEndings_34 (fun hs => m_La_isCouple hw hq3.2 rC_2 ry1 hs hq4) ml_X1_129 cv_La_isCouple rfl (co := 4) rfl (by decide) hq3.2 rC_2 ⟨rfl, rfl⟩ ⟨Nat.le_of_ble_eq_true rfl, Nat.le_of_ble_eq_true rfl⟩ ⟨Nat.le_of_ble_eq_true rfl, Nat.le_of_ble_eq_true rfl⟩ (Nat.le_of_ble_eq_true rfl) rfl (fun hr4 hs4 => ?_)
      refine r_if_eq (tgt := 66) h dX1_lookForEndings_37 (by decide) (rI_b hr4) (fun hc5 => ?_) (fun hc5 => ?_)
      · have hf := ite_t hc5 hf
        refine r_sub h [0, 1, 2] rfl ?_
        exact b_Fi_lookForEndings_66 h hr hw ht y1 x2 self7 hself7 s4 ry1 rx2 hf
      · have hf := ite_f hc5 hf
        refine r_aload_n h dX1_lookForEndings_40 rfl 0 rfl ?_
        refine r_iload_n h dX1_lookForEndings_41 rfl 3 rfl ?_
        refine r_iconst h dX1_lookForEndings_42 ?_
        obtain ⟨r6, s6, hq6, hf⟩ := ob_some hf
        refine r_callV0 h [.int (vI x3), .int (vI 0)] dX1_lookForEndings_43 (fun hs => m_Fi_setPath hw ht rx3 (Or.inl rfl) hs hq6) ml_X1_156 cv_Fi_setPath rfl (co := 1) rfl (by decide) ht rC_61 ⟨rfl, rfl⟩ ⟨Nat.le_of_ble_eq_true rfl, Nat.le_of_ble_eq_true rfl⟩ ⟨Nat.le_of_ble_eq_true rfl, Nat.le_of_ble_eq_true rfl⟩ (Nat.le_of_ble_eq_true rfl) rfl (fun hr6 hs6 => ?_)
        refine r_aload_n h dX1_lookForEndings_46 rfl 0 rfl ?_
        refine r_iload_n h dX1_lookForEndings_47 rfl 1 rfl ?_
        obtain ⟨r7, s7, hq7, hf⟩ := ob_some hf
        refine r_callV2 h [.int (vI y1)] dX1_lookForEndings_48 (fun hs => m_Fi_endsJustBehindPath hw ht ry1 hs hq7) ml_X1_132 cv_Fi_endsJustBehindPath rfl (co := 1) rfl (by decide) ht rC_61 ⟨rfl, rfl⟩ ⟨Nat.le_of_ble_eq_true rfl, Nat.le_of_ble_eq_true rfl⟩ ⟨Nat.le_of_ble_eq_true rfl, Nat.le_of_ble_eq_true rfl⟩ (Nat.le_of_ble_eq_true rfl) rfl (fun hr7 hs7 => ?_)
        refine r_if_eq (tgt := 60) h dX1_lookForEndings_51 (by decide) (rI_b hr7) (fun hc8 => ?_) (fun hc8 => ?_)
        · have hf := ite_t hc8 hf
          refine r_iinc h [(3, .int (vI (iw (x3 + 1)))), (0, .ref (ad 61)), (1, .int (vI y1)), (2, .int (vI x2))] dX1_lookForEndings_60 3 rfl (by decide) rfl ?_
          refine r_goto (tgt := 18) h dX1_lookForEndings_63 (by decide) ?_
          refine r_sub h [1, 2, 3, 0] rfl ?_
          exact ih x2 (iw (x3 + 1)) s7 rx2 (rI_iw _) hf
        · have hf := ite_f hc8 hf
          refine r_iload_n h dX1_lookForEndings_54 rfl 2 rfl ?_
          refine r_iconst h dX1_lookForEndings_55 ?_
          refine r_iload_n h dX1_lookForEndings_56 rfl 3 rfl ?_
          refine r_ishl h dX1_lookForEndings_57 ?_
          refine r_ior h dX1_lookForEndings_58 ?_
          refine r_ol hf (rI_zor _ _) (fun x9_ rx9_ hf => ?_)
          refine r_istore_n h [(2, .int (vI x9_)), (0, .ref (ad 61)), (1, .int (vI y1)), (3, .int (vI x3))] dX1_lookForEndings_59 rfl (by decide) rfl ?_
          refine r_iinc h [(3, .int (vI (iw (x3 + 1)))), (2, .int (vI x9_)), (0, .ref (ad 61)), (1, .int (vI y1))] dX1_lookForEndings_60 3 rfl (by decide) rfl ?_
          refine r_goto (tgt := 18) h dX1_lookForEndings_63 (by decide) ?_
          refine r_sub h [2, 3, 1, 0] rfl ?_
          exact ih x9_ (iw (x3 + 1)) s7 rx9_ (rI_iw _) hf
set_option maxRecDepth 20000 in
theorem b_Fi_lookForEndings_7 {l : Launch} {D : va_G} {cs : Nat → ClassId} {aS aV : Nat} {A : Nat → Prop} {K : KT} {ad : Nat → Nat} {n : Nat} {nl : Nat → Nat → Bool} {out : Int × SS} (h : w_Cl l rm_Fi_lookForEndings D cs aS aV A cX1_lookForEndings 4 RX1 "lookForEndings" K) (hr : w_Rt 0 cX1_lookForEndings 0 0 (w_Po ad n nl out) K) (hw : w_WH n nl) (ht : 61 < n) : ∀ (fu : Nat) (x1 : Int) (s0 : SS), rI x1 → l_Fi_lookForEndings_7 fu x1 s0 = some out → K ad n nl 0 0 7 [(0, .ref (ad 61)), (1, .int (vI x1))] [] s0 := by
  intro fu
  induction fu with
  | zero =>
    intro x1 s0 rx1 hf
    rw [l_Fi_lookForEndings_7] at hf
    cases hf
  | succ fu ih =>
    intro x1 s0 rx1 hf
    rw [l_Fi_lookForEndings_7] at hf
    refine r_rS h (fun hs0 => ?_)
    refine r_iload_n h dX1_lookForEndings_7 rfl 1 rfl ?_
    refine r_sipush h dX1_lookForEndings_8 (by decide) ?_
    refine r_icmp_ge (tgt := 116) h dX1_lookForEndings_11 (by decide) rx1 (rIc rfl) (fun hc1 => ?_) (fun hc1 => ?_)
    · have hf := ite_t hc1 hf
      exact r_ret0 (x := 0) hr dX1_lookForEndings_116 hf
    · have hf := ite_f hc1 hf
      refine r_iconst h dX1_lookForEndings_14 ?_
      refine r_istore_n h [(2, .int (vI 0)), (0, .ref (ad 61)), (1, .int (vI x1))] dX1_lookForEndings_15 rfl (by decide) rfl ?_
      refine r_iconst h dX1_lookForEndings_16 ?_
      refine r_istore_n h [(3, .int (vI 0)), (2, .int (vI 0)), (0, .ref (ad 61)), (1, .int (vI x1))] dX1_lookForEndings_17 rfl (by decide) rfl ?_
      refine r_sub h [2, 3, 1, 0] rfl ?_
      exact b_Fi_lookForEndings_18 h hr hw ht rx1 (l_Fi_lookForEndings_7 fu) ih FU 0 0 s0 (rIc rfl) (rIc rfl) hf
set_option maxRecDepth 20000 in
theorem m_Fi_lookForEndings {l : Launch} {D : va_G} {cs : Nat → ClassId} {aS aV : Nat} {A : Nat → Prop} {ad : Nat → Nat} {n : Nat} {nl : Nat → Nat → Bool} {out : Int × SS} (hw : w_WH n nl) (ht : 61 < n) {s0 : SS} (hs0 : rS s0) (hf : f_Fi_lookForEndings s0 = some out) : w_MC l D cs aS aV A yX1_lookForEndings cX1_lookForEndings 4 0 rm_Fi_lookForEndings ad n nl [.ref (ad 61)] s0 (w_Po ad n nl out) := by
  refine w_MC_of (by decide +kernel) (by decide) hs0 (Nat.le_of_ble_eq_true rfl) (fun K h hr => ?_)
  refine r_lv (lv' := [(0, .ref (ad 61))]) rfl ?_
  unfold f_Fi_lookForEndings at hf
  refine r_rS h (fun hs0 => ?_)
  refine r_aload_n h dX1_lookForEndings_0 rfl 0 rfl ?_
  refine r_iconst h dX1_lookForEndings_1 ?_
  refine p_X1_163 h dX1_lookForEndings_2 ht rC_61 (rIc rfl) ?_
  refine r_os hf (fun s1 hf => ?_)
  refine r_rS h (fun hs1 => ?_)
  refine r_iconst h dX1_lookForEndings_5 ?_
  refine r_istore_n h [(1, .int (vI 0)), (0, .ref (ad 61))] dX1_lookForEndings_6 rfl (by decide) rfl ?_
  refine r_sub h [1, 0] rfl ?_
  exact b_Fi_lookForEndings_7 h hr hw ht FU 0 s1 (rIc rfl) hf
set_option maxRecDepth 20000 in
theorem b_Fi_firstCovering_19 {l : Launch} {D : va_G} {cs : Nat → ClassId} {aS aV : Nat} {A : Nat → Prop} {K : KT} {ad : Nat → Nat} {n : Nat} {nl : Nat → Nat → Bool} {out : Int × SS} (h : w_Cl l rm_Fi_firstCovering D cs aS aV A cX1_firstCovering 5 RX1 "firstCovering" K) (hr : w_Rt 1 cX1_firstCovering 0 0 (w_Po ad n nl out) K) (hw : w_WH n nl) (ht : 61 < n) {y2 : Int} (ry2 : rI y2) {y3 : Int} (ry3 : rI y3) : ∀ (fu : Nat) (x4 : Int) (s0 : SS), rI x4 → l_Fi_firstCovering_19 y2 y3 fu x4 s0 = some out → K ad n nl 0 0 19 [(0, .ref (ad 61)), (2, .int (vI y2)), (3, .int (vI y3)), (4, .int (vI x4))] [] s0 := by
  intro fu
  induction fu with
  | zero =>
    intro x4 s0 rx4 hf
    rw [l_Fi_firstCovering_19] at hf
    cases hf
  | succ fu ih =>
    intro x4 s0 rx4 hf
    rw [l_Fi_firstCovering_19] at hf
    refine r_rS h (fun hs0 => ?_)
    refine r_iload h dX1_firstCovering_19 3 rfl ?_
    refine r_aload_n h dX1_firstCovering_21 rfl 0 rfl ?_
    refine g_X1_163 h dX1_firstCovering_22 ht rC_61 ?_
    refine r_icmp_ge (tgt := 58) h dX1_firstCovering_25 (by decide) rx4 (hs0.1 _ _) (fun hc1 => ?_) (fun hc1 => ?_)
    · have hf := ite_t hc1 hf
      refine r_iconst h dX1_firstCovering_58 ?_
      exact r_ret1 hr dX1_firstCovering_59 (rIc rfl) hf
    · have hf := ite_f hc1 hf
      refine r_iload h dX1_firstCovering_28 3 rfl ?_
      refine r_sipush h dX1_firstCovering_30 (by decide) ?_
      refine r_icmp_ge (tgt := 58) h dX1_firstCovering_33 (by decide) rx4 (rIc rfl) (fun hc2 => ?_) (fun hc2 => ?_)
      · have hf := ite_t hc2 hf
        refine r_iconst h dX1_firstCovering_58 ?_
        exact r_ret1 hr dX1_firstCovering_59 (rIc rfl) hf
      · have hf := ite_f hc2 hf
        refine r_iload_n h dX1_firstCovering_36 rfl 1 rfl ?_
        refine r_aload_n h dX1_firstCovering_37 rfl 0 rfl ?_
        have hq3 := w_ref hw ht rC_61 (by decide) (k := 8) (by decide) rf_1_8
        refine g_X1_28 h dX1_firstCovering_38 ht rC_61 hq3.1 ?_
        refine r_iload h dX1_firstCovering_41 3 rfl ?_
        obtain ⟨hi4, hf⟩ := oc_some hf
        refine r_iald h dX1_firstCovering_43 hq3.2 rC_68 rx4 (N := 180) (by rw [rN_68]; rfl) (j := (x4).toNat) rfl hi4 ?_
        refine r_ior h dX1_firstCovering_44 ?_
        refine r_iload_n h dX1_firstCovering_45 rfl 2 rfl ?_
        refine r_icmp_ne (tgt := 52) h dX1_firstCovering_46 (by decide) (rI_zor _ _) ry3 (fun hc5 => ?_) (fun hc5 => ?_)
        · have hf := ite_f hc5 hf
          refine r_iinc h [(4, .int (vI (iw (x4 + 1)))), (0, .ref (ad 61)), (2, .int (vI y2)), (3, .int (vI y3))] dX1_firstCovering_52 3 rfl (by decide) rfl ?_
          refine r_goto (tgt := 19) h dX1_firstCovering_55 (by decide) ?_
          refine r_sub h [1, 2, 3, 0] rfl ?_
          exact ih (iw (x4 + 1)) s0 (rI_iw _) hf
        · have hf := ite_nf hc5 hf
          refine r_iload h dX1_firstCovering_49 3 rfl ?_
          exact r_ret1 hr dX1_firstCovering_51 rx4 hf
set_option maxRecDepth 20000 in
theorem m_Fi_firstCovering {l : Launch} {D : va_G} {cs : Nat → ClassId} {aS aV : Nat} {A : Nat → Prop} {ad : Nat → Nat} {n : Nat} {nl : Nat → Nat → Bool} {out : Int × SS} (hw : w_WH n nl) (ht : 61 < n) {a1 : Int} (ra1 : rI a1) {a2 : Int} (ra2 : rI a2) {s0 : SS} (hs0 : rS s0) (hf : f_Fi_firstCovering a1 a2 s0 = some out) : w_MC l D cs aS aV A yX1_firstCovering cX1_firstCovering 5 1 rm_Fi_firstCovering ad n nl [.ref (ad 61), .int (vI a1), .int (vI a2)] s0 (w_Po ad n nl out) := by
  refine w_MC_of (by decide +kernel) (by decide) hs0 (Nat.le_of_ble_eq_true rfl) (fun K h hr => ?_)
  refine r_lv (lv' := [(0, .ref (ad 61)), (1, .int (vI a1)), (2, .int (vI a2))]) rfl ?_
  unfold f_Fi_firstCovering at hf
  refine r_rS h (fun hs0 => ?_)
  refine r_iconst h dX1_firstCovering_0 ?_
  refine r_aload_n h dX1_firstCovering_1 rfl 0 rfl ?_
  have hq1 := w_ref hw ht rC_61 (by decide) (k := 0) (by decide) rf_1_0
  refine g_X1_49 h dX1_firstCovering_2 ht rC_61 hq1.1 ?_
  refine g_X1_110 h dX1_firstCovering_5 hq1.2 rC_2 ?_
  refine r_ishl h dX1_firstCovering_8 ?_
  refine r_iconst h dX1_firstCovering_9 ?_
  refine r_isub h dX1_firstCovering_10 ?_
  refine r_ol hf (rI_iw _) (fun x2_ rx2_ hf => ?_)
  refine r_istore_n h [(3, .int (vI x2_)), (0, .ref (ad 61)), (1, .int (vI a1)), (2, .int (vI a2))] dX1_firstCovering_11 rfl (by decide) rfl ?_
  refine r_iconst h dX1_firstCovering_12 ?_
  refine r_iload_n h dX1_firstCovering_13 rfl 2 rfl ?_
  refine r_mmax h dX1_firstCovering_14 (gt_in5 127 rfl rfl) ms_mmax.1 ms_mmax.2.1 ms_mmax.2.2 (Nat.le_of_ble_eq_true rfl) (Nat.le_of_ble_eq_true rfl) (Nat.le_of_ble_eq_true rfl) (Nat.le_of_ble_eq_true rfl) (rIc rfl) ra1 ?_
  refine r_ol hf (rI_zmax (rIc rfl) ra1) (fun x3_ rx3_ hf => ?_)
  refine r_istore h [(4, .int (vI x3_)), (3, .int (vI x2_)), (0, .ref (ad 61)), (1, .int (vI a1)), (2, .int (vI a2))] dX1_firstCovering_17 (by decide) rfl ?_
  refine r_sub h [2, 4, 1, 0] rfl ?_
  exact b_Fi_firstCovering_19 h hr hw ht ra2 rx2_ FU x3_ s0 rx3_ hf
set_option maxRecDepth 20000 in
theorem m_Fi_coverByOne {l : Launch} {D : va_G} {cs : Nat → ClassId} {aS aV : Nat} {A : Nat → Prop} {ad : Nat → Nat} {n : Nat} {nl : Nat → Nat → Bool} {out : Int × SS} (hw : w_WH n nl) (ht : 61 < n) {s0 : SS} (hs0 : rS s0) (hf : f_Fi_coverByOne s0 = some out) : w_MC l D cs aS aV A yX1_coverByOne cX1_coverByOne 2 2 rm_Fi_coverByOne ad n nl [.ref (ad 61)] s0 (w_Po ad n nl out) := by
  refine w_MC_of (by decide +kernel) (by decide) hs0 (Nat.le_of_ble_eq_true rfl) (fun K h hr => ?_)
  refine r_lv (lv' := [(0, .ref (ad 61))]) rfl ?_
  unfold f_Fi_coverByOne at hf
  refine r_rS h (fun hs0 => ?_)
  refine r_aload_n h dX1_coverByOne_0 rfl 0 rfl ?_
  refine r_iconst h dX1_coverByOne_1 ?_
  refine r_iconst h dX1_coverByOne_2 ?_
  obtain ⟨r1, s1, hq1, hf⟩ := ob_some hf
  refine r_callV1 h [.int (vI 0), .int (vI 0)] dX1_coverByOne_3 (fun hs => m_Fi_firstCovering hw ht (rIc rfl) (rIc rfl) hs hq1) ml_X1_176 cv_Fi_firstCovering rfl (co := 1) rfl (by decide) ht rC_61 ⟨rfl, rfl⟩ ⟨Nat.le_of_ble_eq_true rfl, Nat.le_of_ble_eq_true rfl⟩ ⟨Nat.le_of_ble_eq_true rfl, Nat.le_of_ble_eq_true rfl⟩ (Nat.le_of_ble_eq_true rfl) rfl (fun hr1 hs1 => ?_)
  refine r_istore_n h [(1, .int (vI r1)), (0, .ref (ad 61))] dX1_coverByOne_6 rfl (by decide) rfl ?_
  refine r_iload_n h dX1_coverByOne_7 rfl 0 rfl ?_
  refine r_iconst h dX1_coverByOne_8 ?_
  refine r_icmp_ne (tgt := 14) h dX1_coverByOne_9 (by decide) hr1 (rIc rfl) (fun hc2 => ?_) (fun hc2 => ?_)
  · have hf := ite_f hc2 hf
    refine r_aload_n h dX1_coverByOne_14 rfl 1 rfl ?_
    refine r_aload_n h dX1_coverByOne_15 rfl 1 rfl ?_
    have hq3 := w_ref hw ht rC_61 (by decide) (k := 7) (by decide) rf_1_7
    refine g_X1_25 h dX1_coverByOne_16 ht rC_61 hq3.1 ?_
    refine r_iload_n h dX1_coverByOne_19 rfl 0 rfl ?_
    obtain ⟨hi4, hf⟩ := oc_some hf
    refine r_iald h dX1_coverByOne_20 hq3.2 rC_67 hr1 (N := 180) (by rw [rN_67]; rfl) (j := (r1).toNat) rfl hi4 ?_
    obtain ⟨r5, s5, hq5, hf⟩ := ob_some hf
    refine r_callV0 h [.int (vI (gi s1 67 ((r1).toNat)))] dX1_coverByOne_21 (fun hs => m_Fi_lay hw ht (hs1.1 _ _) hs hq5) ml_X1_82 cv_Fi_lay rfl (co := 1) rfl (by decide) ht rC_61 ⟨rfl, rfl⟩ ⟨Nat.le_of_ble_eq_true rfl, Nat.le_of_ble_eq_true rfl⟩ ⟨Nat.le_of_ble_eq_true rfl, Nat.le_of_ble_eq_true rfl⟩ (Nat.le_of_ble_eq_true rfl) rfl (fun hr5 hs5 => ?_)
    refine r_iconst h dX1_coverByOne_24 ?_
    exact r_ret2 hr dX1_coverByOne_25 (Or.inr rfl) hf
  · have hf := ite_nf hc2 hf
    refine r_iconst h dX1_coverByOne_12 ?_
    exact r_ret2 hr dX1_coverByOne_13 (Or.inl rfl) hf
set_option maxRecDepth 20000 in
theorem b_Fi_coverByTwo_2 {l : Launch} {D : va_G} {cs : Nat → ClassId} {aS aV : Nat} {A : Nat → Prop} {K : KT} {ad : Nat → Nat} {n : Nat} {nl : Nat → Nat → Bool} {out : Int × SS} (h : w_Cl l rm_Fi_coverByTwo D cs aS aV A cX1_coverByTwo 3 RX1 "coverByTwo" K) (hr : w_Rt 2 cX1_coverByTwo 0 0 (w_Po ad n nl out) K) (hw : w_WH n nl) (ht : 61 < n) : ∀ (fu : Nat) (x1 : Int) (s0 : SS), rI x1 → l_Fi_coverByTwo_2 fu x1 s0 = some out → K ad n nl 0 0 2 [(0, .ref (ad 61)), (1, .int (vI x1))] [] s0 := by
  intro fu
  induction fu with
  | zero =>
    intro x1 s0 rx1 hf
    rw [l_Fi_coverByTwo_2] at hf
    cases hf
  | succ fu ih =>
    intro x1 s0 rx1 hf
    rw [l_Fi_coverByTwo_2] at hf
    refine r_rS h (fun hs0 => ?_)
    refine r_iload_n h dX1_coverByTwo_2 rfl 1 rfl ?_
    refine r_aload_n h dX1_coverByTwo_3 rfl 0 rfl ?_
    refine g_X1_163 h dX1_coverByTwo_4 ht rC_61 ?_
    refine r_icmp_ge (tgt := 64) h dX1_coverByTwo_7 (by decide) rx1 (hs0.1 _ _) (fun hc1 => ?_) (fun hc1 => ?_)
    · have hf := ite_t hc1 hf
      refine r_iconst h dX1_coverByTwo_64 ?_
      exact r_ret2 hr dX1_coverByTwo_65 (Or.inl rfl) hf
    · have hf := ite_f hc1 hf
      refine r_iload_n h dX1_coverByTwo_10 rfl 1 rfl ?_
      refine r_sipush h dX1_coverByTwo_11 (by decide) ?_
      refine r_icmp_ge (tgt := 64) h dX1_coverByTwo_14 (by decide) rx1 (rIc rfl) (fun hc2 => ?_) (fun hc2 => ?_)
      · have hf := ite_t hc2 hf
        refine r_iconst h dX1_coverByTwo_64 ?_
        exact r_ret2 hr dX1_coverByTwo_65 (Or.inl rfl) hf
      · have hf := ite_f hc2 hf
        refine r_aload_n h dX1_coverByTwo_17 rfl 0 rfl ?_
        refine r_iload_n h dX1_coverByTwo_18 rfl 1 rfl ?_
        refine r_iconst h dX1_coverByTwo_19 ?_
        refine r_iadd h dX1_coverByTwo_20 ?_
        refine r_aload_n h dX1_coverByTwo_21 rfl 0 rfl ?_
        have hq3 := w_ref hw ht rC_61 (by decide) (k := 8) (by decide) rf_1_8
        refine g_X1_28 h dX1_coverByTwo_22 ht rC_61 hq3.1 ?_
        refine r_iload_n h dX1_coverByTwo_25 rfl 1 rfl ?_
        obtain ⟨hi4, hf⟩ := oc_some hf
        refine r_iald h dX1_coverByTwo_26 hq3.2 rC_68 rx1 (N := 180) (by rw [rN_68]; rfl) (j := (x1).toNat) rfl hi4 ?_
        obtain ⟨r5, s5, hq5, hf⟩ := ob_some hf
        refine r_callV1 h [.int (vI (iw (x1 + 1))), .int (vI (gi s0 68 ((x1).toNat)))] dX1_coverByTwo_27 (fun hs => m_Fi_firstCovering hw ht (rI_iw _) (hs0.1 _ _) hs hq5) ml_X1_176 cv_Fi_firstCovering rfl (co := 1) rfl (by decide) ht rC_61 ⟨rfl, rfl⟩ ⟨Nat.le_of_ble_eq_true rfl, Nat.le_of_ble_eq_true rfl⟩ ⟨Nat.le_of_ble_eq_true rfl, Nat.le_of_ble_eq_true rfl⟩ (Nat.le_of_ble_eq_true rfl) rfl (fun hr5 hs5 => ?_)
        refine r_istore_n h [(2, .int (vI r5)), (0, .ref (ad 61)), (1, .int (vI x1))] dX1_coverByTwo_30 rfl (by decide) rfl ?_
        refine r_iload_n h dX1_coverByTwo_31 rfl 0 rfl ?_
        refine r_iconst h dX1_coverByTwo_32 ?_
        refine r_icmp_eq (tgt := 58) h dX1_coverByTwo_33 (by decide) hr5 (rIc rfl) (fun hc6 => ?_) (fun hc6 => ?_)
        · have hf := ite_t hc6 hf
          refine r_iinc h [(1, .int (vI (iw (x1 + 1)))), (2, .int (vI r5)), (0, .ref (ad 61))] dX1_coverByTwo_58 2 rfl (by decide) rfl ?_
          refine r_goto (tgt := 2) h dX1_coverByTwo_61 (by decide) ?_
          refine r_sub h [2, 0] rfl ?_
          exact ih (iw (x1 + 1)) s5 (rI_iw _) hf
        · have hf := ite_f hc6 hf
          refine r_aload_n h dX1_coverByTwo_36 rfl 1 rfl ?_
          refine r_aload_n h dX1_coverByTwo_37 rfl 1 rfl ?_
          have hq7 := w_ref hw ht rC_61 (by decide) (k := 7) (by decide) rf_1_7
          refine g_X1_25 h dX1_coverByTwo_38 ht rC_61 hq7.1 ?_
          refine r_iload_n h dX1_coverByTwo_41 rfl 2 rfl ?_
          obtain ⟨hi8, hf⟩ := oc_some hf
          refine r_iald h dX1_coverByTwo_42 hq7.2 rC_67 rx1 (N := 180) (by rw [rN_67]; rfl) (j := (x1).toNat) rfl hi8 ?_
          obtain ⟨r9, s9, hq9, hf⟩ := ob_some hf
          refine r_callV0 h [.int (vI (gi s5 67 ((x1).toNat)))] dX1_coverByTwo_43 (fun hs => m_Fi_lay hw ht (hs5.1 _ _) hs hq9) ml_X1_82 cv_Fi_lay rfl (co := 1) rfl (by decide) ht rC_61 ⟨rfl, rfl⟩ ⟨Nat.le_of_ble_eq_true rfl, Nat.le_of_ble_eq_true rfl⟩ ⟨Nat.le_of_ble_eq_true rfl, Nat.le_of_ble_eq_true rfl⟩ (Nat.le_of_ble_eq_true rfl) rfl (fun hr9 hs9 => ?_)
          refine r_aload_n h dX1_coverByTwo_46 rfl 1 rfl ?_
          refine r_aload_n h dX1_coverByTwo_47 rfl 1 rfl ?_
          have hq10 := w_ref hw ht rC_61 (by decide) (k := 7) (by decide) rf_1_7
          refine g_X1_25 h dX1_coverByTwo_48 ht rC_61 hq10.1 ?_
          refine r_iload_n h dX1_coverByTwo_51 rfl 0 rfl ?_
          obtain ⟨hi11, hf⟩ := oc_some hf
          refine r_iald h dX1_coverByTwo_52 hq10.2 rC_67 hr5 (N := 180) (by rw [rN_67]; rfl) (j := (r5).toNat) rfl hi11 ?_
          obtain ⟨r12, s12, hq12, hf⟩ := ob_some hf
          refine r_callV0 h [.int (vI (gi s9 67 ((r5).toNat)))] dX1_coverByTwo_53 (fun hs => m_Fi_lay hw ht (hs9.1 _ _) hs hq12) ml_X1_82 cv_Fi_lay rfl (co := 1) rfl (by decide) ht rC_61 ⟨rfl, rfl⟩ ⟨Nat.le_of_ble_eq_true rfl, Nat.le_of_ble_eq_true rfl⟩ ⟨Nat.le_of_ble_eq_true rfl, Nat.le_of_ble_eq_true rfl⟩ (Nat.le_of_ble_eq_true rfl) rfl (fun hr12 hs12 => ?_)
          refine r_iconst h dX1_coverByTwo_56 ?_
          exact r_ret2 hr dX1_coverByTwo_57 (Or.inr rfl) hf
set_option maxRecDepth 20000 in
theorem m_Fi_coverByTwo {l : Launch} {D : va_G} {cs : Nat → ClassId} {aS aV : Nat} {A : Nat → Prop} {ad : Nat → Nat} {n : Nat} {nl : Nat → Nat → Bool} {out : Int × SS} (hw : w_WH n nl) (ht : 61 < n) {s0 : SS} (hs0 : rS s0) (hf : f_Fi_coverByTwo s0 = some out) : w_MC l D cs aS aV A yX1_coverByTwo cX1_coverByTwo 3 2 rm_Fi_coverByTwo ad n nl [.ref (ad 61)] s0 (w_Po ad n nl out) := by
  refine w_MC_of (by decide +kernel) (by decide) hs0 (Nat.le_of_ble_eq_true rfl) (fun K h hr => ?_)
  refine r_lv (lv' := [(0, .ref (ad 61))]) rfl ?_
  unfold f_Fi_coverByTwo at hf
  refine r_rS h (fun hs0 => ?_)
  refine r_iconst h dX1_coverByTwo_0 ?_
  refine r_istore_n h [(1, .int (vI 0)), (0, .ref (ad 61))] dX1_coverByTwo_1 rfl (by decide) rfl ?_
  refine r_sub h [1, 0] rfl ?_
  exact b_Fi_coverByTwo_2 h hr hw ht FU 0 s0 (rIc rfl) hf
set_option maxRecDepth 20000 in
theorem b_Fi_coverByThree_21 {l : Launch} {D : va_G} {cs : Nat → ClassId} {aS aV : Nat} {A : Nat → Prop} {K : KT} {ad : Nat → Nat} {n : Nat} {nl : Nat → Nat → Bool} {out : Int × SS} (h : w_Cl l rm_Fi_coverByThree D cs aS aV A cX1_coverByThree 4 RX1 "coverByThree" K) (hr : w_Rt 2 cX1_coverByThree 0 0 (w_Po ad n nl out) K) (hw : w_WH n nl) (ht : 61 < n) {y1 : Int} (ry1 : rI y1) (self2 : Int → SS → OO) (hself2 : ∀ (x1 : Int) (τ : SS), rI x1 → self2 x1 τ = some out → K ad n nl 0 0 2 [(0, .ref (ad 61)), (1, .int (vI x1))] [] τ) : ∀ (fu : Nat) (x2 : Int) (s0 : SS), rI x2 → l_Fi_coverByThree_21 self2 y1 fu x2 s0 = some out → K ad n nl 0 0 21 [(0, .ref (ad 61)), (1, .int (vI y1)), (2, .int (vI x2))] [] s0 := by
  intro fu
  induction fu with
  | zero =>
    intro x2 s0 rx2 hf
    rw [l_Fi_coverByThree_21] at hf
    cases hf
  | succ fu ih =>
    intro x2 s0 rx2 hf
    rw [l_Fi_coverByThree_21] at hf
    refine r_rS h (fun hs0 => ?_)
    refine r_iload_n h dX1_coverByThree_21 rfl 2 rfl ?_
    refine r_aload_n h dX1_coverByThree_22 rfl 0 rfl ?_
    refine g_X1_163 h dX1_coverByThree_23 ht rC_61 ?_
    refine r_icmp_ge (tgt := 100) h dX1_coverByThree_26 (by decide) rx2 (hs0.1 _ _) (fun hc1 => ?_) (fun hc1 => ?_)
    · have hf := ite_t hc1 hf
      refine r_iinc h [(1, .int (vI (iw (y1 + 1)))), (0, .ref (ad 61)), (2, .int (vI x2))] dX1_coverByThree_100 1 rfl (by decide) rfl ?_
      refine r_goto (tgt := 2) h dX1_coverByThree_103 (by decide) ?_
      refine r_sub h [1, 0] rfl ?_
      exact hself2 (iw (y1 + 1)) s0 (rI_iw _) hf
    · have hf := ite_f hc1 hf
      refine r_iload_n h dX1_coverByThree_29 rfl 2 rfl ?_
      refine r_sipush h dX1_coverByThree_30 (by decide) ?_
      refine r_icmp_ge (tgt := 100) h dX1_coverByThree_33 (by decide) rx2 (rIc rfl) (fun hc2 => ?_) (fun hc2 => ?_)
      · have hf := ite_t hc2 hf
        refine r_iinc h [(1, .int (vI (iw (y1 + 1)))), (0, .ref (ad 61)), (2, .int (vI x2))] dX1_coverByThree_100 1 rfl (by decide) rfl ?_
        refine r_goto (tgt := 2) h dX1_coverByThree_103 (by decide) ?_
        refine r_sub h [1, 0] rfl ?_
        exact hself2 (iw (y1 + 1)) s0 (rI_iw _) hf
      · have hf := ite_f hc2 hf
        refine r_aload_n h dX1_coverByThree_36 rfl 0 rfl ?_
        refine r_iload_n h dX1_coverByThree_37 rfl 2 rfl ?_
        refine r_iconst h dX1_coverByThree_38 ?_
        refine r_iadd h dX1_coverByThree_39 ?_
        refine r_aload_n h dX1_coverByThree_40 rfl 0 rfl ?_
        have hq3 := w_ref hw ht rC_61 (by decide) (k := 8) (by decide) rf_1_8
        refine g_X1_28 h dX1_coverByThree_41 ht rC_61 hq3.1 ?_
        refine r_iload_n h dX1_coverByThree_44 rfl 1 rfl ?_
        obtain ⟨hi4, hf⟩ := oc_some hf
        refine r_iald h dX1_coverByThree_45 hq3.2 rC_68 ry1 (N := 180) (by rw [rN_68]; rfl) (j := (y1).toNat) rfl hi4 ?_
        refine r_aload_n h dX1_coverByThree_46 rfl 0 rfl ?_
        have hq5 := w_ref hw ht rC_61 (by decide) (k := 8) (by decide) rf_1_8
        refine g_X1_28 h dX1_coverByThree_47 ht rC_61 hq5.1 ?_
        refine r_iload_n h dX1_coverByThree_50 rfl 2 rfl ?_
        obtain ⟨hi6, hf⟩ := oc_some hf
        refine r_iald h dX1_coverByThree_51 hq5.2 rC_68 rx2 (N := 180) (by rw [rN_68]; rfl) (j := (x2).toNat) rfl hi6 ?_
        refine r_ior h dX1_coverByThree_52 ?_
        obtain ⟨r7, s7, hq7, hf⟩ := ob_some hf
        refine r_callV1 h [.int (vI (iw (x2 + 1))), .int (vI (zor (gi s0 68 ((y1).toNat)) (gi s0 68 ((x2).toNat))))] dX1_coverByThree_53 (fun hs => m_Fi_firstCovering hw ht (rI_iw _) (rI_zor _ _) hs hq7) ml_X1_176 cv_Fi_firstCovering rfl (co := 1) rfl (by decide) ht rC_61 ⟨rfl, rfl⟩ ⟨Nat.le_of_ble_eq_true rfl, Nat.le_of_ble_eq_true rfl⟩ ⟨Nat.le_of_ble_eq_true rfl, Nat.le_of_ble_eq_true rfl⟩ (Nat.le_of_ble_eq_true rfl) rfl (fun hr7 hs7 => ?_)
        refine r_istore_n h [(3, .int (vI r7)), (0, .ref (ad 61)), (1, .int (vI y1)), (2, .int (vI x2))] dX1_coverByThree_56 rfl (by decide) rfl ?_
        refine r_iload_n h dX1_coverByThree_57 rfl 0 rfl ?_
        refine r_iconst h dX1_coverByThree_58 ?_
        refine r_icmp_eq (tgt := 94) h dX1_coverByThree_59 (by decide) hr7 (rIc rfl) (fun hc8 => ?_) (fun hc8 => ?_)
        · have hf := ite_t hc8 hf
          refine r_iinc h [(2, .int (vI (iw (x2 + 1)))), (3, .int (vI r7)), (0, .ref (ad 61)), (1, .int (vI y1))] dX1_coverByThree_94 3 rfl (by decide) rfl ?_
          refine r_goto (tgt := 21) h dX1_coverByThree_97 (by decide) ?_
          refine r_sub h [2, 3, 0] rfl ?_
          exact ih (iw (x2 + 1)) s7 (rI_iw _) hf
        · have hf := ite_f hc8 hf
          refine r_aload_n h dX1_coverByThree_62 rfl 1 rfl ?_
          refine r_aload_n h dX1_coverByThree_63 rfl 1 rfl ?_
          have hq9 := w_ref hw ht rC_61 (by decide) (k := 7) (by decide) rf_1_7
          refine g_X1_25 h dX1_coverByThree_64 ht rC_61 hq9.1 ?_
          refine r_iload_n h dX1_coverByThree_67 rfl 2 rfl ?_
          obtain ⟨hi10, hf⟩ := oc_some hf
          refine r_iald h dX1_coverByThree_68 hq9.2 rC_67 ry1 (N := 180) (by rw [rN_67]; rfl) (j := (y1).toNat) rfl hi10 ?_
          obtain ⟨r11, s11, hq11, hf⟩ := ob_some hf
          refine r_callV0 h [.int (vI (gi s7 67 ((y1).toNat)))] dX1_coverByThree_69 (fun hs => m_Fi_lay hw ht (hs7.1 _ _) hs hq11) ml_X1_82 cv_Fi_lay rfl (co := 1) rfl (by decide) ht rC_61 ⟨rfl, rfl⟩ ⟨Nat.le_of_ble_eq_true rfl, Nat.le_of_ble_eq_true rfl⟩ ⟨Nat.le_of_ble_eq_true rfl, Nat.le_of_ble_eq_true rfl⟩ (Nat.le_of_ble_eq_true rfl) rfl (fun hr11 hs11 => ?_)
          refine r_aload_n h dX1_coverByThree_72 rfl 1 rfl ?_
          refine r_aload_n h dX1_coverByThree_73 rfl 1 rfl ?_
          have hq12 := w_ref hw ht rC_61 (by decide) (k := 7) (by decide) rf_1_7
          refine g_X1_25 h dX1_coverByThree_74 ht rC_61 hq12.1 ?_
          refine r_iload_n h dX1_coverByThree_77 rfl 3 rfl ?_
          obtain ⟨hi13, hf⟩ := oc_some hf
          refine r_iald h dX1_coverByThree_78 hq12.2 rC_67 rx2 (N := 180) (by rw [rN_67]; rfl) (j := (x2).toNat) rfl hi13 ?_
          obtain ⟨r14, s14, hq14, hf⟩ := ob_some hf
          refine r_callV0 h [.int (vI (gi s11 67 ((x2).toNat)))] dX1_coverByThree_79 (fun hs => m_Fi_lay hw ht (hs11.1 _ _) hs hq14) ml_X1_82 cv_Fi_lay rfl (co := 1) rfl (by decide) ht rC_61 ⟨rfl, rfl⟩ ⟨Nat.le_of_ble_eq_true rfl, Nat.le_of_ble_eq_true rfl⟩ ⟨Nat.le_of_ble_eq_true rfl, Nat.le_of_ble_eq_true rfl⟩ (Nat.le_of_ble_eq_true rfl) rfl (fun hr14 hs14 => ?_)
          refine r_aload_n h dX1_coverByThree_82 rfl 1 rfl ?_
          refine r_aload_n h dX1_coverByThree_83 rfl 1 rfl ?_
          have hq15 := w_ref hw ht rC_61 (by decide) (k := 7) (by decide) rf_1_7
          refine g_X1_25 h dX1_coverByThree_84 ht rC_61 hq15.1 ?_
          refine r_iload_n h dX1_coverByThree_87 rfl 0 rfl ?_
          obtain ⟨hi16, hf⟩ := oc_some hf
          refine r_iald h dX1_coverByThree_88 hq15.2 rC_67 hr7 (N := 180) (by rw [rN_67]; rfl) (j := (r7).toNat) rfl hi16 ?_
          obtain ⟨r17, s17, hq17, hf⟩ := ob_some hf
          refine r_callV0 h [.int (vI (gi s14 67 ((r7).toNat)))] dX1_coverByThree_89 (fun hs => m_Fi_lay hw ht (hs14.1 _ _) hs hq17) ml_X1_82 cv_Fi_lay rfl (co := 1) rfl (by decide) ht rC_61 ⟨rfl, rfl⟩ ⟨Nat.le_of_ble_eq_true rfl, Nat.le_of_ble_eq_true rfl⟩ ⟨Nat.le_of_ble_eq_true rfl, Nat.le_of_ble_eq_true rfl⟩ (Nat.le_of_ble_eq_true rfl) rfl (fun hr17 hs17 => ?_)
          refine r_iconst h dX1_coverByThree_92 ?_
          exact r_ret2 hr dX1_coverByThree_93 (Or.inr rfl) hf
set_option maxRecDepth 20000 in
theorem b_Fi_coverByThree_2 {l : Launch} {D : va_G} {cs : Nat → ClassId} {aS aV : Nat} {A : Nat → Prop} {K : KT} {ad : Nat → Nat} {n : Nat} {nl : Nat → Nat → Bool} {out : Int × SS} (h : w_Cl l rm_Fi_coverByThree D cs aS aV A cX1_coverByThree 4 RX1 "coverByThree" K) (hr : w_Rt 2 cX1_coverByThree 0 0 (w_Po ad n nl out) K) (hw : w_WH n nl) (ht : 61 < n) : ∀ (fu : Nat) (x1 : Int) (s0 : SS), rI x1 → l_Fi_coverByThree_2 fu x1 s0 = some out → K ad n nl 0 0 2 [(0, .ref (ad 61)), (1, .int (vI x1))] [] s0 := by
  intro fu
  induction fu with
  | zero =>
    intro x1 s0 rx1 hf
    rw [l_Fi_coverByThree_2] at hf
    cases hf
  | succ fu ih =>
    intro x1 s0 rx1 hf
    rw [l_Fi_coverByThree_2] at hf
    refine r_rS h (fun hs0 => ?_)
    refine r_iload_n h dX1_coverByThree_2 rfl 1 rfl ?_
    refine r_aload_n h dX1_coverByThree_3 rfl 0 rfl ?_
    refine g_X1_163 h dX1_coverByThree_4 ht rC_61 ?_
    refine r_icmp_ge (tgt := 106) h dX1_coverByThree_7 (by decide) rx1 (hs0.1 _ _) (fun hc1 => ?_) (fun hc1 => ?_)
    · have hf := ite_t hc1 hf
      refine r_iconst h dX1_coverByThree_106 ?_
      exact r_ret2 hr dX1_coverByThree_107 (Or.inl rfl) hf
    · have hf := ite_f hc1 hf
      refine r_iload_n h dX1_coverByThree_10 rfl 1 rfl ?_
      refine r_sipush h dX1_coverByThree_11 (by decide) ?_
      refine r_icmp_ge (tgt := 106) h dX1_coverByThree_14 (by decide) rx1 (rIc rfl) (fun hc2 => ?_) (fun hc2 => ?_)
      · have hf := ite_t hc2 hf
        refine r_iconst h dX1_coverByThree_106 ?_
        exact r_ret2 hr dX1_coverByThree_107 (Or.inl rfl) hf
      · have hf := ite_f hc2 hf
        refine r_iload_n h dX1_coverByThree_17 rfl 1 rfl ?_
        refine r_iconst h dX1_coverByThree_18 ?_
        refine r_iadd h dX1_coverByThree_19 ?_
        refine r_ol hf (rI_iw _) (fun x3_ rx3_ hf => ?_)
        refine r_istore_n h [(2, .int (vI x3_)), (0, .ref (ad 61)), (1, .int (vI x1))] dX1_coverByThree_20 rfl (by decide) rfl ?_
        refine r_sub h [1, 2, 0] rfl ?_
        exact b_Fi_coverByThree_21 h hr hw ht rx1 (l_Fi_coverByThree_2 fu) ih FU x3_ s0 rx3_ hf
set_option maxRecDepth 20000 in
theorem m_Fi_coverByThree {l : Launch} {D : va_G} {cs : Nat → ClassId} {aS aV : Nat} {A : Nat → Prop} {ad : Nat → Nat} {n : Nat} {nl : Nat → Nat → Bool} {out : Int × SS} (hw : w_WH n nl) (ht : 61 < n) {s0 : SS} (hs0 : rS s0) (hf : f_Fi_coverByThree s0 = some out) : w_MC l D cs aS aV A yX1_coverByThree cX1_coverByThree 4 2 rm_Fi_coverByThree ad n nl [.ref (ad 61)] s0 (w_Po ad n nl out) := by
  refine w_MC_of (by decide +kernel) (by decide) hs0 (Nat.le_of_ble_eq_true rfl) (fun K h hr => ?_)
  refine r_lv (lv' := [(0, .ref (ad 61))]) rfl ?_
  unfold f_Fi_coverByThree at hf
  refine r_rS h (fun hs0 => ?_)
  refine r_iconst h dX1_coverByThree_0 ?_
  refine r_istore_n h [(1, .int (vI 0)), (0, .ref (ad 61))] dX1_coverByThree_1 rfl (by decide) rfl ?_
  refine r_sub h [1, 0] rfl ?_
  exact b_Fi_coverByThree_2 h hr hw ht FU 0 s0 (rIc rfl) hf
set_option maxRecDepth 20000 in
theorem m_Fi_layCover {l : Launch} {D : va_G} {cs : Nat → ClassId} {aS aV : Nat} {A : Nat → Prop} {ad : Nat → Nat} {n : Nat} {nl : Nat → Nat → Bool} {out : Int × SS} (hw : w_WH n nl) (ht : 61 < n) {s0 : SS} (hs0 : rS s0) (hf : f_Fi_layCover s0 = some out) : w_MC l D cs aS aV A yX1_layCover cX1_layCover 1 1 rm_Fi_layCover ad n nl [.ref (ad 61)] s0 (w_Po ad n nl out) := by
  refine w_MC_of (by decide +kernel) (by decide) hs0 (Nat.le_of_ble_eq_true rfl) (fun K h hr => ?_)
  refine r_lv (lv' := [(0, .ref (ad 61))]) rfl ?_
  unfold f_Fi_layCover at hf
  refine r_rS h (fun hs0 => ?_)
  refine r_aload_n h dX1_layCover_0 rfl 0 rfl ?_
  obtain ⟨r1, s1, hq1, hf⟩ := ob_some hf
  refine r_callV0 h [] dX1_layCover_1 (fun hs => m_Fi_layNothing hw ht hs hq1) ml_X1_69 cv_Fi_layNothing rfl (co := 1) rfl (by decide) ht rC_61 ⟨rfl, rfl⟩ ⟨Nat.le_of_ble_eq_true rfl, Nat.le_of_ble_eq_true rfl⟩ ⟨Nat.le_of_ble_eq_true rfl, Nat.le_of_ble_eq_true rfl⟩ (Nat.le_of_ble_eq_true rfl) rfl (fun hr1 hs1 => ?_)
  refine r_aload_n h dX1_layCover_4 rfl 0 rfl ?_
  have hq2 := w_ref hw ht rC_61 (by decide) (k := 0) (by decide) rf_1_0
  refine g_X1_49 h dX1_layCover_5 ht rC_61 hq2.1 ?_
  refine g_X1_110 h dX1_layCover_8 hq2.2 rC_2 ?_
  refine r_if_gt (tgt := 16) h dX1_layCover_11 (by decide) (hs1.1 _ _) (fun hc3 => ?_) (fun hc3 => ?_)
  · have hf := ite_t hc3 hf
    refine r_aload_n h dX1_layCover_16 rfl 0 rfl ?_
    obtain ⟨r4, s4, hq4, hf⟩ := ob_some hf
    refine r_callV2 h [] dX1_layCover_17 (fun hs => m_Fi_coverByOne hw ht hs hq4) ml_X1_166 cv_Fi_coverByOne rfl (co := 1) rfl (by decide) ht rC_61 ⟨rfl, rfl⟩ ⟨Nat.le_of_ble_eq_true rfl, Nat.le_of_ble_eq_true rfl⟩ ⟨Nat.le_of_ble_eq_true rfl, Nat.le_of_ble_eq_true rfl⟩ (Nat.le_of_ble_eq_true rfl) rfl (fun hr4 hs4 => ?_)
    refine r_if_ne (tgt := 37) h dX1_layCover_20 (by decide) (rI_b hr4) (fun hc5 => ?_) (fun hc5 => ?_)
    · have hf := ite_f hc5 hf
      refine r_aload_n h dX1_layCover_37 rfl 0 rfl ?_
      refine g_X1_65 h dX1_layCover_38 ht rC_61 ?_
      exact r_ret1 hr dX1_layCover_41 (hs4.1 _ _) hf
    · have hf := ite_nf hc5 hf
      refine r_aload_n h dX1_layCover_23 rfl 0 rfl ?_
      obtain ⟨r6, s6, hq6, hf⟩ := ob_some hf
      refine r_callV2 h [] dX1_layCover_24 (fun hs => m_Fi_coverByTwo hw ht hs hq6) ml_X1_170 cv_Fi_coverByTwo rfl (co := 1) rfl (by decide) ht rC_61 ⟨rfl, rfl⟩ ⟨Nat.le_of_ble_eq_true rfl, Nat.le_of_ble_eq_true rfl⟩ ⟨Nat.le_of_ble_eq_true rfl, Nat.le_of_ble_eq_true rfl⟩ (Nat.le_of_ble_eq_true rfl) rfl (fun hr6 hs6 => ?_)
      refine r_if_ne (tgt := 37) h dX1_layCover_27 (by decide) (rI_b hr6) (fun hc7 => ?_) (fun hc7 => ?_)
      · have hf := ite_f hc7 hf
        refine r_aload_n h dX1_layCover_37 rfl 0 rfl ?_
        refine g_X1_65 h dX1_layCover_38 ht rC_61 ?_
        exact r_ret1 hr dX1_layCover_41 (hs6.1 _ _) hf
      · have hf := ite_nf hc7 hf
        refine r_aload_n h dX1_layCover_30 rfl 0 rfl ?_
        obtain ⟨r8, s8, hq8, hf⟩ := ob_some hf
        refine r_callV2 h [] dX1_layCover_31 (fun hs => m_Fi_coverByThree hw ht hs hq8) ml_X1_173 cv_Fi_coverByThree rfl (co := 1) rfl (by decide) ht rC_61 ⟨rfl, rfl⟩ ⟨Nat.le_of_ble_eq_true rfl, Nat.le_of_ble_eq_true rfl⟩ ⟨Nat.le_of_ble_eq_true rfl, Nat.le_of_ble_eq_true rfl⟩ (Nat.le_of_ble_eq_true rfl) rfl (fun hr8 hs8 => ?_)
        refine r_if_eq (tgt := 42) h dX1_layCover_34 (by decide) (rI_b hr8) (fun hc9 => ?_) (fun hc9 => ?_)
        · have hf := ite_t hc9 hf
          refine r_iconst h dX1_layCover_42 ?_
          exact r_ret1 hr dX1_layCover_43 (rIc rfl) hf
        · have hf := ite_f hc9 hf
          refine r_aload_n h dX1_layCover_37 rfl 0 rfl ?_
          refine g_X1_65 h dX1_layCover_38 ht rC_61 ?_
          exact r_ret1 hr dX1_layCover_41 (hs8.1 _ _) hf
  · have hf := ite_f hc3 hf
    refine r_iconst h dX1_layCover_14 ?_
    exact r_ret1 hr dX1_layCover_15 (rIc rfl) hf
set_option maxRecDepth 20000 in
theorem m_Fi_openLength {l : Launch} {D : va_G} {cs : Nat → ClassId} {aS aV : Nat} {A : Nat → Prop} {ad : Nat → Nat} {n : Nat} {nl : Nat → Nat → Bool} {out : Int × SS} (hw : w_WH n nl) (ht : 61 < n) {a1 : Int} (ra1 : rI a1) {s0 : SS} (hs0 : rS s0) (hf : f_Fi_openLength a1 s0 = some out) : w_MC l D cs aS aV A yX1_openLength cX1_openLength 2 1 rm_Fi_openLength ad n nl [.ref (ad 61), .int (vI a1)] s0 (w_Po ad n nl out) := by
  refine w_MC_of (by decide +kernel) (by decide) hs0 (Nat.le_of_ble_eq_true rfl) (fun K h hr => ?_)
  refine r_lv (lv' := [(0, .ref (ad 61)), (1, .int (vI a1))]) rfl ?_
  unfold f_Fi_openLength at hf
  refine r_rS h (fun hs0 => ?_)
  refine r_aload_n h dX1_openLength_0 rfl 0 rfl ?_
  have hq1 := w_ref hw ht rC_61 (by decide) (k := 2) (by decide) rf_1_2
  refine g_X1_61 h dX1_openLength_1 ht rC_61 hq1.1 ?_
  have hq2c := rf_8_1 _ rC_75
  have hq2 := w_ref hw hq1.2 rC_75 (by decide) (k := 1) (by decide) hq2c.1
  refine g_X1_149 h dX1_openLength_4 hq1.2 rC_75 hq2.1 ?_
  refine r_st (st0 := [.ref (ad 76)]) rfl ?_
  refine r_iload_n h dX1_openLength_7 rfl 1 rfl ?_
  obtain ⟨r3, s3, hq3, hf⟩ := ob_some hf
  refine r_callV0 h [.int (vI a1)] dX1_openLength_8 (fun hs => m_Ta_begin hw hq2.2 rC_76 ra1 hs hq3) ml_X1_153 cv_Ta_begin rfl (co := 9) rfl (by decide) hq2.2 rC_76 ⟨rfl, rfl⟩ ⟨Nat.le_of_ble_eq_true rfl, Nat.le_of_ble_eq_true rfl⟩ ⟨Nat.le_of_ble_eq_true rfl, Nat.le_of_ble_eq_true rfl⟩ (Nat.le_of_ble_eq_true rfl) rfl (fun hr3 hs3 => ?_)
  refine r_aload_n h dX1_openLength_11 rfl 0 rfl ?_
  have hq4 := w_ref hw ht rC_61 (by decide) (k := 2) (by decide) rf_1_2
  refine g_X1_61 h dX1_openLength_12 ht rC_61 hq4.1 ?_
  have hq5c := rf_8_1 _ rC_75
  have hq5 := w_ref hw hq4.2 rC_75 (by decide) (k := 1) (by decide) hq5c.1
  refine g_X1_149 h dX1_openLength_15 hq4.2 rC_75 hq5.1 ?_
  refine r_st (st0 := [.ref (ad 76)]) rfl ?_
  refine r_aload_n h dX1_openLength_18 rfl 0 rfl ?_
  have hq6 := w_ref hw ht rC_61 (by decide) (k := 1) (by decide) rf_1_1
  refine g_X1_53 h dX1_openLength_19 ht rC_61 hq6.1 ?_
  refine r_sipush h dX1_openLength_22 (by decide) ?_
  obtain ⟨r7, s7, hq7, hf⟩ := ob_some hf
  refine r_callV1 h [.ref (ad 47), .int (vI 200)] dX1_openLength_25 (fun hs => m_Ta_talkOpenly hw hq5.2 rC_76 hq6.2 rC_47 (rIc rfl) hs hq7) ml_X1_189 cv_Ta_talkOpenly rfl (co := 9) rfl (by decide) hq5.2 rC_76 ⟨rfl, rfl⟩ ⟨Nat.le_of_ble_eq_true rfl, Nat.le_of_ble_eq_true rfl⟩ ⟨Nat.le_of_ble_eq_true rfl, Nat.le_of_ble_eq_true rfl⟩ (Nat.le_of_ble_eq_true rfl) rfl (fun hr7 hs7 => ?_)
  exact r_ret1 hr dX1_openLength_28 hr7 hf
set_option maxRecDepth 20000 in
theorem b_Fi_countTurned_4 {l : Launch} {D : va_G} {cs : Nat → ClassId} {aS aV : Nat} {A : Nat → Prop} {K : KT} {ad : Nat → Nat} {n : Nat} {nl : Nat → Nat → Bool} {out : Int × SS} (h : w_Cl l rm_Fi_countTurned D cs aS aV A cX1_countTurned 6 RX1 "countTurned" K) (hr : w_Rt 1 cX1_countTurned 0 0 (w_Po ad n nl out) K) (hw : w_WH n nl) (ht : 61 < n) : ∀ (fu : Nat) (x1 : Int) (x2 : Int) (s0 : SS), rI x1 → rI x2 → l_Fi_countTurned_4 fu x1 x2 s0 = some out → K ad n nl 0 0 4 [(0, .ref (ad 61)), (1, .int (vI x1)), (2, .int (vI x2))] [] s0 := by
  intro fu
  induction fu with
  | zero =>
    intro x1 x2 s0 rx1 rx2 hf
    rw [l_Fi_countTurned_4] at hf
    cases hf
  | succ fu ih =>
    intro x1 x2 s0 rx1 rx2 hf
    rw [l_Fi_countTurned_4] at hf
    refine r_rS h (fun hs0 => ?_)
    refine r_iload_n h dX1_countTurned_4 rfl 2 rfl ?_
    refine r_sipush h dX1_countTurned_5 (by decide) ?_
    refine r_icmp_ge (tgt := 81) h dX1_countTurned_8 (by decide) rx2 (rIc rfl) (fun hc1 => ?_) (fun hc1 => ?_)
    · have hf := ite_t hc1 hf
      refine r_iload_n h dX1_countTurned_81 rfl 1 rfl ?_
      exact r_ret1 hr dX1_countTurned_82 rx1 hf
    · have hf := ite_f hc1 hf
      refine r_iload_n h dX1_countTurned_11 rfl 2 rfl ?_
      refine r_bipush h dX1_countTurned_12 (by decide) ?_
      refine r_idivP h dX1_countTurned_14 rx2 (rIc rfl) (by decide) ?_
      refine r_ol hf (rI_tdivP rx2 (by decide)) (fun x2_ rx2_ hf => ?_)
      refine r_istore_n h [(3, .int (vI x2_)), (0, .ref (ad 61)), (1, .int (vI x1)), (2, .int (vI x2))] dX1_countTurned_15 rfl (by decide) rfl ?_
      refine r_iload_n h dX1_countTurned_16 rfl 3 rfl ?_
      refine r_bipush h dX1_countTurned_17 (by decide) ?_
      refine r_idivP h dX1_countTurned_19 rx2 (rIc rfl) (by decide) ?_
      refine r_bipush h dX1_countTurned_20 (by decide) ?_
      refine r_irem h dX1_countTurned_22 (rI_tdivP rx2 (by decide)) (rIc rfl) (by decide) ?_
      refine r_ol hf (rI_tmod (rI_tdivP rx2 (by decide)) (rIc rfl)) (fun x3_ rx3_ hf => ?_)
      refine r_istore h [(4, .int (vI x3_)), (3, .int (vI x2_)), (0, .ref (ad 61)), (1, .int (vI x1)), (2, .int (vI x2))] dX1_countTurned_23 (by decide) rfl ?_
      refine r_iload_n h dX1_countTurned_25 rfl 4 rfl ?_
      refine r_bipush h dX1_countTurned_26 (by decide) ?_
      refine r_irem h dX1_countTurned_28 rx2 (rIc rfl) (by decide) ?_
      refine r_ol hf (rI_tmod rx2 (rIc rfl)) (fun x4_ rx4_ hf => ?_)
      refine r_istore h [(5, .int (vI x4_)), (4, .int (vI x3_)), (3, .int (vI x2_)), (0, .ref (ad 61)), (1, .int (vI x1)), (2, .int (vI x2))] dX1_countTurned_29 (by decide) rfl ?_
      refine r_iload_n h dX1_countTurned_31 rfl 2 rfl ?_
      refine r_iload h dX1_countTurned_32 1 rfl ?_
      refine r_icmp_ge (tgt := 75) h dX1_countTurned_34 (by decide) rx2_ rx3_ (fun hc5 => ?_) (fun hc5 => ?_)
      · have hf := ite_t hc5 hf
        refine r_iinc h [(2, .int (vI (iw (x2 + 1)))), (5, .int (vI x4_)), (4, .int (vI x3_)), (3, .int (vI x2_)), (0, .ref (ad 61)), (1, .int (vI x1))] dX1_countTurned_75 5 rfl (by decide) rfl ?_
        refine r_goto (tgt := 4) h dX1_countTurned_78 (by decide) ?_
        refine r_sub h [4, 5, 0] rfl ?_
        exact ih x1 (iw (x2 + 1)) s0 rx1 (rI_iw _) hf
      · have hf := ite_f hc5 hf
        refine r_aload_n h dX1_countTurned_37 rfl 3 rfl ?_
        have hq6 := w_ref hw ht rC_61 (by decide) (k := 0) (by decide) rf_1_0
        refine g_X1_49 h dX1_countTurned_38 ht rC_61 hq6.1 ?_
        refine r_iload_n h dX1_countTurned_41 rfl 5 rfl ?_
        obtain ⟨r7, s7, hq7, hf⟩ := ob_some hf
        refine r_callV2 h [.int (vI x2)] dX1_countTurned_42 (fun hs => m_La_isCouple hw hq6.2 rC_2 rx2 hs hq7) ml_X1_129 cv_La_isCouple rfl (co := 4) rfl (by decide) hq6.2 rC_2 ⟨rfl, rfl⟩ ⟨Nat.le_of_ble_eq_true rfl, Nat.le_of_ble_eq_true rfl⟩ ⟨Nat.le_of_ble_eq_true rfl, Nat.le_of_ble_eq_true rfl⟩ (Nat.le_of_ble_eq_true rfl) rfl (fun hr7 hs7 => ?_)
        refine r_if_eq (tgt := 75) h dX1_countTurned_45 (by decide) (rI_b hr7) (fun hc8 => ?_) (fun hc8 => ?_)
        · have hf := ite_t hc8 hf
          refine r_iinc h [(2, .int (vI (iw (x2 + 1)))), (5, .int (vI x4_)), (4, .int (vI x3_)), (3, .int (vI x2_)), (0, .ref (ad 61)), (1, .int (vI x1))] dX1_countTurned_75 5 rfl (by decide) rfl ?_
          refine r_goto (tgt := 4) h dX1_countTurned_78 (by decide) ?_
          refine r_sub h [4, 5, 0] rfl ?_
          exact ih x1 (iw (x2 + 1)) s7 rx1 (rI_iw _) hf
        · have hf := ite_f hc8 hf
          refine r_aload_n h dX1_countTurned_48 rfl 3 rfl ?_
          refine r_iload_n h dX1_countTurned_49 rfl 5 rfl ?_
          obtain ⟨r9, s9, hq9, hf⟩ := ob_some hf
          refine r_callV1 h [.int (vI x2)] dX1_countTurned_50 (fun hs => m_Fi_openLength hw ht rx2 hs hq9) ml_X1_182 cv_Fi_openLength rfl (co := 1) rfl (by decide) ht rC_61 ⟨rfl, rfl⟩ ⟨Nat.le_of_ble_eq_true rfl, Nat.le_of_ble_eq_true rfl⟩ ⟨Nat.le_of_ble_eq_true rfl, Nat.le_of_ble_eq_true rfl⟩ (Nat.le_of_ble_eq_true rfl) rfl (fun hr9 hs9 => ?_)
          refine r_aload_n h dX1_countTurned_53 rfl 3 rfl ?_
          refine r_aload_n h dX1_countTurned_54 rfl 3 rfl ?_
          have hq10 := w_ref hw ht rC_61 (by decide) (k := 0) (by decide) rf_1_0
          refine g_X1_49 h dX1_countTurned_55 ht rC_61 hq10.1 ?_
          refine r_iload h dX1_countTurned_58 1 rfl ?_
          refine r_iload_n h dX1_countTurned_60 rfl 2 rfl ?_
          refine r_iload h dX1_countTurned_61 0 rfl ?_
          obtain ⟨r11, s11, hq11, hf⟩ := ob_some hf
          refine r_callV1 h [.int (vI x3_), .int (vI x2_), .int (vI x4_)] dX1_countTurned_63 (fun hs => m_La_couple hw hq10.2 rC_2 rx3_ rx2_ rx4_ hs hq11) ml_X1_185 cv_La_couple rfl (co := 4) rfl (by decide) hq10.2 rC_2 ⟨rfl, rfl⟩ ⟨Nat.le_of_ble_eq_true rfl, Nat.le_of_ble_eq_true rfl⟩ ⟨Nat.le_of_ble_eq_true rfl, Nat.le_of_ble_eq_true rfl⟩ (Nat.le_of_ble_eq_true rfl) rfl (fun hr11 hs11 => ?_)
          obtain ⟨r12, s12, hq12, hf⟩ := ob_some hf
          refine r_callV1 h [.int (vI r11)] dX1_countTurned_66 (fun hs => m_Fi_openLength hw ht hr11 hs hq12) ml_X1_182 cv_Fi_openLength rfl (co := 1) rfl (by decide) ht rC_61 ⟨rfl, rfl⟩ ⟨Nat.le_of_ble_eq_true rfl, Nat.le_of_ble_eq_true rfl⟩ ⟨Nat.le_of_ble_eq_true rfl, Nat.le_of_ble_eq_true rfl⟩ (Nat.le_of_ble_eq_true rfl) rfl (fun hr12 hs12 => ?_)
          refine r_icmp_ne (tgt := 75) h dX1_countTurned_69 (by decide) hr9 hr12 (fun hc13 => ?_) (fun hc13 => ?_)
          · have hf := ite_f hc13 hf
            refine r_iinc h [(2, .int (vI (iw (x2 + 1)))), (5, .int (vI x4_)), (4, .int (vI x3_)), (3, .int (vI x2_)), (0, .ref (ad 61)), (1, .int (vI x1))] dX1_countTurned_75 5 rfl (by decide) rfl ?_
            refine r_goto (tgt := 4) h dX1_countTurned_78 (by decide) ?_
            refine r_sub h [4, 5, 0] rfl ?_
            exact ih x1 (iw (x2 + 1)) s12 rx1 (rI_iw _) hf
          · have hf := ite_nf hc13 hf
            refine r_iinc h [(1, .int (vI (iw (x1 + 1)))), (5, .int (vI x4_)), (4, .int (vI x3_)), (3, .int (vI x2_)), (0, .ref (ad 61)), (2, .int (vI x2))] dX1_countTurned_72 4 rfl (by decide) rfl ?_
            refine r_iinc h [(2, .int (vI (iw (x2 + 1)))), (1, .int (vI (iw (x1 + 1)))), (5, .int (vI x4_)), (4, .int (vI x3_)), (3, .int (vI x2_)), (0, .ref (ad 61))] dX1_countTurned_75 5 rfl (by decide) rfl ?_
            refine r_goto (tgt := 4) h dX1_countTurned_78 (by decide) ?_
            refine r_sub h [5, 1, 0] rfl ?_
            exact ih (iw (x1 + 1)) (iw (x2 + 1)) s12 (rI_iw _) (rI_iw _) hf
set_option maxRecDepth 20000 in
theorem m_Fi_countTurned {l : Launch} {D : va_G} {cs : Nat → ClassId} {aS aV : Nat} {A : Nat → Prop} {ad : Nat → Nat} {n : Nat} {nl : Nat → Nat → Bool} {out : Int × SS} (hw : w_WH n nl) (ht : 61 < n) {s0 : SS} (hs0 : rS s0) (hf : f_Fi_countTurned s0 = some out) : w_MC l D cs aS aV A yX1_countTurned cX1_countTurned 6 1 rm_Fi_countTurned ad n nl [.ref (ad 61)] s0 (w_Po ad n nl out) := by
  refine w_MC_of (by decide +kernel) (by decide) hs0 (Nat.le_of_ble_eq_true rfl) (fun K h hr => ?_)
  refine r_lv (lv' := [(0, .ref (ad 61))]) rfl ?_
  unfold f_Fi_countTurned at hf
  refine r_rS h (fun hs0 => ?_)
  refine r_iconst h dX1_countTurned_0 ?_
  refine r_istore_n h [(1, .int (vI 0)), (0, .ref (ad 61))] dX1_countTurned_1 rfl (by decide) rfl ?_
  refine r_iconst h dX1_countTurned_2 ?_
  refine r_istore_n h [(2, .int (vI 0)), (1, .int (vI 0)), (0, .ref (ad 61))] dX1_countTurned_3 rfl (by decide) rfl ?_
  refine r_sub h [2, 1, 0] rfl ?_
  exact b_Fi_countTurned_4 h hr hw ht FU 0 0 s0 (rIc rfl) (rIc rfl) hf
set_option maxRecDepth 20000 in
theorem b_Fi_layRow_33 {l : Launch} {D : va_G} {cs : Nat → ClassId} {aS aV : Nat} {A : Nat → Prop} {K : KT} {ad : Nat → Nat} {n : Nat} {nl : Nat → Nat → Bool} {out : Int × SS} (h : w_Cl l rm_Fi_layRow D cs aS aV A cX1_layRow 3 RX1 "layRow" K) (hr : w_Rt 0 cX1_layRow 0 0 (w_Po ad n nl out) K) (hw : w_WH n nl) (ht : 61 < n) {y1 : Int} (ry1 : rI y1) : ∀ (fu : Nat) (x2 : Int) (s0 : SS), rI x2 → l_Fi_layRow_33 y1 fu x2 s0 = some out → K ad n nl 0 0 33 [(0, .ref (ad 61)), (1, .int (vI y1)), (2, .int (vI x2))] [] s0 := by
  intro fu
  induction fu with
  | zero =>
    intro x2 s0 rx2 hf
    rw [l_Fi_layRow_33] at hf
    cases hf
  | succ fu ih =>
    intro x2 s0 rx2 hf
    rw [l_Fi_layRow_33] at hf
    refine r_rS h (fun hs0 => ?_)
    refine r_iload_n h dX1_layRow_33 rfl 2 rfl ?_
    refine r_iload_n h dX1_layRow_34 rfl 1 rfl ?_
    refine r_icmp_ge (tgt := 59) h dX1_layRow_35 (by decide) rx2 ry1 (fun hc1 => ?_) (fun hc1 => ?_)
    · have hf := ite_t hc1 hf
      exact r_ret0 (x := 0) hr dX1_layRow_59 hf
    · have hf := ite_f hc1 hf
      refine r_iload_n h dX1_layRow_38 rfl 2 rfl ?_
      refine r_iconst h dX1_layRow_39 ?_
      refine r_icmp_ge (tgt := 59) h dX1_layRow_40 (by decide) rx2 (rIc rfl) (fun hc2 => ?_) (fun hc2 => ?_)
      · have hf := ite_t hc2 hf
        exact r_ret0 (x := 0) hr dX1_layRow_59 hf
      · have hf := ite_f hc2 hf
        refine r_aload_n h dX1_layRow_43 rfl 0 rfl ?_
        refine r_aload_n h dX1_layRow_44 rfl 0 rfl ?_
        have hq3 := w_ref hw ht rC_61 (by decide) (k := 14) (by decide) rf_1_14
        refine g_X1_40 h dX1_layRow_45 ht rC_61 hq3.1 ?_
        refine r_iload_n h dX1_layRow_48 rfl 2 rfl ?_
        obtain ⟨hi4, hf⟩ := oc_some hf
        refine r_iald h dX1_layRow_49 hq3.2 rC_72 rx2 (N := 4) (by rw [rN_72]; rfl) (j := (x2).toNat) rfl hi4 ?_
        obtain ⟨r5, s5, hq5, hf⟩ := ob_some hf
        refine r_callV0 h [.int (vI (gi s0 72 ((x2).toNat)))] dX1_layRow_50 (fun hs => m_Fi_lay hw ht (hs0.1 _ _) hs hq5) ml_X1_82 cv_Fi_lay rfl (co := 1) rfl (by decide) ht rC_61 ⟨rfl, rfl⟩ ⟨Nat.le_of_ble_eq_true rfl, Nat.le_of_ble_eq_true rfl⟩ ⟨Nat.le_of_ble_eq_true rfl, Nat.le_of_ble_eq_true rfl⟩ (Nat.le_of_ble_eq_true rfl) rfl (fun hr5 hs5 => ?_)
        refine r_iinc h [(2, .int (vI (iw (x2 + 1)))), (0, .ref (ad 61)), (1, .int (vI y1))] dX1_layRow_53 2 rfl (by decide) rfl ?_
        refine r_goto (tgt := 33) h dX1_layRow_56 (by decide) ?_
        refine r_sub h [1, 2, 0] rfl ?_
        exact ih (iw (x2 + 1)) s5 (rI_iw _) hf
set_option maxRecDepth 20000 in
theorem b_Fi_layRow_27 {l : Launch} {D : va_G} {cs : Nat → ClassId} {aS aV : Nat} {A : Nat → Prop} {K : KT} {ad : Nat → Nat} {n : Nat} {nl : Nat → Nat → Bool} {out : Int × SS} (h : w_Cl l rm_Fi_layRow D cs aS aV A cX1_layRow 3 RX1 "layRow" K) (hr : w_Rt 0 cX1_layRow 0 0 (w_Po ad n nl out) K) (hw : w_WH n nl) (ht : 61 < n) (x1 : Int) (s0 : SS) (rx1 : rI x1) (hf : j_Fi_layRow_27 x1 s0 = some out) : K ad n nl 0 0 27 [(0, .ref (ad 61)), (1, .int (vI x1))] [] s0 := by
  unfold j_Fi_layRow_27 at hf
  refine r_rS h (fun hs0 => ?_)
  refine r_aload_n h dX1_layRow_27 rfl 0 rfl ?_
  obtain ⟨r1, s1, hq1, hf⟩ := ob_some hf
  refine r_callV0 h [] dX1_layRow_28 (fun hs => m_Fi_layNothing hw ht hs hq1) ml_X1_69 cv_Fi_layNothing rfl (co := 1) rfl (by decide) ht rC_61 ⟨rfl, rfl⟩ ⟨Nat.le_of_ble_eq_true rfl, Nat.le_of_ble_eq_true rfl⟩ ⟨Nat.le_of_ble_eq_true rfl, Nat.le_of_ble_eq_true rfl⟩ (Nat.le_of_ble_eq_true rfl) rfl (fun hr1 hs1 => ?_)
  refine r_iconst h dX1_layRow_31 ?_
  refine r_istore_n h [(2, .int (vI 0)), (0, .ref (ad 61)), (1, .int (vI x1))] dX1_layRow_32 rfl (by decide) rfl ?_
  refine r_sub h [1, 2, 0] rfl ?_
  exact b_Fi_layRow_33 h hr hw ht rx1 FU 0 s1 (rIc rfl) hf
set_option maxRecDepth 20000 in
theorem m_Fi_layRow {l : Launch} {D : va_G} {cs : Nat → ClassId} {aS aV : Nat} {A : Nat → Prop} {ad : Nat → Nat} {n : Nat} {nl : Nat → Nat → Bool} {out : Int × SS} (hw : w_WH n nl) (ht : 61 < n) {a1 : Int} (ra1 : rI a1) {s0 : SS} (hs0 : rS s0) (hf : f_Fi_layRow a1 s0 = some out) : w_MC l D cs aS aV A yX1_layRow cX1_layRow 3 0 rm_Fi_layRow ad n nl [.ref (ad 61), .int (vI a1)] s0 (w_Po ad n nl out) := by
  refine w_MC_of (by decide +kernel) (by decide) hs0 (Nat.le_of_ble_eq_true rfl) (fun K h hr => ?_)
  refine r_lv (lv' := [(0, .ref (ad 61)), (1, .int (vI a1))]) rfl ?_
  unfold f_Fi_layRow at hf
  refine r_rS h (fun hs0 => ?_)
  refine r_aload_n h dX1_layRow_0 rfl 0 rfl ?_
  refine r_dup h dX1_layRow_1 rfl ?_
  refine g_X1_199 h dX1_layRow_2 ht rC_61 ?_
  refine r_iconst h dX1_layRow_5 ?_
  refine r_iadd h dX1_layRow_6 ?_
  refine p_X1_199 h dX1_layRow_7 ht rC_61 (rI_iw _) ?_
  refine r_os hf (fun s1 hf => ?_)
  refine r_rS h (fun hs1 => ?_)
  refine r_aload_n h dX1_layRow_10 rfl 0 rfl ?_
  refine g_X1_199 h dX1_layRow_11 ht rC_61 ?_
  refine r_iconst h dX1_layRow_14 ?_
  refine r_icmp_le (tgt := 27) h dX1_layRow_15 (by decide) (hs1.1 _ _) (rIc rfl) (fun hc2 => ?_) (fun hc2 => ?_)
  · have hf := ite_t hc2 hf
    exact b_Fi_layRow_27 h hr hw ht a1 s1 ra1 hf
  · have hf := ite_f hc2 hf
    refine r_iload_n h dX1_layRow_18 rfl 1 rfl ?_
    refine r_aload_n h dX1_layRow_19 rfl 0 rfl ?_
    refine g_X1_65 h dX1_layRow_20 ht rC_61 ?_
    refine r_icmp_lt (tgt := 27) h dX1_layRow_23 (by decide) ra1 (hs1.1 _ _) (fun hc3 => ?_) (fun hc3 => ?_)
    · have hf := ite_t hc3 hf
      exact b_Fi_layRow_27 h hr hw ht a1 s1 ra1 hf
    · have hf := ite_f hc3 hf
      exact r_ret0 (x := 0) hr dX1_layRow_26 hf
set_option maxRecDepth 20000 in
theorem b_Fi_goesOn_106 {l : Launch} {D : va_G} {cs : Nat → ClassId} {aS aV : Nat} {A : Nat → Prop} {K : KT} {ad : Nat → Nat} {n : Nat} {nl : Nat → Nat → Bool} {out : Int × SS} (h : w_Cl l rm_Fi_goesOn D cs aS aV A cX1_goesOn 6 RX1 "goesOn" K) (hr : w_Rt 2 cX1_goesOn 0 0 (w_Po ad n nl out) K) (hw : w_WH n nl) (ht : 61 < n) (x1 : Int) (x2 : Int) (x3 : Int) (x5 : Int) (s0 : SS) (rx1 : rI x1) (rx2 : rI x2) (rx3 : rI x3) (rx5 : rI x5) (hf : j_Fi_goesOn_106 x1 x2 x3 x5 s0 = some out) : K ad n nl 0 0 106 [(0, .ref (ad 61)), (1, .int (vI x1)), (2, .int (vI x2)), (3, .int (vI x3)), (4, .ref (ad 76)), (5, .int (vI x5))] [] s0 := by
  unfold j_Fi_goesOn_106 at hf
  have q76_0 := w_ref hw ht rC_61 (by decide) (k := 2) (by decide) rf_1_2
  have q76_1 := w_ref hw q76_0.2 rC_75 (by decide) (k := 1) (by decide) (rf_8_1 _ rC_75).1
  refine r_rS h (fun hs0 => ?_)
  refine r_aload h dX1_goesOn_106 4 rfl ?_
  obtain ⟨r1, s1, hq1, hf⟩ := ob_some hf
  refine r_callV2 h [] dX1_goesOn_108 (fun hs => m_Ta_isOver hw q76_1.2 rC_76 hs hq1) ml_X1_215 cv_Ta_isOver rfl (co := 9) rfl (by decide) q76_1.2 rC_76 ⟨rfl, rfl⟩ ⟨Nat.le_of_ble_eq_true rfl, Nat.le_of_ble_eq_true rfl⟩ ⟨Nat.le_of_ble_eq_true rfl, Nat.le_of_ble_eq_true rfl⟩ (Nat.le_of_ble_eq_true rfl) rfl (fun hr1 hs1 => ?_)
  refine r_if_eq (tgt := 145) h dX1_goesOn_111 (by decide) (rI_b hr1) (fun hc2 => ?_) (fun hc2 => ?_)
  · have hf := ite_t hc2 hf
    refine r_iload_n h dX1_goesOn_145 rfl 1 rfl ?_
    refine r_iconst h dX1_goesOn_146 ?_
    refine r_iadd h dX1_goesOn_147 ?_
    refine r_aload_n h dX1_goesOn_148 rfl 0 rfl ?_
    refine g_X1_196 h dX1_goesOn_149 ht rC_61 ?_
    refine r_icmp_ge (tgt := 162) h dX1_goesOn_152 (by decide) (rI_iw _) (hs1.1 _ _) (fun hc3 => ?_) (fun hc3 => ?_)
    · have hf := ite_t hc3 hf
      refine r_iconst h dX1_goesOn_162 ?_
      exact r_ret2 hr dX1_goesOn_163 (Or.inl rfl) hf
    · have hf := ite_f hc3 hf
      refine r_iload_n h dX1_goesOn_155 rfl 1 rfl ?_
      refine r_iconst h dX1_goesOn_156 ?_
      refine r_iadd h dX1_goesOn_157 ?_
      refine r_iconst h dX1_goesOn_158 ?_
      refine r_icmp_lt (tgt := 164) h dX1_goesOn_159 (by decide) (rI_iw _) (rIc rfl) (fun hc4 => ?_) (fun hc4 => ?_)
      · have hf := ite_t hc4 hf
        refine r_aload_n h dX1_goesOn_164 rfl 0 rfl ?_
        have hq5 := w_ref hw ht rC_61 (by decide) (k := 15) (by decide) rf_1_15
        refine g_X1_43 h dX1_goesOn_165 ht rC_61 hq5.1 ?_
        refine r_iload_n h dX1_goesOn_168 rfl 1 rfl ?_
        refine r_iconst h dX1_goesOn_169 ?_
        refine r_iadd h dX1_goesOn_170 ?_
        refine r_iload_n h dX1_goesOn_171 rfl 3 rfl ?_
        obtain ⟨hi6, hf⟩ := oc_some hf
        refine r_iast h dX1_goesOn_172 hq5.2 rC_73 (rI_iw _) (N := 4) (by rw [rN_73]; rfl) (j := (iw (x1 + 1)).toNat) rfl hi6 rx3 ?_
        refine r_os hf (fun s7 hf => ?_)
        refine r_rS h (fun hs7 => ?_)
        refine r_aload_n h dX1_goesOn_173 rfl 0 rfl ?_
        have hq8 := w_ref hw ht rC_61 (by decide) (k := 14) (by decide) rf_1_14
        refine g_X1_40 h dX1_goesOn_174 ht rC_61 hq8.1 ?_
        refine r_iload_n h dX1_goesOn_177 rfl 1 rfl ?_
        refine r_iconst h dX1_goesOn_178 ?_
        refine r_iadd h dX1_goesOn_179 ?_
        refine r_iconst h dX1_goesOn_180 ?_
        obtain ⟨hi9, hf⟩ := oc_some hf
        refine r_iast h dX1_goesOn_181 hq8.2 rC_72 (rI_iw _) (N := 4) (by rw [rN_72]; rfl) (j := (iw (x1 + 1)).toNat) rfl hi9 (rIc rfl) ?_
        refine r_os hf (fun s10 hf => ?_)
        refine r_rS h (fun hs10 => ?_)
        refine r_aload h dX1_goesOn_182 4 rfl ?_
        refine r_aload_n h dX1_goesOn_184 rfl 0 rfl ?_
        have hq11 := w_ref hw ht rC_61 (by decide) (k := 16) (by decide) rf_1_16
        refine g_X1_46 h dX1_goesOn_185 ht rC_61 hq11.1 ?_
        refine r_iload_n h dX1_goesOn_188 rfl 1 rfl ?_
        refine r_iconst h dX1_goesOn_189 ?_
        refine r_iadd h dX1_goesOn_190 ?_
        refine r_bipush h dX1_goesOn_191 (by decide) ?_
        refine r_imul h dX1_goesOn_193 ?_
        obtain ⟨r12, s12, hq12, hf⟩ := ob_some hf
        refine r_callV0 h [.ref (ad 74), .int (vI (iw ((iw (x1 + 1)) * 24)))] dX1_goesOn_194 (fun hs => m_Ta_put hw q76_1.2 rC_76 hq11.2 rC_74 (rI_iw _) hs hq12) ml_X1_202 cv_Ta_put rfl (co := 9) rfl (by decide) q76_1.2 rC_76 ⟨rfl, rfl⟩ ⟨Nat.le_of_ble_eq_true rfl, Nat.le_of_ble_eq_true rfl⟩ ⟨Nat.le_of_ble_eq_true rfl, Nat.le_of_ble_eq_true rfl⟩ (Nat.le_of_ble_eq_true rfl) rfl (fun hr12 hs12 => ?_)
        refine r_iconst h dX1_goesOn_197 ?_
        exact r_ret2 hr dX1_goesOn_198 (Or.inr rfl) hf
      · have hf := ite_f hc4 hf
        refine r_iconst h dX1_goesOn_162 ?_
        exact r_ret2 hr dX1_goesOn_163 (Or.inl rfl) hf
  · have hf := ite_f hc2 hf
    refine r_iload h dX1_goesOn_114 5 rfl ?_
    refine r_aload_n h dX1_goesOn_116 rfl 0 rfl ?_
    have hq13 := w_ref hw ht rC_61 (by decide) (k := 0) (by decide) rf_1_0
    refine g_X1_49 h dX1_goesOn_117 ht rC_61 hq13.1 ?_
    have hq14c := rf_4_7 _ rC_2
    have hq14 := w_ref hw hq13.2 rC_2 (by decide) (k := 7) (by decide) hq14c.1
    refine g_X1_118 h dX1_goesOn_120 hq13.2 rC_2 hq14.1 ?_
    refine r_st (st0 := [.ref (ad 8), .int (vI x5)]) rfl ?_
    refine r_iload_n h dX1_goesOn_123 rfl 2 rfl ?_
    obtain ⟨hi15, hf⟩ := oc_some hf
    refine r_iald h dX1_goesOn_124 hq14.2 rC_8 rx2 (N := 14) (by rw [rN_8]; rfl) (j := (x2).toNat) rfl hi15 ?_
    refine r_icmp_ne (tgt := 143) h dX1_goesOn_125 (by decide) rx5 (hs1.1 _ _) (fun hc16 => ?_) (fun hc16 => ?_)
    · have hf := ite_f hc16 hf
      refine r_iconst h dX1_goesOn_143 ?_
      exact r_ret2 hr dX1_goesOn_144 (Or.inl rfl) hf
    · have hf := ite_nf hc16 hf
      refine r_iload_n h dX1_goesOn_128 rfl 3 rfl ?_
      refine r_aload_n h dX1_goesOn_129 rfl 0 rfl ?_
      refine g_X1_193 h dX1_goesOn_130 ht rC_61 ?_
      refine r_icmp_ne (tgt := 143) h dX1_goesOn_133 (by decide) rx3 (hs1.1 _ _) (fun hc17 => ?_) (fun hc17 => ?_)
      · have hf := ite_f hc17 hf
        refine r_iconst h dX1_goesOn_143 ?_
        exact r_ret2 hr dX1_goesOn_144 (Or.inl rfl) hf
      · have hf := ite_nf hc17 hf
        refine r_aload_n h dX1_goesOn_136 rfl 0 rfl ?_
        refine r_iload_n h dX1_goesOn_137 rfl 1 rfl ?_
        refine r_iconst h dX1_goesOn_138 ?_
        refine r_iadd h dX1_goesOn_139 ?_
        obtain ⟨r18, s18, hq18, hf⟩ := ob_some hf
        refine r_callV0 h [.int (vI (iw (x1 + 1)))] dX1_goesOn_140 (fun hs => m_Fi_layRow hw ht (rI_iw _) hs hq18) ml_X1_222 cv_Fi_layRow rfl (co := 1) rfl (by decide) ht rC_61 ⟨rfl, rfl⟩ ⟨Nat.le_of_ble_eq_true rfl, Nat.le_of_ble_eq_true rfl⟩ ⟨Nat.le_of_ble_eq_true rfl, Nat.le_of_ble_eq_true rfl⟩ (Nat.le_of_ble_eq_true rfl) rfl (fun hr18 hs18 => ?_)
        refine r_iconst h dX1_goesOn_143 ?_
        exact r_ret2 hr dX1_goesOn_144 (Or.inl rfl) hf
set_option maxRecDepth 20000 in
theorem b_Fi_goesOn_65 {l : Launch} {D : va_G} {cs : Nat → ClassId} {aS aV : Nat} {A : Nat → Prop} {K : KT} {ad : Nat → Nat} {n : Nat} {nl : Nat → Nat → Bool} {out : Int × SS} (h : w_Cl l rm_Fi_goesOn D cs aS aV A cX1_goesOn 6 RX1 "goesOn" K) (hr : w_Rt 2 cX1_goesOn 0 0 (w_Po ad n nl out) K) (hw : w_WH n nl) (ht : 61 < n) {y1 : Int} (ry1 : rI y1) {y2 : Int} (ry2 : rI y2) {y3 : Int} (ry3 : rI y3) : ∀ (fu : Nat) (x5 : Int) (s0 : SS), rI x5 → l_Fi_goesOn_65 y1 y2 y3 fu x5 s0 = some out → K ad n nl 0 0 65 [(0, .ref (ad 61)), (1, .int (vI y1)), (2, .int (vI y2)), (3, .int (vI y3)), (4, .ref (ad 76)), (5, .int (vI x5))] [] s0 := by
  intro fu
  induction fu with
  | zero =>
    intro x5 s0 rx5 hf
    rw [l_Fi_goesOn_65] at hf
    cases hf
  | succ fu ih =>
    intro x5 s0 rx5 hf
    rw [l_Fi_goesOn_65] at hf
    have q76_0 := w_ref hw ht rC_61 (by decide) (k := 2) (by decide) rf_1_2
    have q76_1 := w_ref hw q76_0.2 rC_75 (by decide) (k := 1) (by decide) (rf_8_1 _ rC_75).1
    refine r_rS h (fun hs0 => ?_)
    refine r_iload h dX1_goesOn_65 5 rfl ?_
    refine r_aload_n h dX1_goesOn_67 rfl 0 rfl ?_
    have hq1 := w_ref hw ht rC_61 (by decide) (k := 0) (by decide) rf_1_0
    refine g_X1_49 h dX1_goesOn_68 ht rC_61 hq1.1 ?_
    have hq2c := rf_4_7 _ rC_2
    have hq2 := w_ref hw hq1.2 rC_2 (by decide) (k := 7) (by decide) hq2c.1
    refine g_X1_118 h dX1_goesOn_71 hq1.2 rC_2 hq2.1 ?_
    refine r_st (st0 := [.ref (ad 8), .int (vI x5)]) rfl ?_
    refine r_iload_n h dX1_goesOn_74 rfl 2 rfl ?_
    obtain ⟨hi3, hf⟩ := oc_some hf
    refine r_iald h dX1_goesOn_75 hq2.2 rC_8 ry2 (N := 14) (by rw [rN_8]; rfl) (j := (y2).toNat) rfl hi3 ?_
    refine r_icmp_ge (tgt := 106) h dX1_goesOn_76 (by decide) rx5 (hs0.1 _ _) (fun hc4 => ?_) (fun hc4 => ?_)
    · have hf := ite_t hc4 hf
      exact b_Fi_goesOn_106 h hr hw ht y1 y2 y3 x5 s0 ry1 ry2 ry3 rx5 hf
    · have hf := ite_f hc4 hf
      refine r_aload h dX1_goesOn_79 4 rfl ?_
      obtain ⟨r5, s5, hq5, hf⟩ := ob_some hf
      refine r_callV2 h [] dX1_goesOn_81 (fun hs => m_Ta_isOver hw q76_1.2 rC_76 hs hq5) ml_X1_215 cv_Ta_isOver rfl (co := 9) rfl (by decide) q76_1.2 rC_76 ⟨rfl, rfl⟩ ⟨Nat.le_of_ble_eq_true rfl, Nat.le_of_ble_eq_true rfl⟩ ⟨Nat.le_of_ble_eq_true rfl, Nat.le_of_ble_eq_true rfl⟩ (Nat.le_of_ble_eq_true rfl) rfl (fun hr5 hs5 => ?_)
      refine r_if_ne (tgt := 106) h dX1_goesOn_84 (by decide) (rI_b hr5) (fun hc6 => ?_) (fun hc6 => ?_)
      · have hf := ite_f hc6 hf
        exact b_Fi_goesOn_106 h hr hw ht y1 y2 y3 x5 s5 ry1 ry2 ry3 rx5 hf
      · have hf := ite_nf hc6 hf
        refine r_iinc h [(5, .int (vI (iw (x5 + 1)))), (0, .ref (ad 61)), (1, .int (vI y1)), (2, .int (vI y2)), (3, .int (vI y3)), (4, .ref (ad 76))] dX1_goesOn_87 5 rfl (by decide) rfl ?_
        refine r_aload h dX1_goesOn_90 5 rfl ?_
        refine r_aload_n h dX1_goesOn_92 rfl 1 rfl ?_
        have hq7 := w_ref hw ht rC_61 (by decide) (k := 1) (by decide) rf_1_1
        refine g_X1_53 h dX1_goesOn_93 ht rC_61 hq7.1 ?_
        refine r_iload_n h dX1_goesOn_96 rfl 3 rfl ?_
        refine r_iload h dX1_goesOn_97 0 rfl ?_
        refine r_iload_n h dX1_goesOn_99 rfl 4 rfl ?_
        obtain ⟨r8, s8, hq8, hf⟩ := ob_some hf
        refine r_callV0 h [.ref (ad 47), .int (vI y2), .int (vI (iw (x5 + 1))), .int (vI y3)] dX1_goesOn_100 (fun hs => m_Ta_sayOnWay hw q76_1.2 rC_76 hq7.2 rC_47 ry2 (rI_iw _) ry3 hs hq8) ml_X1_218 cv_Ta_sayOnWay rfl (co := 9) rfl (by decide) q76_1.2 rC_76 ⟨rfl, rfl⟩ ⟨Nat.le_of_ble_eq_true rfl, Nat.le_of_ble_eq_true rfl⟩ ⟨Nat.le_of_ble_eq_true rfl, Nat.le_of_ble_eq_true rfl⟩ (Nat.le_of_ble_eq_true rfl) rfl (fun hr8 hs8 => ?_)
        refine r_goto (tgt := 65) h dX1_goesOn_103 (by decide) ?_
        refine r_sub h [1, 2, 3, 4, 5, 0] rfl ?_
        exact ih (iw (x5 + 1)) s8 (rI_iw _) hf
set_option maxRecDepth 20000 in
theorem m_Fi_goesOn {l : Launch} {D : va_G} {cs : Nat → ClassId} {aS aV : Nat} {A : Nat → Prop} {ad : Nat → Nat} {n : Nat} {nl : Nat → Nat → Bool} {out : Int × SS} (hw : w_WH n nl) (ht : 61 < n) {a1 : Int} (ra1 : rI a1) {s0 : SS} (hs0 : rS s0) (hf : f_Fi_goesOn a1 s0 = some out) : w_MC l D cs aS aV A yX1_goesOn cX1_goesOn 6 2 rm_Fi_goesOn ad n nl [.ref (ad 61), .int (vI a1)] s0 (w_Po ad n nl out) := by
  refine w_MC_of (by decide +kernel) (by decide) hs0 (Nat.le_of_ble_eq_true rfl) (fun K h hr => ?_)
  refine r_lv (lv' := [(0, .ref (ad 61)), (1, .int (vI a1))]) rfl ?_
  unfold f_Fi_goesOn at hf
  refine r_rS h (fun hs0 => ?_)
  refine r_iload_n h dX1_goesOn_0 rfl 1 rfl ?_
  refine r_if_lt (tgt := 9) h dX1_goesOn_1 (by decide) ra1 (fun hc1 => ?_) (fun hc1 => ?_)
  · have hf := ite_t hc1 hf
    refine r_iconst h dX1_goesOn_9 ?_
    exact r_ret2 hr dX1_goesOn_10 (Or.inl rfl) hf
  · have hf := ite_f hc1 hf
    refine r_iload_n h dX1_goesOn_4 rfl 1 rfl ?_
    refine r_iconst h dX1_goesOn_5 ?_
    refine r_icmp_lt (tgt := 11) h dX1_goesOn_6 (by decide) ra1 (rIc rfl) (fun hc2 => ?_) (fun hc2 => ?_)
    · have hf := ite_t hc2 hf
      refine r_aload_n h dX1_goesOn_11 rfl 0 rfl ?_
      have hq3 := w_ref hw ht rC_61 (by decide) (k := 14) (by decide) rf_1_14
      refine g_X1_40 h dX1_goesOn_12 ht rC_61 hq3.1 ?_
      refine r_iload_n h dX1_goesOn_15 rfl 1 rfl ?_
      obtain ⟨hi4, hf⟩ := oc_some hf
      refine r_iald h dX1_goesOn_16 hq3.2 rC_72 ra1 (N := 4) (by rw [rN_72]; rfl) (j := (a1).toNat) rfl hi4 ?_
      refine r_ol hf (hs0.1 _ _) (fun x5_ rx5_ hf => ?_)
      refine r_istore_n h [(2, .int (vI x5_)), (0, .ref (ad 61)), (1, .int (vI a1))] dX1_goesOn_17 rfl (by decide) rfl ?_
      refine r_aload_n h dX1_goesOn_18 rfl 1 rfl ?_
      have hq6 := w_ref hw ht rC_61 (by decide) (k := 0) (by decide) rf_1_0
      refine g_X1_49 h dX1_goesOn_19 ht rC_61 hq6.1 ?_
      refine r_iload_n h dX1_goesOn_22 rfl 0 rfl ?_
      refine r_aload_n h dX1_goesOn_23 rfl 1 rfl ?_
      have hq7 := w_ref hw ht rC_61 (by decide) (k := 15) (by decide) rf_1_15
      refine g_X1_43 h dX1_goesOn_24 ht rC_61 hq7.1 ?_
      refine r_iload_n h dX1_goesOn_27 rfl 2 rfl ?_
      obtain ⟨hi8, hf⟩ := oc_some hf
      refine r_iald h dX1_goesOn_28 hq7.2 rC_73 ra1 (N := 4) (by rw [rN_73]; rfl) (j := (a1).toNat) rfl hi8 ?_
      obtain ⟨r9, s9, hq9, hf⟩ := ob_some hf
      refine r_callV1 h [.int (vI x5_), .int (vI (gi s0 73 ((a1).toNat)))] dX1_goesOn_29 (fun hs => m_La_otherEnd hw hq6.2 rC_2 rx5_ (hs0.1 _ _) hs hq9) ml_X1_126 cv_La_otherEnd rfl (co := 4) rfl (by decide) hq6.2 rC_2 ⟨rfl, rfl⟩ ⟨Nat.le_of_ble_eq_true rfl, Nat.le_of_ble_eq_true rfl⟩ ⟨Nat.le_of_ble_eq_true rfl, Nat.le_of_ble_eq_true rfl⟩ (Nat.le_of_ble_eq_true rfl) rfl (fun hr9 hs9 => ?_)
      refine r_istore_n h [(3, .int (vI r9)), (2, .int (vI x5_)), (0, .ref (ad 61)), (1, .int (vI a1))] dX1_goesOn_32 rfl (by decide) rfl ?_
      refine r_iload_n h dX1_goesOn_33 rfl 0 rfl ?_
      refine r_iconst h dX1_goesOn_34 ?_
      refine r_icmp_ne (tgt := 40) h dX1_goesOn_35 (by decide) hr9 (rIc rfl) (fun hc10 => ?_) (fun hc10 => ?_)
      · have hf := ite_f hc10 hf
        refine r_aload_n h dX1_goesOn_40 rfl 2 rfl ?_
        have hq11 := w_ref hw ht rC_61 (by decide) (k := 2) (by decide) rf_1_2
        refine g_X1_61 h dX1_goesOn_41 ht rC_61 hq11.1 ?_
        have hq12c := rf_8_1 _ rC_75
        have hq12 := w_ref hw hq11.2 rC_75 (by decide) (k := 1) (by decide) hq12c.1
        refine g_X1_149 h dX1_goesOn_44 hq11.2 rC_75 hq12.1 ?_
        refine r_st (st0 := [.ref (ad 76)]) rfl ?_
        refine r_astore h [(4, .ref (ad 76)), (3, .int (vI r9)), (2, .int (vI x5_)), (0, .ref (ad 61)), (1, .int (vI a1))] dX1_goesOn_47 (by decide) rfl ?_
        refine r_aload h dX1_goesOn_49 0 rfl ?_
        refine r_aload_n h dX1_goesOn_51 rfl 3 rfl ?_
        have hq13 := w_ref hw ht rC_61 (by decide) (k := 16) (by decide) rf_1_16
        refine g_X1_46 h dX1_goesOn_52 ht rC_61 hq13.1 ?_
        refine r_iload_n h dX1_goesOn_55 rfl 4 rfl ?_
        refine r_bipush h dX1_goesOn_56 (by decide) ?_
        refine r_imul h dX1_goesOn_58 ?_
        obtain ⟨r14, s14, hq14, hf⟩ := ob_some hf
        refine r_callV0 h [.ref (ad 74), .int (vI (iw (a1 * 24)))] dX1_goesOn_59 (fun hs => m_Ta_bring hw hq12.2 rC_76 hq13.2 rC_74 (rI_iw _) hs hq14) ml_X1_212 cv_Ta_bring rfl (co := 9) rfl (by decide) hq12.2 rC_76 ⟨rfl, rfl⟩ ⟨Nat.le_of_ble_eq_true rfl, Nat.le_of_ble_eq_true rfl⟩ ⟨Nat.le_of_ble_eq_true rfl, Nat.le_of_ble_eq_true rfl⟩ (Nat.le_of_ble_eq_true rfl) rfl (fun hr14 hs14 => ?_)
        refine r_iconst h dX1_goesOn_62 ?_
        refine r_istore h [(5, .int (vI 0)), (4, .ref (ad 76)), (3, .int (vI r9)), (2, .int (vI x5_)), (0, .ref (ad 61)), (1, .int (vI a1))] dX1_goesOn_63 (by decide) rfl ?_
        refine r_sub h [4, 5, 3, 2, 1, 0] rfl ?_
        exact b_Fi_goesOn_65 h hr hw ht ra1 rx5_ hr9 FU 0 s14 (rIc rfl) hf
      · have hf := ite_nf hc10 hf
        refine r_iconst h dX1_goesOn_38 ?_
        exact r_ret2 hr dX1_goesOn_39 (Or.inl rfl) hf
    · have hf := ite_f hc2 hf
      refine r_iconst h dX1_goesOn_9 ?_
      exact r_ret2 hr dX1_goesOn_10 (Or.inl rfl) hf
set_option maxRecDepth 20000 in
theorem b_Fi_searchHome_18 {l : Launch} {D : va_G} {cs : Nat → ClassId} {aS aV : Nat} {A : Nat → Prop} {K : KT} {ad : Nat → Nat} {n : Nat} {nl : Nat → Nat → Bool} {out : Int × SS} (h : w_Cl l rm_Fi_searchHome D cs aS aV A cX1_searchHome 4 RX1 "searchHome" K) (hr : w_Rt 0 cX1_searchHome 0 0 (w_Po ad n nl out) K) (hw : w_WH n nl) (ht : 61 < n) : ∀ (fu : Nat) (x2 : Int) (x3 : Int) (s0 : SS), rI x2 → rI x3 → l_Fi_searchHome_18 fu x2 x3 s0 = some out → K ad n nl 0 0 18 [(0, .ref (ad 61)), (2, .int (vI x2)), (3, .int (vI x3))] [] s0 := by
  intro fu
  induction fu with
  | zero =>
    intro x2 x3 s0 rx2 rx3 hf
    rw [l_Fi_searchHome_18] at hf
    cases hf
  | succ fu ih =>
    intro x2 x3 s0 rx2 rx3 hf
    rw [l_Fi_searchHome_18] at hf
    refine r_rS h (fun hs0 => ?_)
    refine r_iload_n h dX1_searchHome_18 rfl 2 rfl ?_
    refine r_ldc (x := 1000000) h dX1_searchHome_19 (gt_in5 39 rfl rfl) rfl ?_
    refine r_icmp_ge (tgt := 82) h dX1_searchHome_21 (by decide) rx3 (rIc rfl) (fun hc1 => ?_) (fun hc1 => ?_)
    · have hf := ite_t hc1 hf
      exact r_ret0 (x := 0) hr dX1_searchHome_82 hf
    · have hf := ite_f hc1 hf
      refine r_iload_n h dX1_searchHome_24 rfl 1 rfl ?_
      refine r_if_lt (tgt := 82) h dX1_searchHome_25 (by decide) rx2 (fun hc2 => ?_) (fun hc2 => ?_)
      · have hf := ite_t hc2 hf
        exact r_ret0 (x := 0) hr dX1_searchHome_82 hf
      · have hf := ite_f hc2 hf
        refine r_iload_n h dX1_searchHome_28 rfl 1 rfl ?_
        refine r_iconst h dX1_searchHome_29 ?_
        refine r_icmp_ge (tgt := 82) h dX1_searchHome_30 (by decide) rx2 (rIc rfl) (fun hc3 => ?_) (fun hc3 => ?_)
        · have hf := ite_t hc3 hf
          exact r_ret0 (x := 0) hr dX1_searchHome_82 hf
        · have hf := ite_f hc3 hf
          refine r_aload_n h dX1_searchHome_33 rfl 0 rfl ?_
          have hq4 := w_ref hw ht rC_61 (by decide) (k := 14) (by decide) rf_1_14
          refine g_X1_40 h dX1_searchHome_34 ht rC_61 hq4.1 ?_
          refine r_iload_n h dX1_searchHome_37 rfl 1 rfl ?_
          refine r_dup2a h dX1_searchHome_38 rfl rfl ?_
          obtain ⟨hi5, hf⟩ := oc_some hf
          refine r_iald h dX1_searchHome_39 hq4.2 rC_72 rx2 (N := 4) (by rw [rN_72]; rfl) (j := (x2).toNat) rfl hi5 ?_
          refine r_iconst h dX1_searchHome_40 ?_
          refine r_iadd h dX1_searchHome_41 ?_
          obtain ⟨hi6, hf⟩ := oc_some hf
          refine r_iast h dX1_searchHome_42 hq4.2 rC_72 rx2 (N := 4) (by rw [rN_72]; rfl) (j := (x2).toNat) rfl hi6 (rI_iw _) ?_
          refine r_os hf (fun s7 hf => ?_)
          refine r_rS h (fun hs7 => ?_)
          refine r_aload_n h dX1_searchHome_43 rfl 0 rfl ?_
          have hq8 := w_ref hw ht rC_61 (by decide) (k := 14) (by decide) rf_1_14
          refine g_X1_40 h dX1_searchHome_44 ht rC_61 hq8.1 ?_
          refine r_iload_n h dX1_searchHome_47 rfl 1 rfl ?_
          obtain ⟨hi9, hf⟩ := oc_some hf
          refine r_iald h dX1_searchHome_48 hq8.2 rC_72 rx2 (N := 4) (by rw [rN_72]; rfl) (j := (x2).toNat) rfl hi9 ?_
          refine r_aload_n h dX1_searchHome_49 rfl 0 rfl ?_
          have hq10 := w_ref hw ht rC_61 (by decide) (k := 0) (by decide) rf_1_0
          refine g_X1_49 h dX1_searchHome_50 ht rC_61 hq10.1 ?_
          refine g_X1_110 h dX1_searchHome_53 hq10.2 rC_2 ?_
          refine r_icmp_lt (tgt := 65) h dX1_searchHome_56 (by decide) (hs7.1 _ _) (hs7.1 _ _) (fun hc11 => ?_) (fun hc11 => ?_)
          · have hf := ite_t hc11 hf
            refine r_aload_n h dX1_searchHome_65 rfl 0 rfl ?_
            refine r_iload_n h dX1_searchHome_66 rfl 1 rfl ?_
            obtain ⟨r12, s12, hq12, hf⟩ := ob_some hf
            refine r_callV2 h [.int (vI x2)] dX1_searchHome_67 (fun hs => m_Fi_goesOn hw ht rx2 hs hq12) ml_X1_209 cv_Fi_goesOn rfl (co := 1) rfl (by decide) ht rC_61 ⟨rfl, rfl⟩ ⟨Nat.le_of_ble_eq_true rfl, Nat.le_of_ble_eq_true rfl⟩ ⟨Nat.le_of_ble_eq_true rfl, Nat.le_of_ble_eq_true rfl⟩ (Nat.le_of_ble_eq_true rfl) rfl (fun hr12 hs12 => ?_)
            refine r_if_eq (tgt := 76) h dX1_searchHome_70 (by decide) (rI_b hr12) (fun hc13 => ?_) (fun hc13 => ?_)
            · have hf := ite_t hc13 hf
              refine r_iinc h [(3, .int (vI (iw (x3 + 1)))), (0, .ref (ad 61)), (2, .int (vI x2))] dX1_searchHome_76 2 rfl (by decide) rfl ?_
              refine r_goto (tgt := 18) h dX1_searchHome_79 (by decide) ?_
              refine r_sub h [1, 2, 0] rfl ?_
              exact ih x2 (iw (x3 + 1)) s12 rx2 (rI_iw _) hf
            · have hf := ite_f hc13 hf
              refine r_iinc h [(2, .int (vI (iw (x2 + 1)))), (0, .ref (ad 61)), (3, .int (vI x3))] dX1_searchHome_73 1 rfl (by decide) rfl ?_
              refine r_iinc h [(3, .int (vI (iw (x3 + 1)))), (2, .int (vI (iw (x2 + 1)))), (0, .ref (ad 61))] dX1_searchHome_76 2 rfl (by decide) rfl ?_
              refine r_goto (tgt := 18) h dX1_searchHome_79 (by decide) ?_
              refine r_sub h [2, 1, 0] rfl ?_
              exact ih (iw (x2 + 1)) (iw (x3 + 1)) s12 (rI_iw _) (rI_iw _) hf
          · have hf := ite_f hc11 hf
            refine r_iinc h [(2, .int (vI (iw (x2 + (-1))))), (0, .ref (ad 61)), (3, .int (vI x3))] dX1_searchHome_59 1 rfl (by decide) rfl ?_
            refine r_goto (tgt := 76) h dX1_searchHome_62 (by decide) ?_
            refine r_iinc h [(3, .int (vI (iw (x3 + 1)))), (2, .int (vI (iw (x2 + (-1))))), (0, .ref (ad 61))] dX1_searchHome_76 2 rfl (by decide) rfl ?_
            refine r_goto (tgt := 18) h dX1_searchHome_79 (by decide) ?_
            refine r_sub h [2, 1, 0] rfl ?_
            exact ih (iw (x2 + (-1))) (iw (x3 + 1)) s7 (rI_iw _) (rI_iw _) hf
set_option maxRecDepth 20000 in
theorem m_Fi_searchHome {l : Launch} {D : va_G} {cs : Nat → ClassId} {aS aV : Nat} {A : Nat → Prop} {ad : Nat → Nat} {n : Nat} {nl : Nat → Nat → Bool} {out : Int × SS} (hw : w_WH n nl) (ht : 61 < n) {a1 : Int} (ra1 : rI a1) {s0 : SS} (hs0 : rS s0) (hf : f_Fi_searchHome a1 s0 = some out) : w_MC l D cs aS aV A yX1_searchHome cX1_searchHome 4 0 rm_Fi_searchHome ad n nl [.ref (ad 61), .int (vI a1)] s0 (w_Po ad n nl out) := by
  refine w_MC_of (by decide +kernel) (by decide) hs0 (Nat.le_of_ble_eq_true rfl) (fun K h hr => ?_)
  refine r_lv (lv' := [(0, .ref (ad 61)), (1, .int (vI a1))]) rfl ?_
  unfold f_Fi_searchHome at hf
  refine r_rS h (fun hs0 => ?_)
  refine r_iconst h dX1_searchHome_0 ?_
  refine r_istore_n h [(2, .int (vI 0)), (0, .ref (ad 61)), (1, .int (vI a1))] dX1_searchHome_1 rfl (by decide) rfl ?_
  refine r_aload_n h dX1_searchHome_2 rfl 1 rfl ?_
  have hq1 := w_ref hw ht rC_61 (by decide) (k := 15) (by decide) rf_1_15
  refine g_X1_43 h dX1_searchHome_3 ht rC_61 hq1.1 ?_
  refine r_iconst h dX1_searchHome_6 ?_
  refine r_iload_n h dX1_searchHome_7 rfl 2 rfl ?_
  refine r_iast h dX1_searchHome_8 hq1.2 rC_73 (rIc rfl) (N := 4) (by rw [rN_73]; rfl) (j := 0) rfl (by decide) ra1 ?_
  refine r_os hf (fun s2 hf => ?_)
  refine r_rS h (fun hs2 => ?_)
  refine r_aload_n h dX1_searchHome_9 rfl 1 rfl ?_
  have hq3 := w_ref hw ht rC_61 (by decide) (k := 14) (by decide) rf_1_14
  refine g_X1_40 h dX1_searchHome_10 ht rC_61 hq3.1 ?_
  refine r_iconst h dX1_searchHome_13 ?_
  refine r_iconst h dX1_searchHome_14 ?_
  refine r_iast h dX1_searchHome_15 hq3.2 rC_72 (rIc rfl) (N := 4) (by rw [rN_72]; rfl) (j := 0) rfl (by decide) (rIc rfl) ?_
  refine r_os hf (fun s4 hf => ?_)
  refine r_rS h (fun hs4 => ?_)
  refine r_iconst h dX1_searchHome_16 ?_
  refine r_istore_n h [(3, .int (vI 0)), (2, .int (vI 0)), (0, .ref (ad 61)), (1, .int (vI a1))] dX1_searchHome_17 rfl (by decide) rfl ?_
  refine r_sub h [2, 1, 0] rfl ?_
  exact b_Fi_searchHome_18 h hr hw ht FU 0 0 s4 (rIc rfl) (rIc rfl) hf
set_option maxRecDepth 20000 in
theorem b_Fi_layHome_36 {l : Launch} {D : va_G} {cs : Nat → ClassId} {aS aV : Nat} {A : Nat → Prop} {K : KT} {ad : Nat → Nat} {n : Nat} {nl : Nat → Nat → Bool} {out : Int × SS} (h : w_Cl l rm_Fi_layHome D cs aS aV A cX1_layHome 6 RX1 "layHome" K) (hr : w_Rt 1 cX1_layHome 0 0 (w_Po ad n nl out) K) (hw : w_WH n nl) (ht : 61 < n) (x1 : Int) (x2 : Int) (x3 : Int) (x4 : Int) (z0 : Int) (s0 : SS) (rx1 : rI x1) (rx2 : rI x2) (rx3 : rI x3) (rx4 : rI x4) (rz0 : rI z0) (hf : j_Fi_layHome_36 x1 x2 x3 x4 z0 s0 = some out) : K ad n nl 0 0 36 [(0, .ref (ad 61)), (1, .int (vI x1)), (2, .int (vI x2)), (3, .int (vI x3)), (4, .int (vI x4))] [.int (vI z0)] s0 := by
  unfold j_Fi_layHome_36 at hf
  refine r_rS h (fun hs0 => ?_)
  refine r_istore h [(5, .int (vI z0)), (0, .ref (ad 61)), (1, .int (vI x1)), (2, .int (vI x2)), (3, .int (vI x3)), (4, .int (vI x4))] dX1_layHome_36 (by decide) rfl ?_
  refine r_iload h dX1_layHome_38 0 rfl ?_
  refine r_if_eq (tgt := 55) h dX1_layHome_40 (by decide) rz0 (fun hc1 => ?_) (fun hc1 => ?_)
  · have hf := ite_t hc1 hf
    refine r_iconst h dX1_layHome_55 ?_
    exact r_ret1 hr dX1_layHome_56 (rIc rfl) hf
  · have hf := ite_f hc1 hf
    refine r_iload h dX1_layHome_43 5 rfl ?_
    refine r_iconst h dX1_layHome_45 ?_
    refine r_icmp_lt (tgt := 55) h dX1_layHome_46 (by decide) rx4 (rIc rfl) (fun hc2 => ?_) (fun hc2 => ?_)
    · have hf := ite_t hc2 hf
      refine r_iconst h dX1_layHome_55 ?_
      exact r_ret1 hr dX1_layHome_56 (rIc rfl) hf
    · have hf := ite_f hc2 hf
      refine r_iload h dX1_layHome_49 5 rfl ?_
      refine r_iconst h dX1_layHome_51 ?_
      refine r_icmp_le (tgt := 57) h dX1_layHome_52 (by decide) rx4 (rIc rfl) (fun hc3 => ?_) (fun hc3 => ?_)
      · have hf := ite_t hc3 hf
        refine r_aload_n h dX1_layHome_57 rfl 1 rfl ?_
        refine r_iload_n h dX1_layHome_58 rfl 4 rfl ?_
        refine p_X1_193 h dX1_layHome_59 ht rC_61 rx3 ?_
        refine r_os hf (fun s4 hf => ?_)
        refine r_rS h (fun hs4 => ?_)
        refine r_aload_n h dX1_layHome_62 rfl 1 rfl ?_
        refine r_iload h dX1_layHome_63 5 rfl ?_
        refine p_X1_196 h dX1_layHome_65 ht rC_61 rx4 ?_
        refine r_os hf (fun s5 hf => ?_)
        refine r_rS h (fun hs5 => ?_)
        refine r_aload_n h dX1_layHome_68 rfl 1 rfl ?_
        refine r_iconst h dX1_layHome_69 ?_
        refine p_X1_199 h dX1_layHome_70 ht rC_61 (rIc rfl) ?_
        refine r_os hf (fun s6 hf => ?_)
        refine r_rS h (fun hs6 => ?_)
        refine r_aload_n h dX1_layHome_73 rfl 1 rfl ?_
        have hq7 := w_ref hw ht rC_61 (by decide) (k := 2) (by decide) rf_1_2
        refine g_X1_61 h dX1_layHome_74 ht rC_61 hq7.1 ?_
        have hq8c := rf_8_1 _ rC_75
        have hq8 := w_ref hw hq7.2 rC_75 (by decide) (k := 1) (by decide) hq8c.1
        refine g_X1_149 h dX1_layHome_77 hq7.2 rC_75 hq8.1 ?_
        refine r_st (st0 := [.ref (ad 76)]) rfl ?_
        refine r_iload_n h dX1_layHome_80 rfl 2 rfl ?_
        obtain ⟨r9, s9, hq9, hf⟩ := ob_some hf
        refine r_callV0 h [.int (vI x1)] dX1_layHome_81 (fun hs => m_Ta_begin hw hq8.2 rC_76 rx1 hs hq9) ml_X1_153 cv_Ta_begin rfl (co := 9) rfl (by decide) hq8.2 rC_76 ⟨rfl, rfl⟩ ⟨Nat.le_of_ble_eq_true rfl, Nat.le_of_ble_eq_true rfl⟩ ⟨Nat.le_of_ble_eq_true rfl, Nat.le_of_ble_eq_true rfl⟩ (Nat.le_of_ble_eq_true rfl) rfl (fun hr9 hs9 => ?_)
        refine r_aload_n h dX1_layHome_84 rfl 1 rfl ?_
        have hq10 := w_ref hw ht rC_61 (by decide) (k := 2) (by decide) rf_1_2
        refine g_X1_61 h dX1_layHome_85 ht rC_61 hq10.1 ?_
        have hq11c := rf_8_1 _ rC_75
        have hq11 := w_ref hw hq10.2 rC_75 (by decide) (k := 1) (by decide) hq11c.1
        refine g_X1_149 h dX1_layHome_88 hq10.2 rC_75 hq11.1 ?_
        refine r_st (st0 := [.ref (ad 76)]) rfl ?_
        refine r_aload_n h dX1_layHome_91 rfl 1 rfl ?_
        have hq12 := w_ref hw ht rC_61 (by decide) (k := 16) (by decide) rf_1_16
        refine g_X1_46 h dX1_layHome_92 ht rC_61 hq12.1 ?_
        refine r_iconst h dX1_layHome_95 ?_
        obtain ⟨r13, s13, hq13, hf⟩ := ob_some hf
        refine r_callV0 h [.ref (ad 74), .int (vI 0)] dX1_layHome_96 (fun hs => m_Ta_put hw hq11.2 rC_76 hq12.2 rC_74 (rIc rfl) hs hq13) ml_X1_202 cv_Ta_put rfl (co := 9) rfl (by decide) hq11.2 rC_76 ⟨rfl, rfl⟩ ⟨Nat.le_of_ble_eq_true rfl, Nat.le_of_ble_eq_true rfl⟩ ⟨Nat.le_of_ble_eq_true rfl, Nat.le_of_ble_eq_true rfl⟩ (Nat.le_of_ble_eq_true rfl) rfl (fun hr13 hs13 => ?_)
        refine r_aload_n h dX1_layHome_99 rfl 1 rfl ?_
        refine r_iload_n h dX1_layHome_100 rfl 3 rfl ?_
        obtain ⟨r14, s14, hq14, hf⟩ := ob_some hf
        refine r_callV0 h [.int (vI x2)] dX1_layHome_101 (fun hs => m_Fi_searchHome hw ht rx2 hs hq14) ml_X1_206 cv_Fi_searchHome rfl (co := 1) rfl (by decide) ht rC_61 ⟨rfl, rfl⟩ ⟨Nat.le_of_ble_eq_true rfl, Nat.le_of_ble_eq_true rfl⟩ ⟨Nat.le_of_ble_eq_true rfl, Nat.le_of_ble_eq_true rfl⟩ (Nat.le_of_ble_eq_true rfl) rfl (fun hr14 hs14 => ?_)
        refine r_aload_n h dX1_layHome_104 rfl 1 rfl ?_
        refine g_X1_199 h dX1_layHome_105 ht rC_61 ?_
        exact r_ret1 hr dX1_layHome_108 (hs14.1 _ _) hf
      · have hf := ite_f hc3 hf
        refine r_iconst h dX1_layHome_55 ?_
        exact r_ret1 hr dX1_layHome_56 (rIc rfl) hf
set_option maxRecDepth 20000 in
theorem b_Fi_layHome_35 {l : Launch} {D : va_G} {cs : Nat → ClassId} {aS aV : Nat} {A : Nat → Prop} {K : KT} {ad : Nat → Nat} {n : Nat} {nl : Nat → Nat → Bool} {out : Int × SS} (h : w_Cl l rm_Fi_layHome D cs aS aV A cX1_layHome 6 RX1 "layHome" K) (hr : w_Rt 1 cX1_layHome 0 0 (w_Po ad n nl out) K) (hw : w_WH n nl) (ht : 61 < n) (x1 : Int) (x2 : Int) (x3 : Int) (x4 : Int) (s0 : SS) (rx1 : rI x1) (rx2 : rI x2) (rx3 : rI x3) (rx4 : rI x4) (hf : j_Fi_layHome_35 x1 x2 x3 x4 s0 = some out) : K ad n nl 0 0 35 [(0, .ref (ad 61)), (1, .int (vI x1)), (2, .int (vI x2)), (3, .int (vI x3)), (4, .int (vI x4))] [] s0 := by
  unfold j_Fi_layHome_35 at hf
  refine r_rS h (fun hs0 => ?_)
  refine r_iconst h dX1_layHome_35 ?_
  exact b_Fi_layHome_36 h hr hw ht x1 x2 x3 x4 0 s0 rx1 rx2 rx3 rx4 (rIc rfl) hf
set_option maxRecDepth 20000 in
theorem m_Fi_layHome {l : Launch} {D : va_G} {cs : Nat → ClassId} {aS aV : Nat} {A : Nat → Prop} {ad : Nat → Nat} {n : Nat} {nl : Nat → Nat → Bool} {out : Int × SS} (hw : w_WH n nl) (ht : 61 < n) {a1 : Int} (ra1 : rI a1) {a2 : Int} (ra2 : rI a2) {a3 : Int} (ra3 : rI a3) {a4 : Int} (ra4 : rI a4) {s0 : SS} (hs0 : rS s0) (hf : f_Fi_layHome a1 a2 a3 a4 s0 = some out) : w_MC l D cs aS aV A yX1_layHome cX1_layHome 6 1 rm_Fi_layHome ad n nl [.ref (ad 61), .int (vI a1), .int (vI a2), .int (vI a3), .int (vI a4)] s0 (w_Po ad n nl out) := by
  refine w_MC_of (by decide +kernel) (by decide) hs0 (Nat.le_of_ble_eq_true rfl) (fun K h hr => ?_)
  refine r_lv (lv' := [(0, .ref (ad 61)), (1, .int (vI a1)), (2, .int (vI a2)), (3, .int (vI a3)), (4, .int (vI a4))]) rfl ?_
  unfold f_Fi_layHome at hf
  refine r_rS h (fun hs0 => ?_)
  refine r_aload_n h dX1_layHome_0 rfl 0 rfl ?_
  obtain ⟨r1, s1, hq1, hf⟩ := ob_some hf
  refine r_callV0 h [] dX1_layHome_1 (fun hs => m_Fi_layNothing hw ht hs hq1) ml_X1_69 cv_Fi_layNothing rfl (co := 1) rfl (by decide) ht rC_61 ⟨rfl, rfl⟩ ⟨Nat.le_of_ble_eq_true rfl, Nat.le_of_ble_eq_true rfl⟩ ⟨Nat.le_of_ble_eq_true rfl, Nat.le_of_ble_eq_true rfl⟩ (Nat.le_of_ble_eq_true rfl) rfl (fun hr1 hs1 => ?_)
  refine r_iload_n h dX1_layHome_4 rfl 1 rfl ?_
  refine r_iconst h dX1_layHome_5 ?_
  refine r_icmp_eq (tgt := 35) h dX1_layHome_6 (by decide) ra1 (rIc rfl) (fun hc2 => ?_) (fun hc2 => ?_)
  · have hf := ite_t hc2 hf
    exact b_Fi_layHome_35 h hr hw ht a1 a2 a3 a4 s1 ra1 ra2 ra3 ra4 hf
  · have hf := ite_f hc2 hf
    refine r_aload_n h dX1_layHome_9 rfl 0 rfl ?_
    have hq3 := w_ref hw ht rC_61 (by decide) (k := 0) (by decide) rf_1_0
    refine g_X1_49 h dX1_layHome_10 ht rC_61 hq3.1 ?_
    refine r_iload_n h dX1_layHome_13 rfl 2 rfl ?_
    obtain ⟨r4, s4, hq4, hf⟩ := ob_some hf
    refine r_callV2 h [.int (vI a2)] dX1_layHome_14 (fun hs => m_La_isPlace hw hq3.2 rC_2 ra2 hs hq4) ml_X1_86 cv_La_isPlace rfl (co := 4) rfl (by decide) hq3.2 rC_2 ⟨rfl, rfl⟩ ⟨Nat.le_of_ble_eq_true rfl, Nat.le_of_ble_eq_true rfl⟩ ⟨Nat.le_of_ble_eq_true rfl, Nat.le_of_ble_eq_true rfl⟩ (Nat.le_of_ble_eq_true rfl) rfl (fun hr4 hs4 => ?_)
    refine r_if_eq (tgt := 35) h dX1_layHome_17 (by decide) (rI_b hr4) (fun hc5 => ?_) (fun hc5 => ?_)
    · have hf := ite_t hc5 hf
      exact b_Fi_layHome_35 h hr hw ht a1 a2 a3 a4 s4 ra1 ra2 ra3 ra4 hf
    · have hf := ite_f hc5 hf
      refine r_aload_n h dX1_layHome_20 rfl 0 rfl ?_
      have hq6 := w_ref hw ht rC_61 (by decide) (k := 0) (by decide) rf_1_0
      refine g_X1_49 h dX1_layHome_21 ht rC_61 hq6.1 ?_
      refine r_iload_n h dX1_layHome_24 rfl 3 rfl ?_
      obtain ⟨r7, s7, hq7, hf⟩ := ob_some hf
      refine r_callV2 h [.int (vI a3)] dX1_layHome_25 (fun hs => m_La_isPlace hw hq6.2 rC_2 ra3 hs hq7) ml_X1_86 cv_La_isPlace rfl (co := 4) rfl (by decide) hq6.2 rC_2 ⟨rfl, rfl⟩ ⟨Nat.le_of_ble_eq_true rfl, Nat.le_of_ble_eq_true rfl⟩ ⟨Nat.le_of_ble_eq_true rfl, Nat.le_of_ble_eq_true rfl⟩ (Nat.le_of_ble_eq_true rfl) rfl (fun hr7 hs7 => ?_)
      refine r_if_eq (tgt := 35) h dX1_layHome_28 (by decide) (rI_b hr7) (fun hc8 => ?_) (fun hc8 => ?_)
      · have hf := ite_t hc8 hf
        exact b_Fi_layHome_35 h hr hw ht a1 a2 a3 a4 s7 ra1 ra2 ra3 ra4 hf
      · have hf := ite_f hc8 hf
        refine r_iconst h dX1_layHome_31 ?_
        refine r_goto (tgt := 36) h dX1_layHome_32 (by decide) ?_
        exact b_Fi_layHome_36 h hr hw ht a1 a2 a3 a4 1 s7 ra1 ra2 ra3 ra4 (rIc rfl) hf
set_option maxRecDepth 20000 in
theorem b_Fi_temperAt_19 {l : Launch} {D : va_G} {cs : Nat → ClassId} {aS aV : Nat} {A : Nat → Prop} {K : KT} {ad : Nat → Nat} {n : Nat} {nl : Nat → Nat → Bool} {out : Int × SS} (h : w_Cl l rm_Fi_temperAt D cs aS aV A cX1_temperAt 3 RX1 "temperAt" K) (hr : w_Rt 1 cX1_temperAt 0 0 (w_Po ad n nl out) K) (hw : w_WH n nl)  (x1 : Int) (z0 : Int) (s0 : SS) (rx1 : rI x1) (rz0 : rI z0) (hf : j_Fi_temperAt_19 x1 z0 s0 = some out) : K ad n nl 0 0 19 [(1, .int (vI x1))] [.int (vI z0)] s0 := by
  unfold j_Fi_temperAt_19 at hf
  refine r_rS h (fun hs0 => ?_)
  refine r_istore_n h [(2, .int (vI z0)), (1, .int (vI x1))] dX1_temperAt_19 rfl (by decide) rfl ?_
  refine r_iconst h dX1_temperAt_20 ?_
  refine r_iload_n h dX1_temperAt_21 rfl 0 rfl ?_
  refine r_imul h dX1_temperAt_22 ?_
  refine r_iload_n h dX1_temperAt_23 rfl 1 rfl ?_
  refine r_iconst h dX1_temperAt_24 ?_
  refine r_irem h dX1_temperAt_25 rx1 (rIc rfl) (by decide) ?_
  refine r_iadd h dX1_temperAt_26 ?_
  exact r_ret1 hr dX1_temperAt_27 (rI_iw _) hf
set_option maxRecDepth 20000 in
theorem m_Fi_temperAt {l : Launch} {D : va_G} {cs : Nat → ClassId} {aS aV : Nat} {A : Nat → Prop} {ad : Nat → Nat} {n : Nat} {nl : Nat → Nat → Bool} {out : Int × SS} (hw : w_WH n nl) {a1 : Int} (ra1 : rI a1) {a2 : Int} (ra2 : rI a2) {s0 : SS} (hs0 : rS s0) (hf : f_Fi_temperAt a1 a2 s0 = some out) : w_MC l D cs aS aV A yX1_temperAt cX1_temperAt 3 1 rm_Fi_temperAt ad n nl [.int (vI a1), .int (vI a2)] s0 (w_Po ad n nl out) := by
  refine w_MC_of (by decide +kernel) (by decide) hs0 (Nat.le_of_ble_eq_true rfl) (fun K h hr => ?_)
  refine r_lv (lv' := [(0, .int (vI a1)), (1, .int (vI a2))]) rfl ?_
  unfold f_Fi_temperAt at hf
  refine r_rS h (fun hs0 => ?_)
  refine r_iload_n h dX1_temperAt_0 rfl 1 rfl ?_
  refine r_iconst h dX1_temperAt_1 ?_
  refine r_icmp_ge (tgt := 12) h dX1_temperAt_2 (by decide) ra2 (rIc rfl) (fun hc1 => ?_) (fun hc1 => ?_)
  · have hf := ite_t hc1 hf
    refine r_iload_n h dX1_temperAt_12 rfl 0 rfl ?_
    refine r_bipush h dX1_temperAt_13 (by decide) ?_
    refine r_idivP h dX1_temperAt_15 ra1 (rIc rfl) (by decide) ?_
    refine r_bipush h dX1_temperAt_16 (by decide) ?_
    refine r_irem h dX1_temperAt_18 (rI_tdivP ra1 (by decide)) (rIc rfl) (by decide) ?_
    refine r_sub h [1] rfl ?_
    exact b_Fi_temperAt_19 h hr hw a2 (Int.tmod (Int.tdiv a1 10) 10) s0 ra2 (rI_tmod (rI_tdivP ra1 (by decide)) (rIc rfl)) hf
  · have hf := ite_f hc1 hf
    refine r_iload_n h dX1_temperAt_5 rfl 0 rfl ?_
    refine r_bipush h dX1_temperAt_6 (by decide) ?_
    refine r_idivP h dX1_temperAt_8 ra1 (rIc rfl) (by decide) ?_
    refine r_goto (tgt := 19) h dX1_temperAt_9 (by decide) ?_
    refine r_sub h [1] rfl ?_
    exact b_Fi_temperAt_19 h hr hw a2 (Int.tdiv a1 100) s0 ra2 (rI_tdivP ra1 (by decide)) hf
set_option maxRecDepth 20000 in
theorem m_Fi_temperNow {l : Launch} {D : va_G} {cs : Nat → ClassId} {aS aV : Nat} {A : Nat → Prop} {ad : Nat → Nat} {n : Nat} {nl : Nat → Nat → Bool} {out : Int × SS} (hw : w_WH n nl) (ht : 61 < n) {a1 : Int} (ra1 : rI a1) {a2 : Int} (ra2 : rI a2) {s0 : SS} (hs0 : rS s0) (hf : f_Fi_temperNow a1 a2 s0 = some out) : w_MC l D cs aS aV A yX1_temperNow cX1_temperNow 4 1 rm_Fi_temperNow ad n nl [.ref (ad 61), .int (vI a1), .int (vI a2)] s0 (w_Po ad n nl out) := by
  refine w_MC_of (by decide +kernel) (by decide) hs0 (Nat.le_of_ble_eq_true rfl) (fun K h hr => ?_)
  refine r_lv (lv' := [(0, .ref (ad 61)), (1, .int (vI a1)), (2, .int (vI a2))]) rfl ?_
  unfold f_Fi_temperNow at hf
  refine r_rS h (fun hs0 => ?_)
  refine r_iload_n h dX1_temperNow_0 rfl 1 rfl ?_
  refine r_iload_n h dX1_temperNow_1 rfl 2 rfl ?_
  obtain ⟨r1, s1, hq1, hf⟩ := ob_some hf
  refine r_callS1 h [.int (vI a1), .int (vI a2)] dX1_temperNow_2 (fun hs => m_Fi_temperAt hw ra1 ra2 hs hq1) ml_X1_250 cv_Fi_temperAt rfl ⟨rfl, rfl⟩ ⟨Nat.le_of_ble_eq_true rfl, Nat.le_of_ble_eq_true rfl⟩ ⟨Nat.le_of_ble_eq_true rfl, Nat.le_of_ble_eq_true rfl⟩ (Nat.le_of_ble_eq_true rfl) rfl (fun hr1 hs1 => ?_)
  refine r_istore_n h [(3, .int (vI r1)), (0, .ref (ad 61)), (1, .int (vI a1)), (2, .int (vI a2))] dX1_temperNow_5 rfl (by decide) rfl ?_
  refine r_iload_n h dX1_temperNow_6 rfl 0 rfl ?_
  refine r_if_lt (tgt := 28) h dX1_temperNow_7 (by decide) hr1 (fun hc2 => ?_) (fun hc2 => ?_)
  · have hf := ite_t hc2 hf
    refine r_iconst h dX1_temperNow_28 ?_
    exact r_ret1 hr dX1_temperNow_29 (rIc rfl) hf
  · have hf := ite_f hc2 hf
    refine r_iload_n h dX1_temperNow_10 rfl 0 rfl ?_
    refine r_aload_n h dX1_temperNow_11 rfl 1 rfl ?_
    have hq3 := w_ref hw ht rC_61 (by decide) (k := 1) (by decide) rf_1_1
    refine g_X1_53 h dX1_temperNow_12 ht rC_61 hq3.1 ?_
    refine r_alen (N := 12) h dX1_temperNow_15 hq3.2 rC_47 (Or.inr (Or.inl rfl)) (by rw [rN_47]; rfl) ?_
    refine r_icmp_ge (tgt := 28) h dX1_temperNow_16 (by decide) hr1 (rIc rfl) (fun hc4 => ?_) (fun hc4 => ?_)
    · have hf := ite_t hc4 hf
      refine r_iconst h dX1_temperNow_28 ?_
      exact r_ret1 hr dX1_temperNow_29 (rIc rfl) hf
    · have hf := ite_f hc4 hf
      refine r_aload_n h dX1_temperNow_19 rfl 1 rfl ?_
      have hq5 := w_ref hw ht rC_61 (by decide) (k := 1) (by decide) rf_1_1
      refine g_X1_53 h dX1_temperNow_20 ht rC_61 hq5.1 ?_
      refine r_iload_n h dX1_temperNow_23 rfl 0 rfl ?_
      obtain ⟨hi6, hf⟩ := oc_some hf
      refine r_iald h dX1_temperNow_24 hq5.2 rC_47 hr1 (N := 12) (by rw [rN_47]; rfl) (j := (r1).toNat) rfl hi6 ?_
      refine r_goto (tgt := 29) h dX1_temperNow_25 (by decide) ?_
      exact r_ret1 hr dX1_temperNow_29 (hs1.1 _ _) hf
set_option maxRecDepth 20000 in
theorem b_Fi_setBounds_96 {l : Launch} {D : va_G} {cs : Nat → ClassId} {aS aV : Nat} {A : Nat → Prop} {K : KT} {ad : Nat → Nat} {n : Nat} {nl : Nat → Nat → Bool} {out : Int × SS} (h : w_Cl l rm_Fi_setBounds D cs aS aV A cX1_setBounds 6 RX1 "setBounds" K) (hr : w_Rt 0 cX1_setBounds 0 0 (w_Po ad n nl out) K) (hw : w_WH n nl) (ht : 61 < n) (x1 : Int) (x2 : Int) (z1 : Int) (z2 : Int) (self2 : Int → SS → OO) (hself2 : ∀ (x2 : Int) (τ : SS), rI x2 → self2 x2 τ = some out → K ad n nl 0 0 2 [(0, .ref (ad 61)), (1, .int (vI x1)), (2, .int (vI x2))] [] τ) (s0 : SS) (rx1 : rI x1) (rx2 : rI x2) (rz1 : rI z1) (rz2 : rI z2) (hf : j_Fi_setBounds_96 self2 x1 x2 z1 z2 s0 = some out) : K ad n nl 0 0 96 [(0, .ref (ad 61)), (1, .int (vI x1)), (2, .int (vI x2))] [.int (vI z2), .int (vI z1), .ref (ad 71)] s0 := by
  unfold j_Fi_setBounds_96 at hf
  have q71_0 := w_ref hw ht rC_61 (by decide) (k := 12) (by decide) rf_1_12
  refine r_rS h (fun hs0 => ?_)
  obtain ⟨hi1, hf⟩ := oc_some hf
  refine r_iast h dX1_setBounds_96 q71_0.2 rC_71 rz1 (N := 4) (by rw [rN_71]; rfl) (j := (z1).toNat) rfl hi1 rz2 ?_
  refine r_os hf (fun s2 hf => ?_)
  refine r_rS h (fun hs2 => ?_)
  refine r_iinc h [(2, .int (vI (iw (x2 + 1)))), (0, .ref (ad 61)), (1, .int (vI x1))] dX1_setBounds_97 2 rfl (by decide) rfl ?_
  refine r_goto (tgt := 2) h dX1_setBounds_100 (by decide) ?_
  refine r_sub h [1, 2, 0] rfl ?_
  exact hself2 (iw (x2 + 1)) s2 (rI_iw _) hf
set_option maxRecDepth 20000 in
theorem b_Fi_setBounds_78 {l : Launch} {D : va_G} {cs : Nat → ClassId} {aS aV : Nat} {A : Nat → Prop} {K : KT} {ad : Nat → Nat} {n : Nat} {nl : Nat → Nat → Bool} {out : Int × SS} (h : w_Cl l rm_Fi_setBounds D cs aS aV A cX1_setBounds 6 RX1 "setBounds" K) (hr : w_Rt 0 cX1_setBounds 0 0 (w_Po ad n nl out) K) (hw : w_WH n nl) (ht : 61 < n) (x1 : Int) (x2 : Int) (x4 : Int) (x5 : Int) (z1 : Int) (z2 : Int) (self2 : Int → SS → OO) (hself2 : ∀ (x2 : Int) (τ : SS), rI x2 → self2 x2 τ = some out → K ad n nl 0 0 2 [(0, .ref (ad 61)), (1, .int (vI x1)), (2, .int (vI x2))] [] τ) (s0 : SS) (rx1 : rI x1) (rx2 : rI x2) (rx4 : rI x4) (rx5 : rI x5) (rz1 : rI z1) (rz2 : rI z2) (hf : j_Fi_setBounds_78 self2 x1 x2 x4 x5 z1 z2 s0 = some out) : K ad n nl 0 0 78 [(0, .ref (ad 61)), (1, .int (vI x1)), (2, .int (vI x2)), (4, .int (vI x4)), (5, .int (vI x5))] [.int (vI z2), .int (vI z1), .ref (ad 70)] s0 := by
  unfold j_Fi_setBounds_78 at hf
  have q70_0 := w_ref hw ht rC_61 (by decide) (k := 11) (by decide) rf_1_11
  refine r_rS h (fun hs0 => ?_)
  obtain ⟨hi1, hf⟩ := oc_some hf
  refine r_iast h dX1_setBounds_78 q70_0.2 rC_70 rz1 (N := 4) (by rw [rN_70]; rfl) (j := (z1).toNat) rfl hi1 rz2 ?_
  refine r_os hf (fun s2 hf => ?_)
  refine r_rS h (fun hs2 => ?_)
  refine r_aload_n h dX1_setBounds_79 rfl 0 rfl ?_
  have hq3 := w_ref hw ht rC_61 (by decide) (k := 12) (by decide) rf_1_12
  refine g_X1_37 h dX1_setBounds_80 ht rC_61 hq3.1 ?_
  refine r_iload_n h dX1_setBounds_83 rfl 2 rfl ?_
  refine r_iload h dX1_setBounds_84 3 rfl ?_
  refine r_if_eq (tgt := 94) h dX1_setBounds_86 (by decide) rx4 (fun hc4 => ?_) (fun hc4 => ?_)
  · have hf := ite_t hc4 hf
    refine r_iload h dX1_setBounds_94 4 rfl ?_
    refine r_sub h [0, 1, 2] rfl ?_
    exact b_Fi_setBounds_96 h hr hw ht x1 x2 x2 x5 self2 hself2 s2 rx1 rx2 rx2 rx5 hf
  · have hf := ite_f hc4 hf
    refine r_bipush h dX1_setBounds_89 (by decide) ?_
    refine r_goto (tgt := 96) h dX1_setBounds_91 (by decide) ?_
    refine r_sub h [0, 1, 2] rfl ?_
    exact b_Fi_setBounds_96 h hr hw ht x1 x2 x2 9 self2 hself2 s2 rx1 rx2 rx2 (rIc rfl) hf
set_option maxRecDepth 20000 in
theorem b_Fi_setBounds_52 {l : Launch} {D : va_G} {cs : Nat → ClassId} {aS aV : Nat} {A : Nat → Prop} {K : KT} {ad : Nat → Nat} {n : Nat} {nl : Nat → Nat → Bool} {out : Int × SS} (h : w_Cl l rm_Fi_setBounds D cs aS aV A cX1_setBounds 6 RX1 "setBounds" K) (hr : w_Rt 0 cX1_setBounds 0 0 (w_Po ad n nl out) K) (hw : w_WH n nl) (ht : 61 < n) (x1 : Int) (x2 : Int) (z0 : Int) (self2 : Int → SS → OO) (hself2 : ∀ (x2 : Int) (τ : SS), rI x2 → self2 x2 τ = some out → K ad n nl 0 0 2 [(0, .ref (ad 61)), (1, .int (vI x1)), (2, .int (vI x2))] [] τ) (s0 : SS) (rx1 : rI x1) (rx2 : rI x2) (rz0 : rI z0) (hf : j_Fi_setBounds_52 self2 x1 x2 z0 s0 = some out) : K ad n nl 0 0 52 [(0, .ref (ad 61)), (1, .int (vI x1)), (2, .int (vI x2))] [.int (vI z0)] s0 := by
  unfold j_Fi_setBounds_52 at hf
  refine r_rS h (fun hs0 => ?_)
  refine r_istore h [(4, .int (vI z0)), (0, .ref (ad 61)), (1, .int (vI x1)), (2, .int (vI x2))] dX1_setBounds_52 (by decide) rfl ?_
  refine r_aload_n h dX1_setBounds_54 rfl 1 rfl ?_
  refine r_iload_n h dX1_setBounds_55 rfl 2 rfl ?_
  refine r_iload_n h dX1_setBounds_56 rfl 3 rfl ?_
  obtain ⟨r1, s1, hq1, hf⟩ := ob_some hf
  refine r_callV1 h [.int (vI x1), .int (vI x2)] dX1_setBounds_57 (fun hs => m_Fi_temperNow hw ht rx1 rx2 hs hq1) ml_X1_247 cv_Fi_temperNow rfl (co := 1) rfl (by decide) ht rC_61 ⟨rfl, rfl⟩ ⟨Nat.le_of_ble_eq_true rfl, Nat.le_of_ble_eq_true rfl⟩ ⟨Nat.le_of_ble_eq_true rfl, Nat.le_of_ble_eq_true rfl⟩ (Nat.le_of_ble_eq_true rfl) rfl (fun hr1 hs1 => ?_)
  refine r_istore h [(5, .int (vI r1)), (4, .int (vI z0)), (0, .ref (ad 61)), (1, .int (vI x1)), (2, .int (vI x2))] dX1_setBounds_60 (by decide) rfl ?_
  refine r_aload_n h dX1_setBounds_62 rfl 2 rfl ?_
  have hq2 := w_ref hw ht rC_61 (by decide) (k := 11) (by decide) rf_1_11
  refine g_X1_34 h dX1_setBounds_63 ht rC_61 hq2.1 ?_
  refine r_iload_n h dX1_setBounds_66 rfl 4 rfl ?_
  refine r_iload h dX1_setBounds_67 1 rfl ?_
  refine r_if_eq (tgt := 76) h dX1_setBounds_69 (by decide) rz0 (fun hc3 => ?_) (fun hc3 => ?_)
  · have hf := ite_t hc3 hf
    refine r_iload h dX1_setBounds_76 0 rfl ?_
    refine r_sub h [2, 3, 4, 1, 0] rfl ?_
    exact b_Fi_setBounds_78 h hr hw ht x1 x2 z0 r1 x2 r1 self2 hself2 s1 rx1 rx2 rz0 hr1 rx2 hr1 hf
  · have hf := ite_f hc3 hf
    refine r_iconst h dX1_setBounds_72 ?_
    refine r_goto (tgt := 78) h dX1_setBounds_73 (by decide) ?_
    refine r_sub h [2, 3, 4, 1, 0] rfl ?_
    exact b_Fi_setBounds_78 h hr hw ht x1 x2 z0 r1 x2 0 self2 hself2 s1 rx1 rx2 rz0 hr1 rx2 (rIc rfl) hf
set_option maxRecDepth 20000 in
theorem b_Fi_setBounds_47 {l : Launch} {D : va_G} {cs : Nat → ClassId} {aS aV : Nat} {A : Nat → Prop} {K : KT} {ad : Nat → Nat} {n : Nat} {nl : Nat → Nat → Bool} {out : Int × SS} (h : w_Cl l rm_Fi_setBounds D cs aS aV A cX1_setBounds 6 RX1 "setBounds" K) (hr : w_Rt 0 cX1_setBounds 0 0 (w_Po ad n nl out) K) (hw : w_WH n nl) (ht : 61 < n) (x1 : Int) (x2 : Int) (self2 : Int → SS → OO) (hself2 : ∀ (x2 : Int) (τ : SS), rI x2 → self2 x2 τ = some out → K ad n nl 0 0 2 [(0, .ref (ad 61)), (1, .int (vI x1)), (2, .int (vI x2))] [] τ) (s0 : SS) (rx1 : rI x1) (rx2 : rI x2) (hf : j_Fi_setBounds_47 self2 x1 x2 s0 = some out) : K ad n nl 0 0 47 [(0, .ref (ad 61)), (1, .int (vI x1)), (2, .int (vI x2))] [] s0 := by
  unfold j_Fi_setBounds_47 at hf
  refine r_rS h (fun hs0 => ?_)
  refine r_iconst h dX1_setBounds_47 ?_
  refine r_goto (tgt := 52) h dX1_setBounds_48 (by decide) ?_
  exact b_Fi_setBounds_52 h hr hw ht x1 x2 1 self2 hself2 s0 rx1 rx2 (rIc rfl) hf
set_option maxRecDepth 20000 in
theorem b_Fi_setBounds_18 {l : Launch} {D : va_G} {cs : Nat → ClassId} {aS aV : Nat} {A : Nat → Prop} {K : KT} {ad : Nat → Nat} {n : Nat} {nl : Nat → Nat → Bool} {out : Int × SS} (h : w_Cl l rm_Fi_setBounds D cs aS aV A cX1_setBounds 6 RX1 "setBounds" K) (hr : w_Rt 0 cX1_setBounds 0 0 (w_Po ad n nl out) K) (hw : w_WH n nl) (ht : 61 < n) (x1 : Int) (x2 : Int) (z0 : Int) (self2 : Int → SS → OO) (hself2 : ∀ (x2 : Int) (τ : SS), rI x2 → self2 x2 τ = some out → K ad n nl 0 0 2 [(0, .ref (ad 61)), (1, .int (vI x1)), (2, .int (vI x2))] [] τ) (s0 : SS) (rx1 : rI x1) (rx2 : rI x2) (rz0 : rI z0) (hf : j_Fi_setBounds_18 self2 x1 x2 z0 s0 = some out) : K ad n nl 0 0 18 [(0, .ref (ad 61)), (1, .int (vI x1)), (2, .int (vI x2))] [.int (vI z0)] s0 := by
  unfold j_Fi_setBounds_18 at hf
  refine r_rS h (fun hs0 => ?_)
  refine r_istore_n h [(3, .int (vI z0)), (0, .ref (ad 61)), (1, .int (vI x1)), (2, .int (vI x2))] dX1_setBounds_18 rfl (by decide) rfl ?_
  refine r_aload_n h dX1_setBounds_19 rfl 1 rfl ?_
  have hq1 := w_ref hw ht rC_61 (by decide) (k := 0) (by decide) rf_1_0
  refine g_X1_49 h dX1_setBounds_20 ht rC_61 hq1.1 ?_
  have hq2c := rf_4_18 _ rC_2
  have hq2 := w_ref hw hq1.2 rC_2 (by decide) (k := 18) (by decide) hq2c.1
  refine g_X1_235 h dX1_setBounds_23 hq1.2 rC_2 hq2.1 ?_
  refine r_st (st0 := [.ref (ad 16)]) rfl ?_
  refine r_iload_n h dX1_setBounds_26 rfl 0 rfl ?_
  obtain ⟨r3, s3, hq3, hf⟩ := ob_some hf
  refine r_callV2 h [.int (vI z0)] dX1_setBounds_27 (fun hs => m_Fo_asksFor hw hq2.2 rC_16 rz0 hs hq3) ml_X1_239 cv_Fo_asksFor rfl (co := 2) rfl (by decide) hq2.2 rC_16 ⟨rfl, rfl⟩ ⟨Nat.le_of_ble_eq_true rfl, Nat.le_of_ble_eq_true rfl⟩ ⟨Nat.le_of_ble_eq_true rfl, Nat.le_of_ble_eq_true rfl⟩ (Nat.le_of_ble_eq_true rfl) rfl (fun hr3 hs3 => ?_)
  refine r_if_ne (tgt := 47) h dX1_setBounds_30 (by decide) (rI_b hr3) (fun hc4 => ?_) (fun hc4 => ?_)
  · have hf := ite_f hc4 hf
    refine r_sub h [1, 2, 3] rfl ?_
    exact b_Fi_setBounds_47 h hr hw ht x1 x2 self2 hself2 s3 rx1 rx2 hf
  · have hf := ite_nf hc4 hf
    refine r_aload_n h dX1_setBounds_33 rfl 1 rfl ?_
    have hq5 := w_ref hw ht rC_61 (by decide) (k := 0) (by decide) rf_1_0
    refine g_X1_49 h dX1_setBounds_34 ht rC_61 hq5.1 ?_
    have hq6c := rf_4_19 _ rC_2
    have hq6 := w_ref hw hq5.2 rC_2 (by decide) (k := 19) (by decide) hq6c.1
    refine g_X1_244 h dX1_setBounds_37 hq5.2 rC_2 hq6.1 ?_
    refine r_st (st0 := [.ref (ad 19)]) rfl ?_
    refine r_iload_n h dX1_setBounds_40 rfl 0 rfl ?_
    obtain ⟨r7, s7, hq7, hf⟩ := ob_some hf
    refine r_callV2 h [.int (vI z0)] dX1_setBounds_41 (fun hs => m_Fo_asksFor hw hq6.2 rC_19 rz0 hs hq7) ml_X1_239 cv_Fo_asksFor rfl (co := 2) rfl (by decide) hq6.2 rC_19 ⟨rfl, rfl⟩ ⟨Nat.le_of_ble_eq_true rfl, Nat.le_of_ble_eq_true rfl⟩ ⟨Nat.le_of_ble_eq_true rfl, Nat.le_of_ble_eq_true rfl⟩ (Nat.le_of_ble_eq_true rfl) rfl (fun hr7 hs7 => ?_)
    refine r_if_eq (tgt := 51) h dX1_setBounds_44 (by decide) (rI_b hr7) (fun hc8 => ?_) (fun hc8 => ?_)
    · have hf := ite_t hc8 hf
      refine r_iconst h dX1_setBounds_51 ?_
      refine r_sub h [1, 2, 3] rfl ?_
      exact b_Fi_setBounds_52 h hr hw ht x1 x2 0 self2 hself2 s7 rx1 rx2 (rIc rfl) hf
    · have hf := ite_f hc8 hf
      refine r_sub h [1, 2, 3] rfl ?_
      exact b_Fi_setBounds_47 h hr hw ht x1 x2 self2 hself2 s7 rx1 rx2 hf
set_option maxRecDepth 20000 in
theorem b_Fi_setBounds_2 {l : Launch} {D : va_G} {cs : Nat → ClassId} {aS aV : Nat} {A : Nat → Prop} {K : KT} {ad : Nat → Nat} {n : Nat} {nl : Nat → Nat → Bool} {out : Int × SS} (h : w_Cl l rm_Fi_setBounds D cs aS aV A cX1_setBounds 6 RX1 "setBounds" K) (hr : w_Rt 0 cX1_setBounds 0 0 (w_Po ad n nl out) K) (hw : w_WH n nl) (ht : 61 < n) {y1 : Int} (ry1 : rI y1) : ∀ (fu : Nat) (x2 : Int) (s0 : SS), rI x2 → l_Fi_setBounds_2 y1 fu x2 s0 = some out → K ad n nl 0 0 2 [(0, .ref (ad 61)), (1, .int (vI y1)), (2, .int (vI x2))] [] s0 := by
  intro fu
  induction fu with
  | zero =>
    intro x2 s0 rx2 hf
    rw [l_Fi_setBounds_2] at hf
    cases hf
  | succ fu ih =>
    intro x2 s0 rx2 hf
    rw [l_Fi_setBounds_2] at hf
    refine r_rS h (fun hs0 => ?_)
    refine r_iload_n h dX1_setBounds_2 rfl 2 rfl ?_
    refine r_iconst h dX1_setBounds_3 ?_
    refine r_icmp_ge (tgt := 103) h dX1_setBounds_4 (by decide) rx2 (rIc rfl) (fun hc1 => ?_) (fun hc1 => ?_)
    · have hf := ite_t hc1 hf
      exact r_ret0 (x := 0) hr dX1_setBounds_103 hf
    · have hf := ite_f hc1 hf
      refine r_iload_n h dX1_setBounds_7 rfl 2 rfl ?_
      refine r_iconst h dX1_setBounds_8 ?_
      refine r_irem h dX1_setBounds_9 rx2 (rIc rfl) (by decide) ?_
      refine r_if_ne (tgt := 17) h dX1_setBounds_10 (by decide) (rI_tmod rx2 (rIc rfl)) (fun hc2 => ?_) (fun hc2 => ?_)
      · have hf := ite_f hc2 hf
        refine r_iconst h dX1_setBounds_17 ?_
        exact b_Fi_setBounds_18 h hr hw ht y1 x2 3 (l_Fi_setBounds_2 y1 fu) ih s0 ry1 rx2 (rIc rfl) hf
      · have hf := ite_nf hc2 hf
        refine r_iconst h dX1_setBounds_13 ?_
        refine r_goto (tgt := 18) h dX1_setBounds_14 (by decide) ?_
        exact b_Fi_setBounds_18 h hr hw ht y1 x2 2 (l_Fi_setBounds_2 y1 fu) ih s0 ry1 rx2 (rIc rfl) hf
set_option maxRecDepth 20000 in
theorem m_Fi_setBounds {l : Launch} {D : va_G} {cs : Nat → ClassId} {aS aV : Nat} {A : Nat → Prop} {ad : Nat → Nat} {n : Nat} {nl : Nat → Nat → Bool} {out : Int × SS} (hw : w_WH n nl) (ht : 61 < n) {a1 : Int} (ra1 : rI a1) {s0 : SS} (hs0 : rS s0) (hf : f_Fi_setBounds a1 s0 = some out) : w_MC l D cs aS aV A yX1_setBounds cX1_setBounds 6 0 rm_Fi_setBounds ad n nl [.ref (ad 61), .int (vI a1)] s0 (w_Po ad n nl out) := by
  refine w_MC_of (by decide +kernel) (by decide) hs0 (Nat.le_of_ble_eq_true rfl) (fun K h hr => ?_)
  refine r_lv (lv' := [(0, .ref (ad 61)), (1, .int (vI a1))]) rfl ?_
  unfold f_Fi_setBounds at hf
  refine r_rS h (fun hs0 => ?_)
  refine r_iconst h dX1_setBounds_0 ?_
  refine r_istore_n h [(2, .int (vI 0)), (0, .ref (ad 61)), (1, .int (vI a1))] dX1_setBounds_1 rfl (by decide) rfl ?_
  refine r_sub h [1, 2, 0] rfl ?_
  exact b_Fi_setBounds_2 h hr hw ht ra1 FU 0 s0 (rIc rfl) hf
set_option maxRecDepth 20000 in
theorem m_Fi_tryTemper {l : Launch} {D : va_G} {cs : Nat → ClassId} {aS aV : Nat} {A : Nat → Prop} {ad : Nat → Nat} {n : Nat} {nl : Nat → Nat → Bool} {out : Int × SS} (hw : w_WH n nl) (ht : 61 < n) {a1 : Int} (ra1 : rI a1) {a2 : Int} (ra2 : rI a2) {a3 : Int} (ra3 : rI a3) {s0 : SS} (hs0 : rS s0) (hf : f_Fi_tryTemper a1 a2 a3 s0 = some out) : w_MC l D cs aS aV A yX1_tryTemper cX1_tryTemper 5 0 rm_Fi_tryTemper ad n nl [.ref (ad 61), .int (vI a1), .int (vI a2), .int (vI a3)] s0 (w_Po ad n nl out) := by
  refine w_MC_of (by decide +kernel) (by decide) hs0 (Nat.le_of_ble_eq_true rfl) (fun K h hr => ?_)
  refine r_lv (lv' := [(0, .ref (ad 61)), (1, .int (vI a1)), (2, .int (vI a2)), (3, .int (vI a3))]) rfl ?_
  unfold f_Fi_tryTemper at hf
  refine r_rS h (fun hs0 => ?_)
  refine r_iload_n h dX1_tryTemper_0 rfl 1 rfl ?_
  refine r_iload_n h dX1_tryTemper_1 rfl 2 rfl ?_
  obtain ⟨r1, s1, hq1, hf⟩ := ob_some hf
  refine r_callS1 h [.int (vI a1), .int (vI a2)] dX1_tryTemper_2 (fun hs => m_Fi_temperAt hw ra1 ra2 hs hq1) ml_X1_250 cv_Fi_temperAt rfl ⟨rfl, rfl⟩ ⟨Nat.le_of_ble_eq_true rfl, Nat.le_of_ble_eq_true rfl⟩ ⟨Nat.le_of_ble_eq_true rfl, Nat.le_of_ble_eq_true rfl⟩ (Nat.le_of_ble_eq_true rfl) rfl (fun hr1 hs1 => ?_)
  refine r_istore h [(4, .int (vI r1)), (0, .ref (ad 61)), (1, .int (vI a1)), (2, .int (vI a2)), (3, .int (vI a3))] dX1_tryTemper_5 (by decide) rfl ?_
  refine r_iload h dX1_tryTemper_7 0 rfl ?_
  refine r_if_lt (tgt := 30) h dX1_tryTemper_9 (by decide) hr1 (fun hc2 => ?_) (fun hc2 => ?_)
  · have hf := ite_t hc2 hf
    exact r_ret0 (x := 0) hr dX1_tryTemper_30 hf
  · have hf := ite_f hc2 hf
    refine r_iload h dX1_tryTemper_12 0 rfl ?_
    refine r_aload_n h dX1_tryTemper_14 rfl 1 rfl ?_
    have hq3 := w_ref hw ht rC_61 (by decide) (k := 10) (by decide) rf_1_10
    refine g_X1_31 h dX1_tryTemper_15 ht rC_61 hq3.1 ?_
    refine r_alen (N := 12) h dX1_tryTemper_18 hq3.2 rC_69 (Or.inr (Or.inl rfl)) (by rw [rN_69]; rfl) ?_
    refine r_icmp_ge (tgt := 30) h dX1_tryTemper_19 (by decide) hr1 (rIc rfl) (fun hc4 => ?_) (fun hc4 => ?_)
    · have hf := ite_t hc4 hf
      exact r_ret0 (x := 0) hr dX1_tryTemper_30 hf
    · have hf := ite_f hc4 hf
      refine r_aload_n h dX1_tryTemper_22 rfl 1 rfl ?_
      have hq5 := w_ref hw ht rC_61 (by decide) (k := 10) (by decide) rf_1_10
      refine g_X1_31 h dX1_tryTemper_23 ht rC_61 hq5.1 ?_
      refine r_iload h dX1_tryTemper_26 0 rfl ?_
      refine r_iload_n h dX1_tryTemper_28 rfl 4 rfl ?_
      obtain ⟨hi6, hf⟩ := oc_some hf
      refine r_iast h dX1_tryTemper_29 hq5.2 rC_69 hr1 (N := 12) (by rw [rN_69]; rfl) (j := (r1).toNat) rfl hi6 ra3 ?_
      refine r_os hf (fun s7 hf => ?_)
      refine r_rS h (fun hs7 => ?_)
      exact r_ret0 (x := 0) hr dX1_tryTemper_30 hf
set_option maxRecDepth 20000 in
theorem b_Fi_layIfLong_108 {l : Launch} {D : va_G} {cs : Nat → ClassId} {aS aV : Nat} {A : Nat → Prop} {K : KT} {ad : Nat → Nat} {n : Nat} {nl : Nat → Nat → Bool} {out : Int × SS} (h : w_Cl l rm_Fi_layIfLong D cs aS aV A cX1_layIfLong 5 RX1 "layIfLong" K) (hr : w_Rt 2 cX1_layIfLong 0 0 (w_Po ad n nl out) K) (hw : w_WH n nl) (ht : 61 < n) (x1 : Int) (x3 : Int) (z1 : Int) (self69 : Int → SS → OO) (hself69 : ∀ (x3 : Int) (τ : SS), rI x3 → self69 x3 τ = some out → K ad n nl 0 0 69 [(0, .ref (ad 61)), (1, .int (vI x1)), (3, .int (vI x3))] [] τ) (s0 : SS) (rx1 : rI x1) (rx3 : rI x3) (rz1 : rI z1) (hf : j_Fi_layIfLong_108 self69 x1 x3 z1 s0 = some out) : K ad n nl 0 0 108 [(0, .ref (ad 61)), (1, .int (vI x1)), (3, .int (vI x3))] [.int (vI z1), .ref (ad 61)] s0 := by
  unfold j_Fi_layIfLong_108 at hf
  refine r_rS h (fun hs0 => ?_)
  obtain ⟨r1, s1, hq1, hf⟩ := ob_some hf
  refine r_callV0 h [.int (vI z1)] dX1_layIfLong_108 (fun hs => m_Fi_lay hw ht rz1 hs hq1) ml_X1_82 cv_Fi_lay rfl (co := 1) rfl (by decide) ht rC_61 ⟨rfl, rfl⟩ ⟨Nat.le_of_ble_eq_true rfl, Nat.le_of_ble_eq_true rfl⟩ ⟨Nat.le_of_ble_eq_true rfl, Nat.le_of_ble_eq_true rfl⟩ (Nat.le_of_ble_eq_true rfl) rfl (fun hr1 hs1 => ?_)
  refine r_iinc h [(3, .int (vI (iw (x3 + 1)))), (0, .ref (ad 61)), (1, .int (vI x1))] dX1_layIfLong_111 2 rfl (by decide) rfl ?_
  refine r_goto (tgt := 69) h dX1_layIfLong_114 (by decide) ?_
  refine r_sub h [1, 2, 0] rfl ?_
  exact hself69 (iw (x3 + 1)) s1 (rI_iw _) hf
set_option maxRecDepth 20000 in
theorem b_Fi_layIfLong_107 {l : Launch} {D : va_G} {cs : Nat → ClassId} {aS aV : Nat} {A : Nat → Prop} {K : KT} {ad : Nat → Nat} {n : Nat} {nl : Nat → Nat → Bool} {out : Int × SS} (h : w_Cl l rm_Fi_layIfLong D cs aS aV A cX1_layIfLong 5 RX1 "layIfLong" K) (hr : w_Rt 2 cX1_layIfLong 0 0 (w_Po ad n nl out) K) (hw : w_WH n nl) (ht : 61 < n) (x1 : Int) (x3 : Int) (self69 : Int → SS → OO) (hself69 : ∀ (x3 : Int) (τ : SS), rI x3 → self69 x3 τ = some out → K ad n nl 0 0 69 [(0, .ref (ad 61)), (1, .int (vI x1)), (3, .int (vI x3))] [] τ) (s0 : SS) (rx1 : rI x1) (rx3 : rI x3) (hf : j_Fi_layIfLong_107 self69 x1 x3 s0 = some out) : K ad n nl 0 0 107 [(0, .ref (ad 61)), (1, .int (vI x1)), (3, .int (vI x3))] [.ref (ad 61)] s0 := by
  unfold j_Fi_layIfLong_107 at hf
  refine r_rS h (fun hs0 => ?_)
  refine r_iconst h dX1_layIfLong_107 ?_
  exact b_Fi_layIfLong_108 h hr hw ht x1 x3 0 self69 hself69 s0 rx1 rx3 (rIc rfl) hf
set_option maxRecDepth 20000 in
theorem b_Fi_layIfLong_69 {l : Launch} {D : va_G} {cs : Nat → ClassId} {aS aV : Nat} {A : Nat → Prop} {K : KT} {ad : Nat → Nat} {n : Nat} {nl : Nat → Nat → Bool} {out : Int × SS} (h : w_Cl l rm_Fi_layIfLong D cs aS aV A cX1_layIfLong 5 RX1 "layIfLong" K) (hr : w_Rt 2 cX1_layIfLong 0 0 (w_Po ad n nl out) K) (hw : w_WH n nl) (ht : 61 < n) {y1 : Int} (ry1 : rI y1) : ∀ (fu : Nat) (x3 : Int) (s0 : SS), rI x3 → l_Fi_layIfLong_69 y1 fu x3 s0 = some out → K ad n nl 0 0 69 [(0, .ref (ad 61)), (1, .int (vI y1)), (3, .int (vI x3))] [] s0 := by
  intro fu
  induction fu with
  | zero =>
    intro x3 s0 rx3 hf
    rw [l_Fi_layIfLong_69] at hf
    cases hf
  | succ fu ih =>
    intro x3 s0 rx3 hf
    rw [l_Fi_layIfLong_69] at hf
    refine r_rS h (fun hs0 => ?_)
    refine r_iload_n h dX1_layIfLong_69 rfl 2 rfl ?_
    refine r_iconst h dX1_layIfLong_70 ?_
    refine r_icmp_ge (tgt := 117) h dX1_layIfLong_71 (by decide) rx3 (rIc rfl) (fun hc1 => ?_) (fun hc1 => ?_)
    · have hf := ite_t hc1 hf
      refine r_iconst h dX1_layIfLong_117 ?_
      exact r_ret2 hr dX1_layIfLong_118 (Or.inr rfl) hf
    · have hf := ite_f hc1 hf
      refine r_iload_n h dX1_layIfLong_74 rfl 1 rfl ?_
      refine r_iload_n h dX1_layIfLong_75 rfl 2 rfl ?_
      obtain ⟨r2, s2, hq2, hf⟩ := ob_some hf
      refine r_callS1 h [.int (vI y1), .int (vI x3)] dX1_layIfLong_76 (fun hs => m_Fi_temperAt hw ry1 rx3 hs hq2) ml_X1_250 cv_Fi_temperAt rfl ⟨rfl, rfl⟩ ⟨Nat.le_of_ble_eq_true rfl, Nat.le_of_ble_eq_true rfl⟩ ⟨Nat.le_of_ble_eq_true rfl, Nat.le_of_ble_eq_true rfl⟩ (Nat.le_of_ble_eq_true rfl) rfl (fun hr2 hs2 => ?_)
      refine r_istore h [(4, .int (vI r2)), (0, .ref (ad 61)), (1, .int (vI y1)), (3, .int (vI x3))] dX1_layIfLong_79 (by decide) rfl ?_
      refine r_aload_n h dX1_layIfLong_81 rfl 1 rfl ?_
      refine r_iload h dX1_layIfLong_82 0 rfl ?_
      refine r_if_lt (tgt := 107) h dX1_layIfLong_84 (by decide) hr2 (fun hc3 => ?_) (fun hc3 => ?_)
      · have hf := ite_t hc3 hf
        refine r_sub h [1, 2, 3] rfl ?_
        exact b_Fi_layIfLong_107 h hr hw ht y1 x3 (l_Fi_layIfLong_69 y1 fu) ih s2 ry1 rx3 hf
      · have hf := ite_f hc3 hf
        refine r_iload h dX1_layIfLong_87 0 rfl ?_
        refine r_aload_n h dX1_layIfLong_89 rfl 1 rfl ?_
        have hq4 := w_ref hw ht rC_61 (by decide) (k := 10) (by decide) rf_1_10
        refine g_X1_31 h dX1_layIfLong_90 ht rC_61 hq4.1 ?_
        refine r_alen (N := 12) h dX1_layIfLong_93 hq4.2 rC_69 (Or.inr (Or.inl rfl)) (by rw [rN_69]; rfl) ?_
        refine r_icmp_ge (tgt := 107) h dX1_layIfLong_94 (by decide) hr2 (rIc rfl) (fun hc5 => ?_) (fun hc5 => ?_)
        · have hf := ite_t hc5 hf
          refine r_sub h [1, 2, 3] rfl ?_
          exact b_Fi_layIfLong_107 h hr hw ht y1 x3 (l_Fi_layIfLong_69 y1 fu) ih s2 ry1 rx3 hf
        · have hf := ite_f hc5 hf
          refine r_aload_n h dX1_layIfLong_97 rfl 1 rfl ?_
          have hq6 := w_ref hw ht rC_61 (by decide) (k := 10) (by decide) rf_1_10
          refine g_X1_31 h dX1_layIfLong_98 ht rC_61 hq6.1 ?_
          refine r_iload h dX1_layIfLong_101 0 rfl ?_
          obtain ⟨hi7, hf⟩ := oc_some hf
          refine r_iald h dX1_layIfLong_103 hq6.2 rC_69 hr2 (N := 12) (by rw [rN_69]; rfl) (j := (r2).toNat) rfl hi7 ?_
          refine r_goto (tgt := 108) h dX1_layIfLong_104 (by decide) ?_
          refine r_sub h [1, 2, 3] rfl ?_
          exact b_Fi_layIfLong_108 h hr hw ht y1 x3 (gi s2 69 ((r2).toNat)) (l_Fi_layIfLong_69 y1 fu) ih s2 ry1 rx3 (hs2.1 _ _) hf
set_option maxRecDepth 20000 in
theorem m_Fi_layIfLong {l : Launch} {D : va_G} {cs : Nat → ClassId} {aS aV : Nat} {A : Nat → Prop} {ad : Nat → Nat} {n : Nat} {nl : Nat → Nat → Bool} {out : Int × SS} (hw : w_WH n nl) (ht : 61 < n) {a1 : Int} (ra1 : rI a1) {a2 : Int} (ra2 : rI a2) {s0 : SS} (hs0 : rS s0) (hf : f_Fi_layIfLong a1 a2 s0 = some out) : w_MC l D cs aS aV A yX1_layIfLong cX1_layIfLong 5 2 rm_Fi_layIfLong ad n nl [.ref (ad 61), .int (vI a1), .int (vI a2)] s0 (w_Po ad n nl out) := by
  refine w_MC_of (by decide +kernel) (by decide) hs0 (Nat.le_of_ble_eq_true rfl) (fun K h hr => ?_)
  refine r_lv (lv' := [(0, .ref (ad 61)), (1, .int (vI a1)), (2, .int (vI a2))]) rfl ?_
  unfold f_Fi_layIfLong at hf
  refine r_rS h (fun hs0 => ?_)
  refine r_iload_n h dX1_layIfLong_0 rfl 2 rfl ?_
  refine r_aload_n h dX1_layIfLong_1 rfl 0 rfl ?_
  have hq1 := w_ref hw ht rC_61 (by decide) (k := 11) (by decide) rf_1_11
  refine g_X1_34 h dX1_layIfLong_2 ht rC_61 hq1.1 ?_
  refine r_iconst h dX1_layIfLong_5 ?_
  refine r_iald h dX1_layIfLong_6 hq1.2 rC_70 (rIc rfl) (N := 4) (by rw [rN_70]; rfl) (j := 3) rfl (by decide) ?_
  refine r_icmp_lt (tgt := 20) h dX1_layIfLong_7 (by decide) ra2 (hs0.1 _ _) (fun hc2 => ?_) (fun hc2 => ?_)
  · have hf := ite_t hc2 hf
    refine r_iconst h dX1_layIfLong_20 ?_
    exact r_ret2 hr dX1_layIfLong_21 (Or.inl rfl) hf
  · have hf := ite_f hc2 hf
    refine r_iload_n h dX1_layIfLong_10 rfl 2 rfl ?_
    refine r_aload_n h dX1_layIfLong_11 rfl 0 rfl ?_
    have hq3 := w_ref hw ht rC_61 (by decide) (k := 12) (by decide) rf_1_12
    refine g_X1_37 h dX1_layIfLong_12 ht rC_61 hq3.1 ?_
    refine r_iconst h dX1_layIfLong_15 ?_
    refine r_iald h dX1_layIfLong_16 hq3.2 rC_71 (rIc rfl) (N := 4) (by rw [rN_71]; rfl) (j := 3) rfl (by decide) ?_
    refine r_icmp_le (tgt := 22) h dX1_layIfLong_17 (by decide) ra2 (hs0.1 _ _) (fun hc4 => ?_) (fun hc4 => ?_)
    · have hf := ite_t hc4 hf
      refine r_aload_n h dX1_layIfLong_22 rfl 0 rfl ?_
      refine r_iload_n h dX1_layIfLong_23 rfl 1 rfl ?_
      refine r_iconst h dX1_layIfLong_24 ?_
      refine r_iload_n h dX1_layIfLong_25 rfl 2 rfl ?_
      obtain ⟨r5, s5, hq5, hf⟩ := ob_some hf
      refine r_callV0 h [.int (vI a1), .int (vI 3), .int (vI a2)] dX1_layIfLong_26 (fun hs => m_Fi_tryTemper hw ht ra1 (rIc rfl) ra2 hs hq5) ml_X1_256 cv_Fi_tryTemper rfl (co := 1) rfl (by decide) ht rC_61 ⟨rfl, rfl⟩ ⟨Nat.le_of_ble_eq_true rfl, Nat.le_of_ble_eq_true rfl⟩ ⟨Nat.le_of_ble_eq_true rfl, Nat.le_of_ble_eq_true rfl⟩ (Nat.le_of_ble_eq_true rfl) rfl (fun hr5 hs5 => ?_)
      refine r_aload_n h dX1_layIfLong_29 rfl 0 rfl ?_
      have hq6 := w_ref hw ht rC_61 (by decide) (k := 2) (by decide) rf_1_2
      refine g_X1_61 h dX1_layIfLong_30 ht rC_61 hq6.1 ?_
      have hq7c := rf_8_1 _ rC_75
      have hq7 := w_ref hw hq6.2 rC_75 (by decide) (k := 1) (by decide) hq7c.1
      refine g_X1_149 h dX1_layIfLong_33 hq6.2 rC_75 hq7.1 ?_
      refine r_st (st0 := [.ref (ad 76)]) rfl ?_
      refine r_iload_n h dX1_layIfLong_36 rfl 1 rfl ?_
      obtain ⟨r8, s8, hq8, hf⟩ := ob_some hf
      refine r_callV0 h [.int (vI a1)] dX1_layIfLong_37 (fun hs => m_Ta_begin hw hq7.2 rC_76 ra1 hs hq8) ml_X1_153 cv_Ta_begin rfl (co := 9) rfl (by decide) hq7.2 rC_76 ⟨rfl, rfl⟩ ⟨Nat.le_of_ble_eq_true rfl, Nat.le_of_ble_eq_true rfl⟩ ⟨Nat.le_of_ble_eq_true rfl, Nat.le_of_ble_eq_true rfl⟩ (Nat.le_of_ble_eq_true rfl) rfl (fun hr8 hs8 => ?_)
      refine r_aload_n h dX1_layIfLong_40 rfl 0 rfl ?_
      have hq9 := w_ref hw ht rC_61 (by decide) (k := 2) (by decide) rf_1_2
      refine g_X1_61 h dX1_layIfLong_41 ht rC_61 hq9.1 ?_
      have hq10c := rf_8_1 _ rC_75
      have hq10 := w_ref hw hq9.2 rC_75 (by decide) (k := 1) (by decide) hq10c.1
      refine g_X1_149 h dX1_layIfLong_44 hq9.2 rC_75 hq10.1 ?_
      refine r_st (st0 := [.ref (ad 76)]) rfl ?_
      refine r_aload_n h dX1_layIfLong_47 rfl 0 rfl ?_
      have hq11 := w_ref hw ht rC_61 (by decide) (k := 10) (by decide) rf_1_10
      refine g_X1_31 h dX1_layIfLong_48 ht rC_61 hq11.1 ?_
      refine r_aload_n h dX1_layIfLong_51 rfl 0 rfl ?_
      refine g_X1_225 h dX1_layIfLong_52 ht rC_61 ?_
      obtain ⟨r12, s12, hq12, hf⟩ := ob_some hf
      refine r_callV1 h [.ref (ad 69), .int (vI (gi s8 61 13))] dX1_layIfLong_55 (fun hs => m_Ta_talkOpenly hw hq10.2 rC_76 hq11.2 rC_69 (hs8.1 _ _) hs hq12) ml_X1_189 cv_Ta_talkOpenly rfl (co := 9) rfl (by decide) hq10.2 rC_76 ⟨rfl, rfl⟩ ⟨Nat.le_of_ble_eq_true rfl, Nat.le_of_ble_eq_true rfl⟩ ⟨Nat.le_of_ble_eq_true rfl, Nat.le_of_ble_eq_true rfl⟩ (Nat.le_of_ble_eq_true rfl) rfl (fun hr12 hs12 => ?_)
      refine r_aload_n h dX1_layIfLong_58 rfl 0 rfl ?_
      refine g_X1_225 h dX1_layIfLong_59 ht rC_61 ?_
      refine r_icmp_eq (tgt := 67) h dX1_layIfLong_62 (by decide) hr12 (hs12.1 _ _) (fun hc13 => ?_) (fun hc13 => ?_)
      · have hf := ite_t hc13 hf
        refine r_iconst h dX1_layIfLong_67 ?_
        refine r_istore_n h [(3, .int (vI 0)), (0, .ref (ad 61)), (1, .int (vI a1)), (2, .int (vI a2))] dX1_layIfLong_68 rfl (by decide) rfl ?_
        refine r_sub h [1, 2, 0] rfl ?_
        exact b_Fi_layIfLong_69 h hr hw ht ra1 FU 0 s12 (rIc rfl) hf
      · have hf := ite_f hc13 hf
        refine r_iconst h dX1_layIfLong_65 ?_
        exact r_ret2 hr dX1_layIfLong_66 (Or.inl rfl) hf
    · have hf := ite_f hc4 hf
      refine r_iconst h dX1_layIfLong_20 ?_
      exact r_ret2 hr dX1_layIfLong_21 (Or.inl rfl) hf
set_option maxRecDepth 20000 in
theorem b_Fi_layChanged_81 {l : Launch} {D : va_G} {cs : Nat → ClassId} {aS aV : Nat} {A : Nat → Prop} {K : KT} {ad : Nat → Nat} {n : Nat} {nl : Nat → Nat → Bool} {out : Int × SS} (h : w_Cl l rm_Fi_layChanged D cs aS aV A cX1_layChanged 10 RX1 "layChanged" K) (hr : w_Rt 2 cX1_layChanged 0 0 (w_Po ad n nl out) K) (hw : w_WH n nl) (ht : 61 < n) {y1 : Int} (ry1 : rI y1) {y2 : Int} (ry2 : rI y2) {y3 : Int} (ry3 : rI y3) {y4 : Int} (ry4 : rI y4) {y5 : Int} (ry5 : rI y5) {y6 : Int} (ry6 : rI y6) (self7 : Int → SS → OO) (hself7 : ∀ (x3 : Int) (τ : SS), rI x3 → self7 x3 τ = some out → K ad n nl 0 0 7 [(0, .ref (ad 61)), (1, .int (vI y1)), (2, .int (vI y2)), (3, .int (vI x3))] [] τ) (self40 : Int → SS → OO) (hself40 : ∀ (x5 : Int) (τ : SS), rI x5 → self40 x5 τ = some out → K ad n nl 0 0 40 [(0, .ref (ad 61)), (1, .int (vI y1)), (2, .int (vI y2)), (3, .int (vI y3)), (4, .int (vI y4)), (5, .int (vI x5))] [] τ) : ∀ (fu : Nat) (x7 : Int) (s0 : SS), rI x7 → l_Fi_layChanged_81 self7 self40 y1 y2 y3 y4 y5 y6 fu x7 s0 = some out → K ad n nl 0 0 81 [(0, .ref (ad 61)), (1, .int (vI y1)), (2, .int (vI y2)), (3, .int (vI y3)), (4, .int (vI y4)), (5, .int (vI y5)), (6, .int (vI y6)), (7, .int (vI x7))] [] s0 := by
  intro fu
  induction fu with
  | zero =>
    intro x7 s0 rx7 hf
    rw [l_Fi_layChanged_81] at hf
    cases hf
  | succ fu ih =>
    intro x7 s0 rx7 hf
    rw [l_Fi_layChanged_81] at hf
    refine r_rS h (fun hs0 => ?_)
    refine r_iload h dX1_layChanged_81 7 rfl ?_
    refine r_aload_n h dX1_layChanged_83 rfl 0 rfl ?_
    have hq1 := w_ref hw ht rC_61 (by decide) (k := 12) (by decide) rf_1_12
    refine g_X1_37 h dX1_layChanged_84 ht rC_61 hq1.1 ?_
    refine r_iconst h dX1_layChanged_87 ?_
    refine r_iald h dX1_layChanged_88 hq1.2 rC_71 (rIc rfl) (N := 4) (by rw [rN_71]; rfl) (j := 2) rfl (by decide) ?_
    refine r_icmp_gt (tgt := 184) h dX1_layChanged_89 (by decide) rx7 (hs0.1 _ _) (fun hc2 => ?_) (fun hc2 => ?_)
    · have hf := ite_t hc2 hf
      refine r_iinc h [(5, .int (vI (iw (y5 + 1)))), (0, .ref (ad 61)), (1, .int (vI y1)), (2, .int (vI y2)), (3, .int (vI y3)), (4, .int (vI y4)), (6, .int (vI y6)), (7, .int (vI x7))] dX1_layChanged_184 5 rfl (by decide) rfl ?_
      refine r_goto (tgt := 40) h dX1_layChanged_187 (by decide) ?_
      refine r_sub h [1, 2, 3, 4, 5, 0] rfl ?_
      exact hself40 (iw (y5 + 1)) s0 (rI_iw _) hf
    · have hf := ite_f hc2 hf
      refine r_iload h dX1_layChanged_92 6 rfl ?_
      refine r_if_lt (tgt := 184) h dX1_layChanged_94 (by decide) ry6 (fun hc3 => ?_) (fun hc3 => ?_)
      · have hf := ite_t hc3 hf
        refine r_iinc h [(5, .int (vI (iw (y5 + 1)))), (0, .ref (ad 61)), (1, .int (vI y1)), (2, .int (vI y2)), (3, .int (vI y3)), (4, .int (vI y4)), (6, .int (vI y6)), (7, .int (vI x7))] dX1_layChanged_184 5 rfl (by decide) rfl ?_
        refine r_goto (tgt := 40) h dX1_layChanged_187 (by decide) ?_
        refine r_sub h [1, 2, 3, 4, 5, 0] rfl ?_
        exact hself40 (iw (y5 + 1)) s0 (rI_iw _) hf
      · have hf := ite_f hc3 hf
        refine r_iload h dX1_layChanged_97 6 rfl ?_
        refine r_iload h dX1_layChanged_99 7 rfl ?_
        refine r_aload_n h dX1_layChanged_101 rfl 0 rfl ?_
        refine r_iload_n h dX1_layChanged_102 rfl 1 rfl ?_
        refine r_iconst h dX1_layChanged_103 ?_
        obtain ⟨r4, s4, hq4, hf⟩ := ob_some hf
        refine r_callV1 h [.int (vI y1), .int (vI 2)] dX1_layChanged_104 (fun hs => m_Fi_temperNow hw ht ry1 (rIc rfl) hs hq4) ml_X1_247 cv_Fi_temperNow rfl (co := 1) rfl (by decide) ht rC_61 ⟨rfl, rfl⟩ ⟨Nat.le_of_ble_eq_true rfl, Nat.le_of_ble_eq_true rfl⟩ ⟨Nat.le_of_ble_eq_true rfl, Nat.le_of_ble_eq_true rfl⟩ (Nat.le_of_ble_eq_true rfl) rfl (fun hr4 hs4 => ?_)
        refine r_isub h dX1_layChanged_107 ?_
        refine r_mabs h dX1_layChanged_108 (gt_in5 207 rfl rfl) ms_mabs.1 ms_mabs.2.1 ms_mabs.2.2 (Nat.le_of_ble_eq_true rfl) (Nat.le_of_ble_eq_true rfl) (Nat.le_of_ble_eq_true rfl) (Nat.le_of_ble_eq_true rfl) (rI_iw _) ?_
        refine r_isub h dX1_layChanged_111 ?_
        refine r_ol hf (rI_iw _) (fun x5_ rx5_ hf => ?_)
        refine r_istore h [(8, .int (vI x5_)), (0, .ref (ad 61)), (1, .int (vI y1)), (2, .int (vI y2)), (3, .int (vI y3)), (4, .int (vI y4)), (5, .int (vI y5)), (6, .int (vI y6)), (7, .int (vI x7))] dX1_layChanged_112 (by decide) rfl ?_
        refine r_aload_n h dX1_layChanged_114 rfl 1 rfl ?_
        refine r_iload_n h dX1_layChanged_115 rfl 2 rfl ?_
        refine r_iconst h dX1_layChanged_116 ?_
        obtain ⟨r6, s6, hq6, hf⟩ := ob_some hf
        refine r_callV1 h [.int (vI y1), .int (vI 3)] dX1_layChanged_117 (fun hs => m_Fi_temperNow hw ht ry1 (rIc rfl) hs hq6) ml_X1_247 cv_Fi_temperNow rfl (co := 1) rfl (by decide) ht rC_61 ⟨rfl, rfl⟩ ⟨Nat.le_of_ble_eq_true rfl, Nat.le_of_ble_eq_true rfl⟩ ⟨Nat.le_of_ble_eq_true rfl, Nat.le_of_ble_eq_true rfl⟩ (Nat.le_of_ble_eq_true rfl) rfl (fun hr6 hs6 => ?_)
        refine r_istore h [(9, .int (vI r6)), (8, .int (vI x5_)), (0, .ref (ad 61)), (1, .int (vI y1)), (2, .int (vI y2)), (3, .int (vI y3)), (4, .int (vI y4)), (5, .int (vI y5)), (6, .int (vI y6)), (7, .int (vI x7))] dX1_layChanged_120 (by decide) rfl ?_
        refine r_aload_n h dX1_layChanged_122 rfl 2 rfl ?_
        refine r_iload_n h dX1_layChanged_123 rfl 3 rfl ?_
        refine r_iconst h dX1_layChanged_124 ?_
        refine r_iload_n h dX1_layChanged_125 rfl 5 rfl ?_
        obtain ⟨r7, s7, hq7, hf⟩ := ob_some hf
        refine r_callV0 h [.int (vI y1), .int (vI 0), .int (vI y3)] dX1_layChanged_126 (fun hs => m_Fi_tryTemper hw ht ry1 (rIc rfl) ry3 hs hq7) ml_X1_256 cv_Fi_tryTemper rfl (co := 1) rfl (by decide) ht rC_61 ⟨rfl, rfl⟩ ⟨Nat.le_of_ble_eq_true rfl, Nat.le_of_ble_eq_true rfl⟩ ⟨Nat.le_of_ble_eq_true rfl, Nat.le_of_ble_eq_true rfl⟩ (Nat.le_of_ble_eq_true rfl) rfl (fun hr7 hs7 => ?_)
        refine r_aload_n h dX1_layChanged_129 rfl 2 rfl ?_
        refine r_iload_n h dX1_layChanged_130 rfl 3 rfl ?_
        refine r_iconst h dX1_layChanged_131 ?_
        refine r_iload h dX1_layChanged_132 7 rfl ?_
        obtain ⟨r8, s8, hq8, hf⟩ := ob_some hf
        refine r_callV0 h [.int (vI y1), .int (vI 1), .int (vI y5)] dX1_layChanged_134 (fun hs => m_Fi_tryTemper hw ht ry1 (rIc rfl) ry5 hs hq8) ml_X1_256 cv_Fi_tryTemper rfl (co := 1) rfl (by decide) ht rC_61 ⟨rfl, rfl⟩ ⟨Nat.le_of_ble_eq_true rfl, Nat.le_of_ble_eq_true rfl⟩ ⟨Nat.le_of_ble_eq_true rfl, Nat.le_of_ble_eq_true rfl⟩ (Nat.le_of_ble_eq_true rfl) rfl (fun hr8 hs8 => ?_)
        refine r_aload_n h dX1_layChanged_137 rfl 2 rfl ?_
        refine r_iload_n h dX1_layChanged_138 rfl 3 rfl ?_
        refine r_iconst h dX1_layChanged_139 ?_
        refine r_iload h dX1_layChanged_140 9 rfl ?_
        obtain ⟨r9, s9, hq9, hf⟩ := ob_some hf
        refine r_callV0 h [.int (vI y1), .int (vI 2), .int (vI x7)] dX1_layChanged_142 (fun hs => m_Fi_tryTemper hw ht ry1 (rIc rfl) rx7 hs hq9) ml_X1_256 cv_Fi_tryTemper rfl (co := 1) rfl (by decide) ht rC_61 ⟨rfl, rfl⟩ ⟨Nat.le_of_ble_eq_true rfl, Nat.le_of_ble_eq_true rfl⟩ ⟨Nat.le_of_ble_eq_true rfl, Nat.le_of_ble_eq_true rfl⟩ (Nat.le_of_ble_eq_true rfl) rfl (fun hr9 hs9 => ?_)
        refine r_iload h dX1_layChanged_145 1 rfl ?_
        refine r_if_lt (tgt := 178) h dX1_layChanged_147 (by decide) rx5_ (fun hc10 => ?_) (fun hc10 => ?_)
        · have hf := ite_t hc10 hf
          refine r_iinc h [(7, .int (vI (iw (x7 + 1)))), (9, .int (vI r6)), (8, .int (vI x5_)), (0, .ref (ad 61)), (1, .int (vI y1)), (2, .int (vI y2)), (3, .int (vI y3)), (4, .int (vI y4)), (5, .int (vI y5)), (6, .int (vI y6))] dX1_layChanged_178 9 rfl (by decide) rfl ?_
          refine r_goto (tgt := 81) h dX1_layChanged_181 (by decide) ?_
          refine r_sub h [3, 4, 5, 6, 7, 8, 9, 0] rfl ?_
          exact ih (iw (x7 + 1)) s9 (rI_iw _) hf
        · have hf := ite_f hc10 hf
          refine r_aload_n h dX1_layChanged_150 rfl 2 rfl ?_
          refine r_iload_n h dX1_layChanged_151 rfl 3 rfl ?_
          refine r_iload h dX1_layChanged_152 0 rfl ?_
          refine r_iload h dX1_layChanged_154 1 rfl ?_
          refine r_isub h dX1_layChanged_156 ?_
          obtain ⟨r11, s11, hq11, hf⟩ := ob_some hf
          refine r_callV2 h [.int (vI y1), .int (vI (iw (r6 - x5_)))] dX1_layChanged_157 (fun hs => m_Fi_layIfLong hw ht ry1 (rI_iw _) hs hq11) ml_X1_260 cv_Fi_layIfLong rfl (co := 1) rfl (by decide) ht rC_61 ⟨rfl, rfl⟩ ⟨Nat.le_of_ble_eq_true rfl, Nat.le_of_ble_eq_true rfl⟩ ⟨Nat.le_of_ble_eq_true rfl, Nat.le_of_ble_eq_true rfl⟩ (Nat.le_of_ble_eq_true rfl) rfl (fun hr11 hs11 => ?_)
          refine r_if_ne (tgt := 176) h dX1_layChanged_160 (by decide) (rI_b hr11) (fun hc12 => ?_) (fun hc12 => ?_)
          · have hf := ite_f hc12 hf
            refine r_iconst h dX1_layChanged_176 ?_
            exact r_ret2 hr dX1_layChanged_177 (Or.inr rfl) hf
          · have hf := ite_nf hc12 hf
            refine r_aload_n h dX1_layChanged_163 rfl 2 rfl ?_
            refine r_iload_n h dX1_layChanged_164 rfl 3 rfl ?_
            refine r_iload h dX1_layChanged_165 0 rfl ?_
            refine r_iload h dX1_layChanged_167 1 rfl ?_
            refine r_iadd h dX1_layChanged_169 ?_
            obtain ⟨r13, s13, hq13, hf⟩ := ob_some hf
            refine r_callV2 h [.int (vI y1), .int (vI (iw (r6 + x5_)))] dX1_layChanged_170 (fun hs => m_Fi_layIfLong hw ht ry1 (rI_iw _) hs hq13) ml_X1_260 cv_Fi_layIfLong rfl (co := 1) rfl (by decide) ht rC_61 ⟨rfl, rfl⟩ ⟨Nat.le_of_ble_eq_true rfl, Nat.le_of_ble_eq_true rfl⟩ ⟨Nat.le_of_ble_eq_true rfl, Nat.le_of_ble_eq_true rfl⟩ (Nat.le_of_ble_eq_true rfl) rfl (fun hr13 hs13 => ?_)
            refine r_if_eq (tgt := 178) h dX1_layChanged_173 (by decide) (rI_b hr13) (fun hc14 => ?_) (fun hc14 => ?_)
            · have hf := ite_t hc14 hf
              refine r_iinc h [(7, .int (vI (iw (x7 + 1)))), (9, .int (vI r6)), (8, .int (vI x5_)), (0, .ref (ad 61)), (1, .int (vI y1)), (2, .int (vI y2)), (3, .int (vI y3)), (4, .int (vI y4)), (5, .int (vI y5)), (6, .int (vI y6))] dX1_layChanged_178 9 rfl (by decide) rfl ?_
              refine r_goto (tgt := 81) h dX1_layChanged_181 (by decide) ?_
              refine r_sub h [3, 4, 5, 6, 7, 8, 9, 0] rfl ?_
              exact ih (iw (x7 + 1)) s13 (rI_iw _) hf
            · have hf := ite_f hc14 hf
              refine r_iconst h dX1_layChanged_176 ?_
              exact r_ret2 hr dX1_layChanged_177 (Or.inr rfl) hf
set_option maxRecDepth 20000 in
theorem b_Fi_layChanged_40 {l : Launch} {D : va_G} {cs : Nat → ClassId} {aS aV : Nat} {A : Nat → Prop} {K : KT} {ad : Nat → Nat} {n : Nat} {nl : Nat → Nat → Bool} {out : Int × SS} (h : w_Cl l rm_Fi_layChanged D cs aS aV A cX1_layChanged 10 RX1 "layChanged" K) (hr : w_Rt 2 cX1_layChanged 0 0 (w_Po ad n nl out) K) (hw : w_WH n nl) (ht : 61 < n) {y1 : Int} (ry1 : rI y1) {y2 : Int} (ry2 : rI y2) {y3 : Int} (ry3 : rI y3) {y4 : Int} (ry4 : rI y4) (self7 : Int → SS → OO) (hself7 : ∀ (x3 : Int) (τ : SS), rI x3 → self7 x3 τ = some out → K ad n nl 0 0 7 [(0, .ref (ad 61)), (1, .int (vI y1)), (2, .int (vI y2)), (3, .int (vI x3))] [] τ) : ∀ (fu : Nat) (x5 : Int) (s0 : SS), rI x5 → l_Fi_layChanged_40 self7 y1 y2 y3 y4 fu x5 s0 = some out → K ad n nl 0 0 40 [(0, .ref (ad 61)), (1, .int (vI y1)), (2, .int (vI y2)), (3, .int (vI y3)), (4, .int (vI y4)), (5, .int (vI x5))] [] s0 := by
  intro fu
  induction fu with
  | zero =>
    intro x5 s0 rx5 hf
    rw [l_Fi_layChanged_40] at hf
    cases hf
  | succ fu ih =>
    intro x5 s0 rx5 hf
    rw [l_Fi_layChanged_40] at hf
    refine r_rS h (fun hs0 => ?_)
    refine r_iload h dX1_layChanged_40 5 rfl ?_
    refine r_aload_n h dX1_layChanged_42 rfl 0 rfl ?_
    have hq1 := w_ref hw ht rC_61 (by decide) (k := 12) (by decide) rf_1_12
    refine g_X1_37 h dX1_layChanged_43 ht rC_61 hq1.1 ?_
    refine r_iconst h dX1_layChanged_46 ?_
    refine r_iald h dX1_layChanged_47 hq1.2 rC_71 (rIc rfl) (N := 4) (by rw [rN_71]; rfl) (j := 1) rfl (by decide) ?_
    refine r_icmp_gt (tgt := 190) h dX1_layChanged_48 (by decide) rx5 (hs0.1 _ _) (fun hc2 => ?_) (fun hc2 => ?_)
    · have hf := ite_t hc2 hf
      refine r_iinc h [(3, .int (vI (iw (y3 + 1)))), (0, .ref (ad 61)), (1, .int (vI y1)), (2, .int (vI y2)), (4, .int (vI y4)), (5, .int (vI x5))] dX1_layChanged_190 3 rfl (by decide) rfl ?_
      refine r_goto (tgt := 7) h dX1_layChanged_193 (by decide) ?_
      refine r_sub h [1, 2, 3, 0] rfl ?_
      exact hself7 (iw (y3 + 1)) s0 (rI_iw _) hf
    · have hf := ite_f hc2 hf
      refine r_iload h dX1_layChanged_51 4 rfl ?_
      refine r_if_lt (tgt := 190) h dX1_layChanged_53 (by decide) ry4 (fun hc3 => ?_) (fun hc3 => ?_)
      · have hf := ite_t hc3 hf
        refine r_iinc h [(3, .int (vI (iw (y3 + 1)))), (0, .ref (ad 61)), (1, .int (vI y1)), (2, .int (vI y2)), (4, .int (vI y4)), (5, .int (vI x5))] dX1_layChanged_190 3 rfl (by decide) rfl ?_
        refine r_goto (tgt := 7) h dX1_layChanged_193 (by decide) ?_
        refine r_sub h [1, 2, 3, 0] rfl ?_
        exact hself7 (iw (y3 + 1)) s0 (rI_iw _) hf
      · have hf := ite_f hc3 hf
        refine r_iload h dX1_layChanged_56 4 rfl ?_
        refine r_iload h dX1_layChanged_58 5 rfl ?_
        refine r_aload_n h dX1_layChanged_60 rfl 0 rfl ?_
        refine r_iload_n h dX1_layChanged_61 rfl 1 rfl ?_
        refine r_iconst h dX1_layChanged_62 ?_
        obtain ⟨r4, s4, hq4, hf⟩ := ob_some hf
        refine r_callV1 h [.int (vI y1), .int (vI 1)] dX1_layChanged_63 (fun hs => m_Fi_temperNow hw ht ry1 (rIc rfl) hs hq4) ml_X1_247 cv_Fi_temperNow rfl (co := 1) rfl (by decide) ht rC_61 ⟨rfl, rfl⟩ ⟨Nat.le_of_ble_eq_true rfl, Nat.le_of_ble_eq_true rfl⟩ ⟨Nat.le_of_ble_eq_true rfl, Nat.le_of_ble_eq_true rfl⟩ (Nat.le_of_ble_eq_true rfl) rfl (fun hr4 hs4 => ?_)
        refine r_isub h dX1_layChanged_66 ?_
        refine r_mabs h dX1_layChanged_67 (gt_in5 207 rfl rfl) ms_mabs.1 ms_mabs.2.1 ms_mabs.2.2 (Nat.le_of_ble_eq_true rfl) (Nat.le_of_ble_eq_true rfl) (Nat.le_of_ble_eq_true rfl) (Nat.le_of_ble_eq_true rfl) (rI_iw _) ?_
        refine r_isub h dX1_layChanged_70 ?_
        refine r_ol hf (rI_iw _) (fun x5_ rx5_ hf => ?_)
        refine r_istore h [(6, .int (vI x5_)), (0, .ref (ad 61)), (1, .int (vI y1)), (2, .int (vI y2)), (3, .int (vI y3)), (4, .int (vI y4)), (5, .int (vI x5))] dX1_layChanged_71 (by decide) rfl ?_
        refine r_aload_n h dX1_layChanged_73 rfl 1 rfl ?_
        have hq6 := w_ref hw ht rC_61 (by decide) (k := 11) (by decide) rf_1_11
        refine g_X1_34 h dX1_layChanged_74 ht rC_61 hq6.1 ?_
        refine r_iconst h dX1_layChanged_77 ?_
        refine r_iald h dX1_layChanged_78 hq6.2 rC_70 (rIc rfl) (N := 4) (by rw [rN_70]; rfl) (j := 2) rfl (by decide) ?_
        refine r_ol hf (hs4.1 _ _) (fun x7_ rx7_ hf => ?_)
        refine r_istore h [(7, .int (vI x7_)), (6, .int (vI x5_)), (0, .ref (ad 61)), (1, .int (vI y1)), (2, .int (vI y2)), (3, .int (vI y3)), (4, .int (vI y4)), (5, .int (vI x5))] dX1_layChanged_79 (by decide) rfl ?_
        refine r_sub h [2, 3, 4, 5, 6, 7, 1, 0] rfl ?_
        exact b_Fi_layChanged_81 h hr hw ht ry1 ry2 ry3 ry4 rx5 rx5_ self7 hself7 (l_Fi_layChanged_40 self7 y1 y2 y3 y4 fu) ih FU x7_ s4 rx7_ hf
set_option maxRecDepth 20000 in
theorem b_Fi_layChanged_7 {l : Launch} {D : va_G} {cs : Nat → ClassId} {aS aV : Nat} {A : Nat → Prop} {K : KT} {ad : Nat → Nat} {n : Nat} {nl : Nat → Nat → Bool} {out : Int × SS} (h : w_Cl l rm_Fi_layChanged D cs aS aV A cX1_layChanged 10 RX1 "layChanged" K) (hr : w_Rt 2 cX1_layChanged 0 0 (w_Po ad n nl out) K) (hw : w_WH n nl) (ht : 61 < n) {y1 : Int} (ry1 : rI y1) {y2 : Int} (ry2 : rI y2) : ∀ (fu : Nat) (x3 : Int) (s0 : SS), rI x3 → l_Fi_layChanged_7 y1 y2 fu x3 s0 = some out → K ad n nl 0 0 7 [(0, .ref (ad 61)), (1, .int (vI y1)), (2, .int (vI y2)), (3, .int (vI x3))] [] s0 := by
  intro fu
  induction fu with
  | zero =>
    intro x3 s0 rx3 hf
    rw [l_Fi_layChanged_7] at hf
    cases hf
  | succ fu ih =>
    intro x3 s0 rx3 hf
    rw [l_Fi_layChanged_7] at hf
    refine r_rS h (fun hs0 => ?_)
    refine r_iload_n h dX1_layChanged_7 rfl 3 rfl ?_
    refine r_aload_n h dX1_layChanged_8 rfl 0 rfl ?_
    have hq1 := w_ref hw ht rC_61 (by decide) (k := 12) (by decide) rf_1_12
    refine g_X1_37 h dX1_layChanged_9 ht rC_61 hq1.1 ?_
    refine r_iconst h dX1_layChanged_12 ?_
    refine r_iald h dX1_layChanged_13 hq1.2 rC_71 (rIc rfl) (N := 4) (by rw [rN_71]; rfl) (j := 0) rfl (by decide) ?_
    refine r_icmp_gt (tgt := 196) h dX1_layChanged_14 (by decide) rx3 (hs0.1 _ _) (fun hc2 => ?_) (fun hc2 => ?_)
    · have hf := ite_t hc2 hf
      refine r_iconst h dX1_layChanged_196 ?_
      exact r_ret2 hr dX1_layChanged_197 (Or.inl rfl) hf
    · have hf := ite_f hc2 hf
      refine r_iload_n h dX1_layChanged_17 rfl 2 rfl ?_
      refine r_iload_n h dX1_layChanged_18 rfl 3 rfl ?_
      refine r_aload_n h dX1_layChanged_19 rfl 0 rfl ?_
      refine r_iload_n h dX1_layChanged_20 rfl 1 rfl ?_
      refine r_iconst h dX1_layChanged_21 ?_
      obtain ⟨r3, s3, hq3, hf⟩ := ob_some hf
      refine r_callV1 h [.int (vI y1), .int (vI 0)] dX1_layChanged_22 (fun hs => m_Fi_temperNow hw ht ry1 (rIc rfl) hs hq3) ml_X1_247 cv_Fi_temperNow rfl (co := 1) rfl (by decide) ht rC_61 ⟨rfl, rfl⟩ ⟨Nat.le_of_ble_eq_true rfl, Nat.le_of_ble_eq_true rfl⟩ ⟨Nat.le_of_ble_eq_true rfl, Nat.le_of_ble_eq_true rfl⟩ (Nat.le_of_ble_eq_true rfl) rfl (fun hr3 hs3 => ?_)
      refine r_isub h dX1_layChanged_25 ?_
      refine r_mabs h dX1_layChanged_26 (gt_in5 207 rfl rfl) ms_mabs.1 ms_mabs.2.1 ms_mabs.2.2 (Nat.le_of_ble_eq_true rfl) (Nat.le_of_ble_eq_true rfl) (Nat.le_of_ble_eq_true rfl) (Nat.le_of_ble_eq_true rfl) (rI_iw _) ?_
      refine r_isub h dX1_layChanged_29 ?_
      refine r_ol hf (rI_iw _) (fun x4_ rx4_ hf => ?_)
      refine r_istore h [(4, .int (vI x4_)), (0, .ref (ad 61)), (1, .int (vI y1)), (2, .int (vI y2)), (3, .int (vI x3))] dX1_layChanged_30 (by decide) rfl ?_
      refine r_aload_n h dX1_layChanged_32 rfl 1 rfl ?_
      have hq5 := w_ref hw ht rC_61 (by decide) (k := 11) (by decide) rf_1_11
      refine g_X1_34 h dX1_layChanged_33 ht rC_61 hq5.1 ?_
      refine r_iconst h dX1_layChanged_36 ?_
      refine r_iald h dX1_layChanged_37 hq5.2 rC_70 (rIc rfl) (N := 4) (by rw [rN_70]; rfl) (j := 1) rfl (by decide) ?_
      refine r_ol hf (hs3.1 _ _) (fun x6_ rx6_ hf => ?_)
      refine r_istore h [(5, .int (vI x6_)), (4, .int (vI x4_)), (0, .ref (ad 61)), (1, .int (vI y1)), (2, .int (vI y2)), (3, .int (vI x3))] dX1_layChanged_38 (by decide) rfl ?_
      refine r_sub h [2, 3, 4, 5, 1, 0] rfl ?_
      exact b_Fi_layChanged_40 h hr hw ht ry1 ry2 rx3 rx4_ (l_Fi_layChanged_7 y1 y2 fu) ih FU x6_ s3 rx6_ hf
set_option maxRecDepth 20000 in
theorem m_Fi_layChanged {l : Launch} {D : va_G} {cs : Nat → ClassId} {aS aV : Nat} {A : Nat → Prop} {ad : Nat → Nat} {n : Nat} {nl : Nat → Nat → Bool} {out : Int × SS} (hw : w_WH n nl) (ht : 61 < n) {a1 : Int} (ra1 : rI a1) {a2 : Int} (ra2 : rI a2) {s0 : SS} (hs0 : rS s0) (hf : f_Fi_layChanged a1 a2 s0 = some out) : w_MC l D cs aS aV A yX1_layChanged cX1_layChanged 10 2 rm_Fi_layChanged ad n nl [.ref (ad 61), .int (vI a1), .int (vI a2)] s0 (w_Po ad n nl out) := by
  refine w_MC_of (by decide +kernel) (by decide) hs0 (Nat.le_of_ble_eq_true rfl) (fun K h hr => ?_)
  refine r_lv (lv' := [(0, .ref (ad 61)), (1, .int (vI a1)), (2, .int (vI a2))]) rfl ?_
  unfold f_Fi_layChanged at hf
  refine r_rS h (fun hs0 => ?_)
  refine r_aload_n h dX1_layChanged_0 rfl 0 rfl ?_
  have hq1 := w_ref hw ht rC_61 (by decide) (k := 11) (by decide) rf_1_11
  refine g_X1_34 h dX1_layChanged_1 ht rC_61 hq1.1 ?_
  refine r_iconst h dX1_layChanged_4 ?_
  refine r_iald h dX1_layChanged_5 hq1.2 rC_70 (rIc rfl) (N := 4) (by rw [rN_70]; rfl) (j := 0) rfl (by decide) ?_
  refine r_ol hf (hs0.1 _ _) (fun x2_ rx2_ hf => ?_)
  refine r_istore_n h [(3, .int (vI x2_)), (0, .ref (ad 61)), (1, .int (vI a1)), (2, .int (vI a2))] dX1_layChanged_6 rfl (by decide) rfl ?_
  refine r_sub h [1, 2, 3, 0] rfl ?_
  exact b_Fi_layChanged_7 h hr hw ht ra1 ra2 FU x2_ s0 rx2_ hf
set_option maxRecDepth 20000 in
theorem b_Fi_layTempers_35 {l : Launch} {D : va_G} {cs : Nat → ClassId} {aS aV : Nat} {A : Nat → Prop} {K : KT} {ad : Nat → Nat} {n : Nat} {nl : Nat → Nat → Bool} {out : Int × SS} (h : w_Cl l rm_Fi_layTempers D cs aS aV A cX1_layTempers 4 RX1 "layTempers" K) (hr : w_Rt 1 cX1_layTempers 0 0 (w_Po ad n nl out) K) (hw : w_WH n nl) (ht : 61 < n) {y1 : Int} (ry1 : rI y1) : ∀ (fu : Nat) (x3 : Int) (s0 : SS), rI x3 → l_Fi_layTempers_35 y1 fu x3 s0 = some out → K ad n nl 0 0 35 [(0, .ref (ad 61)), (1, .int (vI y1)), (3, .int (vI x3))] [] s0 := by
  intro fu
  induction fu with
  | zero =>
    intro x3 s0 rx3 hf
    rw [l_Fi_layTempers_35] at hf
    cases hf
  | succ fu ih =>
    intro x3 s0 rx3 hf
    rw [l_Fi_layTempers_35] at hf
    refine r_rS h (fun hs0 => ?_)
    refine r_iload_n h dX1_layTempers_35 rfl 2 rfl ?_
    refine r_bipush h dX1_layTempers_36 (by decide) ?_
    refine r_icmp_gt (tgt := 58) h dX1_layTempers_38 (by decide) rx3 (rIc rfl) (fun hc1 => ?_) (fun hc1 => ?_)
    · have hf := ite_t hc1 hf
      refine r_iconst h dX1_layTempers_58 ?_
      exact r_ret1 hr dX1_layTempers_59 (rIc rfl) hf
    · have hf := ite_f hc1 hf
      refine r_aload_n h dX1_layTempers_41 rfl 0 rfl ?_
      refine r_iload_n h dX1_layTempers_42 rfl 1 rfl ?_
      refine r_iload_n h dX1_layTempers_43 rfl 2 rfl ?_
      obtain ⟨r2, s2, hq2, hf⟩ := ob_some hf
      refine r_callV2 h [.int (vI y1), .int (vI x3)] dX1_layTempers_44 (fun hs => m_Fi_layChanged hw ht ry1 rx3 hs hq2) ml_X1_231 cv_Fi_layChanged rfl (co := 1) rfl (by decide) ht rC_61 ⟨rfl, rfl⟩ ⟨Nat.le_of_ble_eq_true rfl, Nat.le_of_ble_eq_true rfl⟩ ⟨Nat.le_of_ble_eq_true rfl, Nat.le_of_ble_eq_true rfl⟩ (Nat.le_of_ble_eq_true rfl) rfl (fun hr2 hs2 => ?_)
      refine r_if_eq (tgt := 52) h dX1_layTempers_47 (by decide) (rI_b hr2) (fun hc3 => ?_) (fun hc3 => ?_)
      · have hf := ite_t hc3 hf
        refine r_iinc h [(3, .int (vI (iw (x3 + 1)))), (0, .ref (ad 61)), (1, .int (vI y1))] dX1_layTempers_52 2 rfl (by decide) rfl ?_
        refine r_goto (tgt := 35) h dX1_layTempers_55 (by decide) ?_
        refine r_sub h [1, 2, 0] rfl ?_
        exact ih (iw (x3 + 1)) s2 (rI_iw _) hf
      · have hf := ite_f hc3 hf
        refine r_iload_n h dX1_layTempers_50 rfl 2 rfl ?_
        exact r_ret1 hr dX1_layTempers_51 rx3 hf
set_option maxRecDepth 20000 in
theorem m_Fi_layTempers {l : Launch} {D : va_G} {cs : Nat → ClassId} {aS aV : Nat} {A : Nat → Prop} {ad : Nat → Nat} {n : Nat} {nl : Nat → Nat → Bool} {out : Int × SS} (hw : w_WH n nl) (ht : 61 < n) {a1 : Int} (ra1 : rI a1) {a2 : Int} (ra2 : rI a2) {s0 : SS} (hs0 : rS s0) (hf : f_Fi_layTempers a1 a2 s0 = some out) : w_MC l D cs aS aV A yX1_layTempers cX1_layTempers 4 1 rm_Fi_layTempers ad n nl [.ref (ad 61), .int (vI a1), .int (vI a2)] s0 (w_Po ad n nl out) := by
  refine w_MC_of (by decide +kernel) (by decide) hs0 (Nat.le_of_ble_eq_true rfl) (fun K h hr => ?_)
  refine r_lv (lv' := [(0, .ref (ad 61)), (1, .int (vI a1)), (2, .int (vI a2))]) rfl ?_
  unfold f_Fi_layTempers at hf
  refine r_rS h (fun hs0 => ?_)
  refine r_aload_n h dX1_layTempers_0 rfl 0 rfl ?_
  obtain ⟨r1, s1, hq1, hf⟩ := ob_some hf
  refine r_callV0 h [] dX1_layTempers_1 (fun hs => m_Fi_layNothing hw ht hs hq1) ml_X1_69 cv_Fi_layNothing rfl (co := 1) rfl (by decide) ht rC_61 ⟨rfl, rfl⟩ ⟨Nat.le_of_ble_eq_true rfl, Nat.le_of_ble_eq_true rfl⟩ ⟨Nat.le_of_ble_eq_true rfl, Nat.le_of_ble_eq_true rfl⟩ (Nat.le_of_ble_eq_true rfl) rfl (fun hr1 hs1 => ?_)
  refine r_iload_n h dX1_layTempers_4 rfl 1 rfl ?_
  refine r_iconst h dX1_layTempers_5 ?_
  refine r_icmp_eq (tgt := 20) h dX1_layTempers_6 (by decide) ra1 (rIc rfl) (fun hc2 => ?_) (fun hc2 => ?_)
  · have hf := ite_t hc2 hf
    refine r_bipush h dX1_layTempers_20 (by decide) ?_
    exact r_ret1 hr dX1_layTempers_22 (rIc rfl) hf
  · have hf := ite_f hc2 hf
    refine r_iload_n h dX1_layTempers_9 rfl 2 rfl ?_
    refine r_iconst h dX1_layTempers_10 ?_
    refine r_icmp_lt (tgt := 20) h dX1_layTempers_11 (by decide) ra2 (rIc rfl) (fun hc3 => ?_) (fun hc3 => ?_)
    · have hf := ite_t hc3 hf
      refine r_bipush h dX1_layTempers_20 (by decide) ?_
      exact r_ret1 hr dX1_layTempers_22 (rIc rfl) hf
    · have hf := ite_f hc3 hf
      refine r_iload_n h dX1_layTempers_14 rfl 2 rfl ?_
      refine r_bipush h dX1_layTempers_15 (by decide) ?_
      refine r_icmp_le (tgt := 23) h dX1_layTempers_17 (by decide) ra2 (rIc rfl) (fun hc4 => ?_) (fun hc4 => ?_)
      · have hf := ite_t hc4 hf
        refine r_aload_n h dX1_layTempers_23 rfl 0 rfl ?_
        refine r_iload_n h dX1_layTempers_24 rfl 2 rfl ?_
        refine p_X1_225 h dX1_layTempers_25 ht rC_61 ra2 ?_
        refine r_os hf (fun s5 hf => ?_)
        refine r_rS h (fun hs5 => ?_)
        refine r_aload_n h dX1_layTempers_28 rfl 0 rfl ?_
        refine r_iload_n h dX1_layTempers_29 rfl 1 rfl ?_
        obtain ⟨r6, s6, hq6, hf⟩ := ob_some hf
        refine r_callV0 h [.int (vI a1)] dX1_layTempers_30 (fun hs => m_Fi_setBounds hw ht ra1 hs hq6) ml_X1_228 cv_Fi_setBounds rfl (co := 1) rfl (by decide) ht rC_61 ⟨rfl, rfl⟩ ⟨Nat.le_of_ble_eq_true rfl, Nat.le_of_ble_eq_true rfl⟩ ⟨Nat.le_of_ble_eq_true rfl, Nat.le_of_ble_eq_true rfl⟩ (Nat.le_of_ble_eq_true rfl) rfl (fun hr6 hs6 => ?_)
        refine r_iconst h dX1_layTempers_33 ?_
        refine r_istore_n h [(3, .int (vI 0)), (0, .ref (ad 61)), (1, .int (vI a1)), (2, .int (vI a2))] dX1_layTempers_34 rfl (by decide) rfl ?_
        refine r_sub h [1, 2, 0] rfl ?_
        exact b_Fi_layTempers_35 h hr hw ht ra1 FU 0 s6 (rIc rfl) hf
      · have hf := ite_f hc4 hf
        refine r_bipush h dX1_layTempers_20 (by decide) ?_
        exact r_ret1 hr dX1_layTempers_22 (rIc rfl) hf
