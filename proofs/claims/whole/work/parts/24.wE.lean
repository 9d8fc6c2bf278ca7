noncomputable def l_Qu_tapeNumber_3 (y1 : Int) : Nat → Int → SS → OO
  | 0, _, _ => none
  | fu + 1, x2, s0 =>
    if x2 < 0 then (
      some (0, s0))
    else (
      if (gi s0 0 1) < 0 then (
        (l_Qu_tapeNumber_3 y1 fu) (iw (x2 + (-8))) s0)
      else (
        if 1600 ≤ (gi s0 0 1) then (
          (l_Qu_tapeNumber_3 y1 fu) (iw (x2 + (-8))) s0)
        else (
          oc (0 ≤ gi s0 0 1 ∧ gi s0 0 1 < 1600) <|
          os (si s0 1 ((gi s0 0 1).toNat) (zi2b (zi2b (zshr y1 x2)))) fun s7 =>
          os (si s7 0 1 (iw ((gi s7 0 1) + 1))) fun s8 =>
          (l_Qu_tapeNumber_3 y1 fu) (iw (x2 + (-8))) s8)))
noncomputable def f_Qu_tapeNumber (a1 : Int) (s0 : SS) : OO :=
  l_Qu_tapeNumber_3 a1 FU 24 s0
noncomputable def f_Qu_feed (a1 : Int) (a2 : Int) (a3 : Int) (a4 : Int) (a5 : Int) (s0 : SS) : OO :=
  if (gi s0 0 1) ≤ 1580 then (
    ob (f_Qu_tapeNumber a1 s0) fun r2 s2 =>
    ob (f_Qu_tapeNumber a2 s2) fun r3 s3 =>
    ob (f_Qu_tapeNumber a3 s3) fun r4 s4 =>
    ob (f_Qu_tapeNumber a4 s4) fun r5 s5 =>
    ob (f_Qu_tapeNumber a5 s5) fun r6 s6 =>
    some (gi s6 0 1, s6))
  else (
    some ((-1), s0))
noncomputable def f_Qu_end (a1 : Int) (s0 : SS) : OO :=
  if a1 < 0 then (
    some ((-1), s0))
  else (
    if a1 ≤ (gi s0 0 1) then (
      os (si s0 0 1 a1) fun s3 =>
      some (a1, s3))
    else (
      some ((-1), s0)))
noncomputable def f_Qu_land  (s0 : SS) : OO :=
  ol (gi s0 0 1) fun x1_ =>
  os (si s0 0 1 0) fun s2 =>
  ob (f_Re_readLand 22 x1_ s2) fun r5 s5 =>
  if r5 = 0 then (
    some ((-1), s5))
  else (
    ob (f_Re_readLand 2 x1_ s5) fun r9 s9 =>
    ob (f_Ea_beginAnew s9) fun r11 s11 =>
    ob (f_Ro_reset 54 (-1) s11) fun r13 s13 =>
    ob (f_Fi_layNothing s13) fun r15 s15 =>
    ob (f_Rp_forget s15) fun r17 s17 =>
    some (gi s17 2 0, s17))
noncomputable def f_Qu_fault (a1 : Int) (s0 : SS) : OO :=
  if a1 = 0 then (
    some (gi s0 42 2, s0))
  else (
    if a1 = 1 then (
      some (gi s0 42 3, s0))
    else (
      some ((-1), s0)))
noncomputable def f_Qu_soul (a1 : Int) (a2 : Int) (s0 : SS) : OO :=
  ob (f_La_isSoul 2 a1 s0) fun r2 s2 =>
  if r2 = 0 then (
    some ((-1), s2))
  else (
    if a2 < 0 then (
      some ((-1), s2))
    else (
      if a2 ≤ 1 then (
        oc (0 ≤ iw ((iw (2 * a1)) + a2) ∧ iw ((iw (2 * a1)) + a2) < 12) <|
        some (gi s2 47 ((iw ((iw (2 * a1)) + a2)).toNat), s2))
      else (
        some ((-1), s2))))
noncomputable def f_Qu_way (a1 : Int) (a2 : Int) (s0 : SS) : OO :=
  ob (f_La_isWay 2 a1 s0) fun r2 s2 =>
  if r2 = 0 then (
    some ((-1), s2))
  else (
    if a2 = 0 then (
      oc (0 ≤ a1 ∧ a1 < 14) <|
      some (gi s2 6 ((a1).toNat), s2))
    else     if a2 = 1 then (
        oc (0 ≤ a1 ∧ a1 < 14) <|
        some (gi s2 7 ((a1).toNat), s2))
    else     if a2 = 2 then (
          oc (0 ≤ a1 ∧ a1 < 14) <|
          some (gi s2 8 ((a1).toNat), s2))
    else (
          some ((-1), s2)))
noncomputable def f_Qu_quarrel (a1 : Int) (a2 : Int) (a3 : Int) (s0 : SS) : OO :=
  ob (f_La_couple 2 a1 a2 a3 s0) fun r2 s2 =>
  if r2 = (-1) then (
    some ((-2), s2))
  else (
    ob (f_Ta_begin 58 r2 s2) fun r6 s6 =>
    ob (f_Ta_talkOpenly 58 47 200 s6) fun r11 s11 =>
    some (r11, s11))
noncomputable def f_Qu_heat (a1 : Int) (a2 : Int) (a3 : Int) (a4 : Int) (s0 : SS) : OO :=
  ob (f_La_couple 2 a1 a2 a3 s0) fun r2 s2 =>
  if r2 = (-1) then (
    some ((-2), s2))
  else (
    if a4 < 0 then (
      some ((-2), s2))
    else (
      if a4 ≤ 200 then (
        ob (f_Ta_begin 58 r2 s2) fun r8 s8 =>
        ob (f_Ta_talkOpenly 58 47 a4 s8) fun r13 s13 =>
        some (gi s13 58 4, s13))
      else (
        some ((-2), s2))))
noncomputable def f_Qu_setOut (a1 : Int) (a2 : Int) (a3 : Int) (a4 : Int) (s0 : SS) : OO :=
  ob (f_La_couple 2 a1 a2 a3 s0) fun r2 s2 =>
  if r2 = (-1) then (
    some ((-1), s2))
  else (
    ob (f_La_isPlace 2 a4 s2) fun r5 s5 =>
    if r5 = 0 then (
      some ((-1), s5))
    else (
      ob (f_Ea_beginWalk r2 a4 s5) fun r8 s8 =>
      some (1, s8)))
noncomputable def f_Qu_take (a1 : Int) (s0 : SS) : OO :=
  ob (f_Ea_takeWay a1 s0) fun r2 s2 =>
  some (r2, s2)
noncomputable def f_Qu_words (a1 : Int) (s0 : SS) : OO :=
  if a1 < 0 then (
    some ((-1), s0))
  else (
    if a1 ≤ 60 then (
      ob (f_Ea_sayWords a1 s0) fun r4 s4 =>
      some (r4, s4))
    else (
      some ((-1), s0)))
noncomputable def f_Qu_year  (s0 : SS) : OO :=
  ob (f_Ea_passYear s0) fun r2 s2 =>
  some (r2, s2)
noncomputable def f_Qu_walk (a1 : Int) (s0 : SS) : OO :=
  ob (f_Ea_tellWalk a1 s0) fun r2 s2 =>
  some (r2, s2)
noncomputable def f_Qu_undo  (s0 : SS) : OO :=
  ob (f_Ea_takeBack s0) fun r2 s2 =>
  some (r2, s2)
noncomputable def f_Qu_redo  (s0 : SS) : OO :=
  ob (f_Ea_doAgain s0) fun r2 s2 =>
  some (r2, s2)
noncomputable def f_Qu_start (a1 : Int) (s0 : SS) : OO :=
  ob (f_La_isPlace 2 a1 s0) fun r2 s2 =>
  if r2 = 0 then (
    some ((-1), s2))
  else (
    ob (f_Ro_reset 54 a1 s2) fun r5 s5 =>
    some (1, s5))
noncomputable def f_Qu_step (a1 : Int) (s0 : SS) : OO :=
  ob (f_Ro_append 54 2 a1 s0) fun r3 s3 =>
  if r3 = 0 then (
    some ((-1), s3))
  else (
    some (gi s3 54 2, s3))
noncomputable def f_Qu_walked (a1 : Int) (a2 : Int) (a3 : Int) (a4 : Int) (s0 : SS) : OO :=
  ob (f_La_couple 2 a1 a2 a3 s0) fun r2 s2 =>
  if r2 = (-1) then (
    some ((-2), s2))
  else (
    if (gi s2 54 3) = (-1) then (
      some ((-2), s2))
    else (
      if a4 < 0 then (
        some ((-2), s2))
      else (
        if a4 ≤ 3 then (
          ob (f_St_begin 57 r2 s2) fun r9 s9 =>
          ob (f_St_goOn 57 47 54 s9) fun r14 s14 =>
          if a4 = 3 then (
            some (gi s14 58 4, s14))
          else (
            if r14 = 0 then (
              some ((-1), s14))
            else (
              if a4 = 0 then (
                some (gi s14 58 5, s14))
              else (
                if a4 = 1 then (
                  some (gi s14 57 2, s14))
                else (
                  some (gi s14 57 3, s14))))))
        else (
          some ((-2), s2)))))
noncomputable def f_Qu_shortest (a1 : Int) (a2 : Int) (s0 : SS) : OO :=
  ob (f_Fi_layShortest a1 a2 s0) fun r2 s2 =>
  some (r2, s2)
noncomputable def f_Qu_send (a1 : Int) (a2 : Int) (s0 : SS) : OO :=
  ob (f_Fi_laySent a1 a2 s0) fun r2 s2 =>
  some (r2, s2)
noncomputable def f_Qu_measure (a1 : Int) (a2 : Int) (a3 : Int) (a4 : Int) (a5 : Int) (s0 : SS) : OO :=
  ob (f_La_couple 2 a1 a2 a3 s0) fun r2 s2 =>
  if r2 = (-1) then (
    some ((-1), s2))
  else (
    ob (f_La_isWay 2 a4 s2) fun r5 s5 =>
    if r5 = 0 then (
      some ((-1), s5))
    else (
      ob (f_Fi_setPath a4 a5 s5) fun r8 s8 =>
      ob (f_Fi_measurePath r2 s8) fun r10 s10 =>
      some (r10, s10)))
noncomputable def f_Qu_adds (a1 : Int) (a2 : Int) (s0 : SS) : OO :=
  ob (f_La_isWay 2 a1 s0) fun r2 s2 =>
  if r2 = 0 then (
    some ((-1), s2))
  else (
    ob (f_La_isWay 2 a2 s2) fun r5 s5 =>
    if r5 = 0 then (
      some ((-1), s5))
    else (
      oc (0 ≤ a1 ∧ a1 < 14) <|
      oc (0 ≤ a2 ∧ a2 < 14) <|
      if (gi s5 7 ((a1).toNat)) = (gi s5 6 ((a2).toNat)) then (
        ob (f_Fi_countAdding a1 a2 s5) fun r15 s15 =>
        some (r15, s15))
      else (
        some ((-1), s5))))
noncomputable def f_Qu_fair  (s0 : SS) : OO :=
  ob (f_Fi_countFair s0) fun r2 s2 =>
  some (r2, s2)
noncomputable def f_Qu_cover  (s0 : SS) : OO :=
  ob (f_Fi_lookForEndings s0) fun r2 s2 =>
  ob (f_Fi_layCover s2) fun r4 s4 =>
  some (r4, s4)
noncomputable def f_Qu_turned  (s0 : SS) : OO :=
  ob (f_Fi_countTurned s0) fun r2 s2 =>
  some (r2, s2)
noncomputable def j_Qu_loud_115  (x4 : Int) (x7 : Int) (x8 : Int) (s0 : SS) : OO :=
  if x4 = 0 then (
    some (x7, s0))
  else (
    some (x8, s0))
noncomputable def l_Qu_loud_57 (y4 : Int) : Nat → Int → Int → Int → SS → OO
  | 0, _, _, _, _ => none
  | fu + 1, x7, x8, x9, s0 =>
    if 200 ≤ x9 then (
      j_Qu_loud_115 y4 x7 x8 s0)
    else (
      ob (f_Ta_isOver 58 s0) fun r2 s2 =>
      if r2 = 0 then (
        ob (f_Ta_say 58 47 s2) fun r6 s6 =>
        if (gi s6 58 4) ≤ x7 then (
          (l_Qu_loud_57 y4 fu) x7 x8 (iw (x9 + 1)) s6)
        else (
          ol (gi s6 58 4) fun x8_ =>
          ol (gi s6 58 5) fun x9_ =>
          (l_Qu_loud_57 y4 fu) x8_ x9_ (iw (x9 + 1)) s6))
      else (
        j_Qu_loud_115 y4 x7 x8 s2))
noncomputable def f_Qu_loud (a1 : Int) (a2 : Int) (a3 : Int) (a4 : Int) (s0 : SS) : OO :=
  ob (f_La_couple 2 a1 a2 a3 s0) fun r2 s2 =>
  if r2 = (-1) then (
    some ((-2), s2))
  else (
    if a4 < 0 then (
      some ((-2), s2))
    else (
      if a4 ≤ 1 then (
        ob (f_Ta_begin 58 r2 s2) fun r8 s8 =>
        l_Qu_loud_57 a4 FU (-1) 0 0 s8)
      else (
        some ((-2), s2))))
noncomputable def f_Qu_home (a1 : Int) (a2 : Int) (a3 : Int) (a4 : Int) (a5 : Int) (a6 : Int) (s0 : SS) : OO :=
  ob (f_La_couple 2 a1 a2 a3 s0) fun r3 s3 =>
  ob (f_Fi_layHome r3 a4 a5 a6 s3) fun r4 s4 =>
  some (r4, s4)
noncomputable def f_Qu_temper (a1 : Int) (a2 : Int) (a3 : Int) (a4 : Int) (s0 : SS) : OO :=
  ob (f_La_couple 2 a1 a2 a3 s0) fun r3 s3 =>
  ob (f_Fi_layTempers r3 a4 s3) fun r4 s4 =>
  some (r4, s4)
noncomputable def f_Qu_lies (a1 : Int) (s0 : SS) : OO :=
  ob (f_Fi_tellLying a1 s0) fun r2 s2 =>
  some (r2, s2)
noncomputable def f_Qu_report (a1 : Int) (a2 : Int) (a3 : Int) (a4 : Int) (s0 : SS) : OO :=
  ob (f_La_couple 2 a1 a2 a3 s0) fun r2 s2 =>
  if r2 = (-1) then (
    some ((-1), s2))
  else (
    if a4 < 0 then (
      some ((-1), s2))
    else (
      if a4 ≤ 2 then (
        ob (f_Rp_tell r2 a4 s2) fun r7 s7 =>
        some (r7, s7))
      else (
        some ((-1), s2))))
noncomputable def f_Qu_untell (a1 : Int) (s0 : SS) : OO :=
  ob (f_Rp_takeBack a1 s0) fun r2 s2 =>
  some (r2, s2)
noncomputable def f_Qu_later (a1 : Int) (s0 : SS) : OO :=
  ob (f_Rp_passTime a1 s0) fun r2 s2 =>
  some (r2, s2)
noncomputable def f_Qu_miles (a1 : Int) (s0 : SS) : OO :=
  ob (f_Rp_roadsKnownAt a1 s0) fun r2 s2 =>
  some (r2, s2)
noncomputable def f_Qu_ask (a1 : Int) (a2 : Int) (s0 : SS) : OO :=
  ob (f_Rp_findQuestion a1 a2 s0) fun r2 s2 =>
  some (r2, s2)
noncomputable def f_Qu_image (a1 : Int) (s0 : SS) : OO :=
  ob (f_Ea_keep a1 s0) fun r2 s2 =>
  some (r2, s2)
noncomputable def f_Qu_back (a1 : Int) (s0 : SS) : OO :=
  ob (f_Ea_goBack a1 s0) fun r2 s2 =>
  some (r2, s2)
noncomputable def f_Qu_about (a1 : Int) (s0 : SS) : OO :=
  if a1 = 0 then (
    some (gi s0 2 0, s0))
  else   if a1 = 1 then (
      some (gi s0 2 4, s0))
  else   if a1 = 2 then (
        some (gi s0 2 9, s0))
  else   if a1 = 3 then (
          some (gi s0 2 12, s0))
  else   if a1 = 4 then (
            some (gi s0 46 2, s0))
  else   if a1 = 5 then (
              some (gi s0 46 10, s0))
  else   if a1 = 6 then (
                some (gi s0 46 11, s0))
  else   if a1 = 7 then (
                  if (gi s0 54 3) = (-1) then (
                    some ((-1), s0))
                  else (
                    some (gi s0 54 2, s0)))
  else   if a1 = 8 then (
                    some (gi s0 54 3, s0))
  else   if a1 = 9 then (
                      some (gi s0 79 3, s0))
  else   if a1 = 10 then (
                        some (gi s0 79 2, s0))
  else   if a1 = 11 then (
                          some (gi s0 0 1, s0))
  else   if a1 = 12 then (
                            some (iw ((gi s0 16 3) + (gi s0 19 3)), s0))
  else   if a1 = 13 then (
                              some (gi s0 61 5, s0))
  else (
                              some ((-1), s0))
set_option maxRecDepth 20000 in
theorem b_Qu_tapeNumber_3 {l : Launch} {D : va_G} {cs : Nat → ClassId} {aS aV : Nat} {A : Nat → Prop} {K : KT} {ad : Nat → Nat} {n : Nat} {nl : Nat → Nat → Bool} {out : Int × SS} (h : w_Cl l rm_Qu_tapeNumber D cs aS aV A cX11_tapeNumber 3 RX11 "tapeNumber" K) (hr : w_Rt 0 cX11_tapeNumber 0 0 (w_Po ad n nl out) K) (hw : w_W0 n nl) (ht : 0 < n) {y1 : Int} (ry1 : rI y1) : ∀ (fu : Nat) (x2 : Int) (s0 : SS), rI x2 → l_Qu_tapeNumber_3 y1 fu x2 s0 = some out → K ad n nl 0 0 3 [(0, .ref (ad 0)), (1, .int (vI y1)), (2, .int (vI x2))] [] s0 := by
  intro fu
  induction fu with
  | zero =>
    intro x2 s0 rx2 hf
    rw [l_Qu_tapeNumber_3] at hf
    cases hf
  | succ fu ih =>
    intro x2 s0 rx2 hf
    rw [l_Qu_tapeNumber_3] at hf
    refine r_rS h (fun hs0 => ?_)
    refine r_iload_n h dX11_tapeNumber_3 rfl 2 rfl ?_
    refine r_if_lt (tgt := 55) h dX11_tapeNumber_4 (by decide) rx2 (fun hc1 => ?_) (fun hc1 => ?_)
    · have hf := ite_t hc1 hf
      exact r_ret0 (x := 0) hr dX11_tapeNumber_55 hf
    · have hf := ite_f hc1 hf
      refine r_aload_n h dX11_tapeNumber_7 rfl 0 rfl ?_
      refine g_X11_13 h dX11_tapeNumber_8 ht rC_0 ?_
      refine r_if_lt (tgt := 49) h dX11_tapeNumber_11 (by decide) (hs0.1 _ _) (fun hc2 => ?_) (fun hc2 => ?_)
      · have hf := ite_t hc2 hf
        refine r_iinc h [(2, .int (vI (iw (x2 + (-8))))), (0, .ref (ad 0)), (1, .int (vI y1))] dX11_tapeNumber_49 2 rfl (by decide) rfl ?_
        refine r_goto (tgt := 3) h dX11_tapeNumber_52 (by decide) ?_
        refine r_sub h [1, 2, 0] rfl ?_
        exact ih (iw (x2 + (-8))) s0 (rI_iw _) hf
      · have hf := ite_f hc2 hf
        refine r_aload_n h dX11_tapeNumber_14 rfl 0 rfl ?_
        refine g_X11_13 h dX11_tapeNumber_15 ht rC_0 ?_
        refine r_aload_n h dX11_tapeNumber_18 rfl 0 rfl ?_
        have hq3 := w_ref0 hw (k := 0) (by decide) rf_11_0
        refine g_X11_9 h dX11_tapeNumber_19 ht rC_0 hq3.1 ?_
        refine r_alen (N := 1600) h dX11_tapeNumber_22 hq3.2 rC_1 (Or.inl rfl) (by rw [rN_1]; rfl) ?_
        refine r_icmp_ge (tgt := 49) h dX11_tapeNumber_23 (by decide) (hs0.1 _ _) (rIc rfl) (fun hc4 => ?_) (fun hc4 => ?_)
        · have hf := ite_t hc4 hf
          refine r_iinc h [(2, .int (vI (iw (x2 + (-8))))), (0, .ref (ad 0)), (1, .int (vI y1))] dX11_tapeNumber_49 2 rfl (by decide) rfl ?_
          refine r_goto (tgt := 3) h dX11_tapeNumber_52 (by decide) ?_
          refine r_sub h [1, 2, 0] rfl ?_
          exact ih (iw (x2 + (-8))) s0 (rI_iw _) hf
        · have hf := ite_f hc4 hf
          refine r_aload_n h dX11_tapeNumber_26 rfl 0 rfl ?_
          have hq5 := w_ref0 hw (k := 0) (by decide) rf_11_0
          refine g_X11_9 h dX11_tapeNumber_27 ht rC_0 hq5.1 ?_
          refine r_aload_n h dX11_tapeNumber_30 rfl 0 rfl ?_
          refine g_X11_13 h dX11_tapeNumber_31 ht rC_0 ?_
          refine r_iload_n h dX11_tapeNumber_34 rfl 1 rfl ?_
          refine r_iload_n h dX11_tapeNumber_35 rfl 2 rfl ?_
          refine r_ishr h dX11_tapeNumber_36 ?_
          refine r_i2b h dX11_tapeNumber_37 ?_
          obtain ⟨hi6, hf⟩ := oc_some hf
          refine r_bast h dX11_tapeNumber_38 hq5.2 rC_1 (hs0.1 _ _) (N := 1600) (by rw [rN_1]; rfl) (j := (gi s0 0 1).toNat) rfl hi6  ?_
          refine r_os hf (fun s7 hf => ?_)
          refine r_rS h (fun hs7 => ?_)
          refine r_aload_n h dX11_tapeNumber_39 rfl 0 rfl ?_
          refine r_dup h dX11_tapeNumber_40 rfl ?_
          refine g_X11_13 h dX11_tapeNumber_41 ht rC_0 ?_
          refine r_iconst h dX11_tapeNumber_44 ?_
          refine r_iadd h dX11_tapeNumber_45 ?_
          refine p_X11_13 h dX11_tapeNumber_46 ht rC_0 (rI_iw _) ?_
          refine r_os hf (fun s8 hf => ?_)
          refine r_rS h (fun hs8 => ?_)
          refine r_iinc h [(2, .int (vI (iw (x2 + (-8))))), (0, .ref (ad 0)), (1, .int (vI y1))] dX11_tapeNumber_49 2 rfl (by decide) rfl ?_
          refine r_goto (tgt := 3) h dX11_tapeNumber_52 (by decide) ?_
          refine r_sub h [1, 2, 0] rfl ?_
          exact ih (iw (x2 + (-8))) s8 (rI_iw _) hf
set_option maxRecDepth 20000 in
theorem m_Qu_tapeNumber {l : Launch} {D : va_G} {cs : Nat → ClassId} {aS aV : Nat} {A : Nat → Prop} {ad : Nat → Nat} {n : Nat} {nl : Nat → Nat → Bool} {out : Int × SS} (hw : w_W0 n nl) (ht : 0 < n) {a1 : Int} (ra1 : rI a1) {s0 : SS} (hs0 : rS s0) (hf : f_Qu_tapeNumber a1 s0 = some out) : w_MC l D cs aS aV A yX11_tapeNumber cX11_tapeNumber 3 0 rm_Qu_tapeNumber ad n nl [.ref (ad 0), .int (vI a1)] s0 (w_Po ad n nl out) := by
  refine w_MC_of (by decide +kernel) (by decide) hs0 (Nat.le_of_ble_eq_true rfl) (fun K h hr => ?_)
  refine r_lv (lv' := [(0, .ref (ad 0)), (1, .int (vI a1))]) rfl ?_
  unfold f_Qu_tapeNumber at hf
  refine r_rS h (fun hs0 => ?_)
  refine r_bipush h dX11_tapeNumber_0 (by decide) ?_
  refine r_istore_n h [(2, .int (vI 24)), (0, .ref (ad 0)), (1, .int (vI a1))] dX11_tapeNumber_2 rfl (by decide) rfl ?_
  refine r_sub h [1, 2, 0] rfl ?_
  exact b_Qu_tapeNumber_3 h hr hw ht ra1 FU 24 s0 (rIc rfl) hf
set_option maxRecDepth 20000 in
theorem m_Qu_feed {l : Launch} {D : va_G} {cs : Nat → ClassId} {aS aV : Nat} {A : Nat → Prop} {ad : Nat → Nat} {n : Nat} {nl : Nat → Nat → Bool} {out : Int × SS} (hw : w_W0 n nl) (ht : 0 < n) {a1 : Int} (ra1 : rI a1) {a2 : Int} (ra2 : rI a2) {a3 : Int} (ra3 : rI a3) {a4 : Int} (ra4 : rI a4) {a5 : Int} (ra5 : rI a5) {s0 : SS} (hs0 : rS s0) (hf : f_Qu_feed a1 a2 a3 a4 a5 s0 = some out) : w_MC l D cs aS aV A yX11_feed cX11_feed 6 1 rm_Qu_feed ad n nl [.ref (ad 0), .int (vI a1), .int (vI a2), .int (vI a3), .int (vI a4), .int (vI a5)] s0 (w_Po ad n nl out) := by
  refine w_MC_of (by decide +kernel) (by decide) hs0 (Nat.le_of_ble_eq_true rfl) (fun K h hr => ?_)
  refine r_lv (lv' := [(0, .ref (ad 0)), (1, .int (vI a1)), (2, .int (vI a2)), (3, .int (vI a3)), (4, .int (vI a4)), (5, .int (vI a5))]) rfl ?_
  unfold f_Qu_feed at hf
  refine r_rS h (fun hs0 => ?_)
  refine r_aload_n h dX11_feed_0 rfl 0 rfl ?_
  refine g_X11_13 h dX11_feed_1 ht rC_0 ?_
  refine r_sipush h dX11_feed_4 (by decide) ?_
  refine r_icmp_le (tgt := 12) h dX11_feed_7 (by decide) (hs0.1 _ _) (rIc rfl) (fun hc1 => ?_) (fun hc1 => ?_)
  · have hf := ite_t hc1 hf
    refine r_aload_n h dX11_feed_12 rfl 0 rfl ?_
    refine r_iload_n h dX11_feed_13 rfl 1 rfl ?_
    obtain ⟨r2, s2, hq2, hf⟩ := ob_some hf
    refine r_callV0 h [.int (vI a1)] dX11_feed_14 (fun hs => m_Qu_tapeNumber hw ht ra1 hs hq2) ml_X11_84 cv_Qu_tapeNumber rfl (co := 11) rfl (by decide) ht rC_0 ⟨rfl, rfl⟩ ⟨Nat.le_of_ble_eq_true rfl, Nat.le_of_ble_eq_true rfl⟩ ⟨Nat.le_of_ble_eq_true rfl, Nat.le_of_ble_eq_true rfl⟩ (Nat.le_of_ble_eq_true rfl) rfl (fun hr2 hs2 => ?_)
    refine r_aload_n h dX11_feed_17 rfl 0 rfl ?_
    refine r_iload_n h dX11_feed_18 rfl 2 rfl ?_
    obtain ⟨r3, s3, hq3, hf⟩ := ob_some hf
    refine r_callV0 h [.int (vI a2)] dX11_feed_19 (fun hs => m_Qu_tapeNumber hw ht ra2 hs hq3) ml_X11_84 cv_Qu_tapeNumber rfl (co := 11) rfl (by decide) ht rC_0 ⟨rfl, rfl⟩ ⟨Nat.le_of_ble_eq_true rfl, Nat.le_of_ble_eq_true rfl⟩ ⟨Nat.le_of_ble_eq_true rfl, Nat.le_of_ble_eq_true rfl⟩ (Nat.le_of_ble_eq_true rfl) rfl (fun hr3 hs3 => ?_)
    refine r_aload_n h dX11_feed_22 rfl 0 rfl ?_
    refine r_iload_n h dX11_feed_23 rfl 3 rfl ?_
    obtain ⟨r4, s4, hq4, hf⟩ := ob_some hf
    refine r_callV0 h [.int (vI a3)] dX11_feed_24 (fun hs => m_Qu_tapeNumber hw ht ra3 hs hq4) ml_X11_84 cv_Qu_tapeNumber rfl (co := 11) rfl (by decide) ht rC_0 ⟨rfl, rfl⟩ ⟨Nat.le_of_ble_eq_true rfl, Nat.le_of_ble_eq_true rfl⟩ ⟨Nat.le_of_ble_eq_true rfl, Nat.le_of_ble_eq_true rfl⟩ (Nat.le_of_ble_eq_true rfl) rfl (fun hr4 hs4 => ?_)
    refine r_aload_n h dX11_feed_27 rfl 0 rfl ?_
    refine r_iload h dX11_feed_28 4 rfl ?_
    obtain ⟨r5, s5, hq5, hf⟩ := ob_some hf
    refine r_callV0 h [.int (vI a4)] dX11_feed_30 (fun hs => m_Qu_tapeNumber hw ht ra4 hs hq5) ml_X11_84 cv_Qu_tapeNumber rfl (co := 11) rfl (by decide) ht rC_0 ⟨rfl, rfl⟩ ⟨Nat.le_of_ble_eq_true rfl, Nat.le_of_ble_eq_true rfl⟩ ⟨Nat.le_of_ble_eq_true rfl, Nat.le_of_ble_eq_true rfl⟩ (Nat.le_of_ble_eq_true rfl) rfl (fun hr5 hs5 => ?_)
    refine r_aload_n h dX11_feed_33 rfl 0 rfl ?_
    refine r_iload h dX11_feed_34 5 rfl ?_
    obtain ⟨r6, s6, hq6, hf⟩ := ob_some hf
    refine r_callV0 h [.int (vI a5)] dX11_feed_36 (fun hs => m_Qu_tapeNumber hw ht ra5 hs hq6) ml_X11_84 cv_Qu_tapeNumber rfl (co := 11) rfl (by decide) ht rC_0 ⟨rfl, rfl⟩ ⟨Nat.le_of_ble_eq_true rfl, Nat.le_of_ble_eq_true rfl⟩ ⟨Nat.le_of_ble_eq_true rfl, Nat.le_of_ble_eq_true rfl⟩ (Nat.le_of_ble_eq_true rfl) rfl (fun hr6 hs6 => ?_)
    refine r_aload_n h dX11_feed_39 rfl 0 rfl ?_
    refine g_X11_13 h dX11_feed_40 ht rC_0 ?_
    exact r_ret1 hr dX11_feed_43 (hs6.1 _ _) hf
  · have hf := ite_f hc1 hf
    refine r_iconst h dX11_feed_10 ?_
    exact r_ret1 hr dX11_feed_11 (rIc rfl) hf
set_option maxRecDepth 20000 in
theorem m_Qu_end {l : Launch} {D : va_G} {cs : Nat → ClassId} {aS aV : Nat} {A : Nat → Prop} {ad : Nat → Nat} {n : Nat} {nl : Nat → Nat → Bool} {out : Int × SS} (hw : w_W0 n nl) (ht : 0 < n) {a1 : Int} (ra1 : rI a1) {s0 : SS} (hs0 : rS s0) (hf : f_Qu_end a1 s0 = some out) : w_MC l D cs aS aV A yX11_end cX11_end 2 1 rm_Qu_end ad n nl [.ref (ad 0), .int (vI a1)] s0 (w_Po ad n nl out) := by
  refine w_MC_of (by decide +kernel) (by decide) hs0 (Nat.le_of_ble_eq_true rfl) (fun K h hr => ?_)
  refine r_lv (lv' := [(0, .ref (ad 0)), (1, .int (vI a1))]) rfl ?_
  unfold f_Qu_end at hf
  refine r_rS h (fun hs0 => ?_)
  refine r_iload_n h dX11_end_0 rfl 1 rfl ?_
  refine r_if_lt (tgt := 12) h dX11_end_1 (by decide) ra1 (fun hc1 => ?_) (fun hc1 => ?_)
  · have hf := ite_t hc1 hf
    refine r_iconst h dX11_end_12 ?_
    exact r_ret1 hr dX11_end_13 (rIc rfl) hf
  · have hf := ite_f hc1 hf
    refine r_iload_n h dX11_end_4 rfl 1 rfl ?_
    refine r_aload_n h dX11_end_5 rfl 0 rfl ?_
    refine g_X11_13 h dX11_end_6 ht rC_0 ?_
    refine r_icmp_le (tgt := 14) h dX11_end_9 (by decide) ra1 (hs0.1 _ _) (fun hc2 => ?_) (fun hc2 => ?_)
    · have hf := ite_t hc2 hf
      refine r_aload_n h dX11_end_14 rfl 0 rfl ?_
      refine r_iload_n h dX11_end_15 rfl 1 rfl ?_
      refine p_X11_13 h dX11_end_16 ht rC_0 ra1 ?_
      refine r_os hf (fun s3 hf => ?_)
      refine r_rS h (fun hs3 => ?_)
      refine r_iload_n h dX11_end_19 rfl 1 rfl ?_
      exact r_ret1 hr dX11_end_20 ra1 hf
    · have hf := ite_f hc2 hf
      refine r_iconst h dX11_end_12 ?_
      exact r_ret1 hr dX11_end_13 (rIc rfl) hf
set_option maxRecDepth 20000 in
theorem m_Qu_land {l : Launch} {D : va_G} {cs : Nat → ClassId} {aS aV : Nat} {A : Nat → Prop} {ad : Nat → Nat} {n : Nat} {nl : Nat → Nat → Bool} {out : Int × SS} (hw : w_W0 n nl) (ht : 0 < n) {s0 : SS} (hs0 : rS s0) (hf : f_Qu_land s0 = some out) : w_MC l D cs aS aV A yX11_land cX11_land 2 1 rm_Qu_land ad n nl [.ref (ad 0)] s0 (w_Po ad n nl out) := by
  refine w_MC_of (by decide +kernel) (by decide) hs0 (Nat.le_of_ble_eq_true rfl) (fun K h hr => ?_)
  refine r_lv (lv' := [(0, .ref (ad 0))]) rfl ?_
  unfold f_Qu_land at hf
  refine r_rS h (fun hs0 => ?_)
  refine r_aload_n h dX11_land_0 rfl 0 rfl ?_
  refine g_X11_13 h dX11_land_1 ht rC_0 ?_
  refine r_ol hf (hs0.1 _ _) (fun x1_ rx1_ hf => ?_)
  refine r_istore_n h [(1, .int (vI x1_)), (0, .ref (ad 0))] dX11_land_4 rfl (by decide) rfl ?_
  refine r_aload_n h dX11_land_5 rfl 1 rfl ?_
  refine r_iconst h dX11_land_6 ?_
  refine p_X11_13 h dX11_land_7 ht rC_0 (rIc rfl) ?_
  refine r_os hf (fun s2 hf => ?_)
  refine r_rS h (fun hs2 => ?_)
  refine r_aload_n h dX11_land_10 rfl 1 rfl ?_
  have hq3 := w_ref0 hw (k := 4) (by decide) rf_11_4
  refine g_X11_37 h dX11_land_11 ht rC_0 hq3.1 ?_
  refine r_aload_n h dX11_land_14 rfl 1 rfl ?_
  have hq4 := w_ref0 hw (k := 3) (by decide) rf_11_3
  refine g_X11_24 h dX11_land_15 ht rC_0 hq4.1 ?_
  refine r_iload_n h dX11_land_18 rfl 0 rfl ?_
  obtain ⟨r5, s5, hq5, hf⟩ := ob_some hf
  refine r_callV2 h [.ref (ad 22), .int (vI x1_)] dX11_land_19 (fun hs => m_Re_readLand hw.1 hq3.2 hq4.2 rC_22 rx1_ hs hq5) ml_X11_88 cv_Re_readLand rfl (co := 5) rfl (by decide) hq3.2 rC_42 ⟨rfl, rfl⟩ ⟨Nat.le_of_ble_eq_true rfl, Nat.le_of_ble_eq_true rfl⟩ ⟨Nat.le_of_ble_eq_true rfl, Nat.le_of_ble_eq_true rfl⟩ (Nat.le_of_ble_eq_true rfl) rfl (fun hr5 hs5 => ?_)
  refine r_if_ne (tgt := 27) h dX11_land_22 (by decide) (rI_b hr5) (fun hc6 => ?_) (fun hc6 => ?_)
  · have hf := ite_f hc6 hf
    refine r_aload_n h dX11_land_27 rfl 1 rfl ?_
    have hq7 := w_ref0 hw (k := 4) (by decide) rf_11_4
    refine g_X11_37 h dX11_land_28 ht rC_0 hq7.1 ?_
    refine r_aload_n h dX11_land_31 rfl 1 rfl ?_
    have hq8 := w_ref0 hw (k := 2) (by decide) rf_11_2
    refine g_X11_20 h dX11_land_32 ht rC_0 hq8.1 ?_
    refine r_iload_n h dX11_land_35 rfl 0 rfl ?_
    obtain ⟨r9, s9, hq9, hf⟩ := ob_some hf
    refine r_callV2 h [.ref (ad 2), .int (vI x1_)] dX11_land_36 (fun hs => m_Re_readLand hw.1 hq7.2 hq8.2 rC_2 rx1_ hs hq9) ml_X11_88 cv_Re_readLand rfl (co := 5) rfl (by decide) hq7.2 rC_42 ⟨rfl, rfl⟩ ⟨Nat.le_of_ble_eq_true rfl, Nat.le_of_ble_eq_true rfl⟩ ⟨Nat.le_of_ble_eq_true rfl, Nat.le_of_ble_eq_true rfl⟩ (Nat.le_of_ble_eq_true rfl) rfl (fun hr9 hs9 => ?_)
    refine r_pop h dX11_land_39 rfl ?_
    refine r_aload_n h dX11_land_40 rfl 1 rfl ?_
    have hq10 := w_ref0 hw (k := 5) (by decide) rf_11_5
    refine g_X11_46 h dX11_land_41 ht rC_0 hq10.1 ?_
    obtain ⟨r11, s11, hq11, hf⟩ := ob_some hf
    refine r_callV0 h [] dX11_land_44 (fun hs => m_Ea_beginAnew hw.1 hq10.2 hs hq11) ml_X11_92 cv_Ea_beginAnew rfl (co := 0) rfl (by decide) hq10.2 rC_46 ⟨rfl, rfl⟩ ⟨Nat.le_of_ble_eq_true rfl, Nat.le_of_ble_eq_true rfl⟩ ⟨Nat.le_of_ble_eq_true rfl, Nat.le_of_ble_eq_true rfl⟩ (Nat.le_of_ble_eq_true rfl) rfl (fun hr11 hs11 => ?_)
    refine r_aload_n h dX11_land_47 rfl 1 rfl ?_
    have hq12 := w_ref0 hw (k := 6) (by decide) rf_11_6
    refine g_X11_53 h dX11_land_48 ht rC_0 hq12.1 ?_
    refine r_iconst h dX11_land_51 ?_
    obtain ⟨r13, s13, hq13, hf⟩ := ob_some hf
    refine r_callV0 h [.int (vI (-1))] dX11_land_52 (fun hs => m_Ro_reset hw.1 hq12.2 rC_54 (rIc rfl) hs hq13) ml_X11_95 cv_Ro_reset rfl (co := 7) rfl (by decide) hq12.2 rC_54 ⟨rfl, rfl⟩ ⟨Nat.le_of_ble_eq_true rfl, Nat.le_of_ble_eq_true rfl⟩ ⟨Nat.le_of_ble_eq_true rfl, Nat.le_of_ble_eq_true rfl⟩ (Nat.le_of_ble_eq_true rfl) rfl (fun hr13 hs13 => ?_)
    refine r_aload_n h dX11_land_55 rfl 1 rfl ?_
    have hq14 := w_ref0 hw (k := 8) (by decide) rf_11_8
    refine g_X11_73 h dX11_land_56 ht rC_0 hq14.1 ?_
    obtain ⟨r15, s15, hq15, hf⟩ := ob_some hf
    refine r_callV0 h [] dX11_land_59 (fun hs => m_Fi_layNothing hw.1 hq14.2 hs hq15) ml_X11_98 cv_Fi_layNothing rfl (co := 1) rfl (by decide) hq14.2 rC_61 ⟨rfl, rfl⟩ ⟨Nat.le_of_ble_eq_true rfl, Nat.le_of_ble_eq_true rfl⟩ ⟨Nat.le_of_ble_eq_true rfl, Nat.le_of_ble_eq_true rfl⟩ (Nat.le_of_ble_eq_true rfl) rfl (fun hr15 hs15 => ?_)
    refine r_aload_n h dX11_land_62 rfl 1 rfl ?_
    have hq16 := w_ref0 hw (k := 9) (by decide) rf_11_9
    refine g_X11_80 h dX11_land_63 ht rC_0 hq16.1 ?_
    obtain ⟨r17, s17, hq17, hf⟩ := ob_some hf
    refine r_callV0 h [] dX11_land_66 (fun hs => m_Rp_forget hw.1 hq16.2 hs hq17) ml_X11_101 cv_Rp_forget rfl (co := 6) rfl (by decide) hq16.2 rC_79 ⟨rfl, rfl⟩ ⟨Nat.le_of_ble_eq_true rfl, Nat.le_of_ble_eq_true rfl⟩ ⟨Nat.le_of_ble_eq_true rfl, Nat.le_of_ble_eq_true rfl⟩ (Nat.le_of_ble_eq_true rfl) rfl (fun hr17 hs17 => ?_)
    refine r_aload_n h dX11_land_69 rfl 1 rfl ?_
    have hq18 := w_ref0 hw (k := 2) (by decide) rf_11_2
    refine g_X11_20 h dX11_land_70 ht rC_0 hq18.1 ?_
    refine g_X11_104 h dX11_land_73 hq18.2 rC_2 ?_
    exact r_ret1 hr dX11_land_76 (hs17.1 _ _) hf
  · have hf := ite_nf hc6 hf
    refine r_iconst h dX11_land_25 ?_
    exact r_ret1 hr dX11_land_26 (rIc rfl) hf
set_option maxRecDepth 20000 in
theorem m_Qu_fault {l : Launch} {D : va_G} {cs : Nat → ClassId} {aS aV : Nat} {A : Nat → Prop} {ad : Nat → Nat} {n : Nat} {nl : Nat → Nat → Bool} {out : Int × SS} (hw : w_W0 n nl) (ht : 0 < n) {a1 : Int} (ra1 : rI a1) {s0 : SS} (hs0 : rS s0) (hf : f_Qu_fault a1 s0 = some out) : w_MC l D cs aS aV A yX11_fault cX11_fault 2 1 rm_Qu_fault ad n nl [.ref (ad 0), .int (vI a1)] s0 (w_Po ad n nl out) := by
  refine w_MC_of (by decide +kernel) (by decide) hs0 (Nat.le_of_ble_eq_true rfl) (fun K h hr => ?_)
  refine r_lv (lv' := [(0, .ref (ad 0)), (1, .int (vI a1))]) rfl ?_
  unfold f_Qu_fault at hf
  refine r_rS h (fun hs0 => ?_)
  refine r_iload_n h dX11_fault_0 rfl 1 rfl ?_
  refine r_if_ne (tgt := 12) h dX11_fault_1 (by decide) ra1 (fun hc1 => ?_) (fun hc1 => ?_)
  · have hf := ite_f hc1 hf
    refine r_iload_n h dX11_fault_12 rfl 1 rfl ?_
    refine r_iconst h dX11_fault_13 ?_
    refine r_icmp_ne (tgt := 27) h dX11_fault_14 (by decide) ra1 (rIc rfl) (fun hc2 => ?_) (fun hc2 => ?_)
    · have hf := ite_f hc2 hf
      refine r_iconst h dX11_fault_27 ?_
      exact r_ret1 hr dX11_fault_28 (rIc rfl) hf
    · have hf := ite_nf hc2 hf
      refine r_aload_n h dX11_fault_17 rfl 0 rfl ?_
      have hq3 := w_ref0 hw (k := 4) (by decide) rf_11_4
      refine g_X11_37 h dX11_fault_18 ht rC_0 hq3.1 ?_
      refine g_X11_110 h dX11_fault_21 hq3.2 rC_42 ?_
      refine r_goto (tgt := 28) h dX11_fault_24 (by decide) ?_
      exact r_ret1 hr dX11_fault_28 (hs0.1 _ _) hf
  · have hf := ite_nf hc1 hf
    refine r_aload_n h dX11_fault_4 rfl 0 rfl ?_
    have hq4 := w_ref0 hw (k := 4) (by decide) rf_11_4
    refine g_X11_37 h dX11_fault_5 ht rC_0 hq4.1 ?_
    refine g_X11_107 h dX11_fault_8 hq4.2 rC_42 ?_
    exact r_ret1 hr dX11_fault_11 (hs0.1 _ _) hf
set_option maxRecDepth 20000 in
theorem m_Qu_soul {l : Launch} {D : va_G} {cs : Nat → ClassId} {aS aV : Nat} {A : Nat → Prop} {ad : Nat → Nat} {n : Nat} {nl : Nat → Nat → Bool} {out : Int × SS} (hw : w_W0 n nl) (ht : 0 < n) {a1 : Int} (ra1 : rI a1) {a2 : Int} (ra2 : rI a2) {s0 : SS} (hs0 : rS s0) (hf : f_Qu_soul a1 a2 s0 = some out) : w_MC l D cs aS aV A yX11_soul cX11_soul 3 1 rm_Qu_soul ad n nl [.ref (ad 0), .int (vI a1), .int (vI a2)] s0 (w_Po ad n nl out) := by
  refine w_MC_of (by decide +kernel) (by decide) hs0 (Nat.le_of_ble_eq_true rfl) (fun K h hr => ?_)
  refine r_lv (lv' := [(0, .ref (ad 0)), (1, .int (vI a1)), (2, .int (vI a2))]) rfl ?_
  unfold f_Qu_soul at hf
  refine r_rS h (fun hs0 => ?_)
  refine r_aload_n h dX11_soul_0 rfl 0 rfl ?_
  have hq1 := w_ref0 hw (k := 2) (by decide) rf_11_2
  refine g_X11_20 h dX11_soul_1 ht rC_0 hq1.1 ?_
  refine r_iload_n h dX11_soul_4 rfl 1 rfl ?_
  obtain ⟨r2, s2, hq2, hf⟩ := ob_some hf
  refine r_callV2 h [.int (vI a1)] dX11_soul_5 (fun hs => m_La_isSoul hw.1 hq1.2 rC_2 ra1 hs hq2) ml_X11_113 cv_La_isSoul rfl (co := 4) rfl (by decide) hq1.2 rC_2 ⟨rfl, rfl⟩ ⟨Nat.le_of_ble_eq_true rfl, Nat.le_of_ble_eq_true rfl⟩ ⟨Nat.le_of_ble_eq_true rfl, Nat.le_of_ble_eq_true rfl⟩ (Nat.le_of_ble_eq_true rfl) rfl (fun hr2 hs2 => ?_)
  refine r_if_eq (tgt := 20) h dX11_soul_8 (by decide) (rI_b hr2) (fun hc3 => ?_) (fun hc3 => ?_)
  · have hf := ite_t hc3 hf
    refine r_iconst h dX11_soul_20 ?_
    exact r_ret1 hr dX11_soul_21 (rIc rfl) hf
  · have hf := ite_f hc3 hf
    refine r_iload_n h dX11_soul_11 rfl 2 rfl ?_
    refine r_if_lt (tgt := 20) h dX11_soul_12 (by decide) ra2 (fun hc4 => ?_) (fun hc4 => ?_)
    · have hf := ite_t hc4 hf
      refine r_iconst h dX11_soul_20 ?_
      exact r_ret1 hr dX11_soul_21 (rIc rfl) hf
    · have hf := ite_f hc4 hf
      refine r_iload_n h dX11_soul_15 rfl 2 rfl ?_
      refine r_iconst h dX11_soul_16 ?_
      refine r_icmp_le (tgt := 22) h dX11_soul_17 (by decide) ra2 (rIc rfl) (fun hc5 => ?_) (fun hc5 => ?_)
      · have hf := ite_t hc5 hf
        refine r_aload_n h dX11_soul_22 rfl 0 rfl ?_
        have hq6 := w_ref0 hw (k := 5) (by decide) rf_11_5
        refine g_X11_46 h dX11_soul_23 ht rC_0 hq6.1 ?_
        have hq7 := w_ref hw.1 hq6.2 rC_46 (by decide) (k := 1) (by decide) rf_0_1
        refine g_X11_66 h dX11_soul_26 hq6.2 rC_46 hq7.1 ?_
        refine r_iconst h dX11_soul_29 ?_
        refine r_iload_n h dX11_soul_30 rfl 1 rfl ?_
        refine r_imul h dX11_soul_31 ?_
        refine r_iload_n h dX11_soul_32 rfl 2 rfl ?_
        refine r_iadd h dX11_soul_33 ?_
        obtain ⟨hi8, hf⟩ := oc_some hf
        refine r_iald h dX11_soul_34 hq7.2 rC_47 (rI_iw _) (N := 12) (by rw [rN_47]; rfl) (j := (iw ((iw (2 * a1)) + a2)).toNat) rfl hi8 ?_
        exact r_ret1 hr dX11_soul_35 (hs2.1 _ _) hf
      · have hf := ite_f hc5 hf
        refine r_iconst h dX11_soul_20 ?_
        exact r_ret1 hr dX11_soul_21 (rIc rfl) hf
set_option maxRecDepth 20000 in
theorem m_Qu_way {l : Launch} {D : va_G} {cs : Nat → ClassId} {aS aV : Nat} {A : Nat → Prop} {ad : Nat → Nat} {n : Nat} {nl : Nat → Nat → Bool} {out : Int × SS} (hw : w_W0 n nl) (ht : 0 < n) {a1 : Int} (ra1 : rI a1) {a2 : Int} (ra2 : rI a2) {s0 : SS} (hs0 : rS s0) (hf : f_Qu_way a1 a2 s0 = some out) : w_MC l D cs aS aV A yX11_way cX11_way 3 1 rm_Qu_way ad n nl [.ref (ad 0), .int (vI a1), .int (vI a2)] s0 (w_Po ad n nl out) := by
  refine w_MC_of (by decide +kernel) (by decide) hs0 (Nat.le_of_ble_eq_true rfl) (fun K h hr => ?_)
  refine r_lv (lv' := [(0, .ref (ad 0)), (1, .int (vI a1)), (2, .int (vI a2))]) rfl ?_
  unfold f_Qu_way at hf
  refine r_rS h (fun hs0 => ?_)
  refine r_aload_n h dX11_way_0 rfl 0 rfl ?_
  have hq1 := w_ref0 hw (k := 2) (by decide) rf_11_2
  refine g_X11_20 h dX11_way_1 ht rC_0 hq1.1 ?_
  refine r_iload_n h dX11_way_4 rfl 1 rfl ?_
  obtain ⟨r2, s2, hq2, hf⟩ := ob_some hf
  refine r_callV2 h [.int (vI a1)] dX11_way_5 (fun hs => m_La_isWay hw.1 hq1.2 rC_2 ra1 hs hq2) ml_X11_117 cv_La_isWay rfl (co := 4) rfl (by decide) hq1.2 rC_2 ⟨rfl, rfl⟩ ⟨Nat.le_of_ble_eq_true rfl, Nat.le_of_ble_eq_true rfl⟩ ⟨Nat.le_of_ble_eq_true rfl, Nat.le_of_ble_eq_true rfl⟩ (Nat.le_of_ble_eq_true rfl) rfl (fun hr2 hs2 => ?_)
  refine r_if_ne (tgt := 13) h dX11_way_8 (by decide) (rI_b hr2) (fun hc3 => ?_) (fun hc3 => ?_)
  · have hf := ite_f hc3 hf
    refine r_iload_n h dX11_way_13 rfl 2 rfl ?_
    by_cases hc4 : a2 = 0
    · have hf := ite_t hc4 hf
      refine r_tableIn (tgt := 40) h dX11_way_14 hc4 (rIc rfl) (by decide) (by decide) (off := 26) rfl (by decide) ?_
      refine r_aload_n h dX11_way_40 rfl 0 rfl ?_
      have hq5 := w_ref0 hw (k := 2) (by decide) rf_11_2
      refine g_X11_20 h dX11_way_41 ht rC_0 hq5.1 ?_
      have hq6c := rf_4_5 _ rC_2
      have hq6 := w_ref hw.1 hq5.2 rC_2 (by decide) (k := 5) (by decide) hq6c.1
      refine g_X11_120 h dX11_way_44 hq5.2 rC_2 hq6.1 ?_
      refine r_st (st0 := [.ref (ad 6)]) rfl ?_
      refine r_iload_n h dX11_way_47 rfl 1 rfl ?_
      obtain ⟨hi7, hf⟩ := oc_some hf
      refine r_iald h dX11_way_48 hq6.2 rC_6 ra1 (N := 14) (by rw [rN_6]; rfl) (j := (a1).toNat) rfl hi7 ?_
      exact r_ret1 hr dX11_way_49 (hs2.1 _ _) hf
    · have hf := ite_f hc4 hf
      by_cases hc8 : a2 = 1
      · have hf := ite_t hc8 hf
        refine r_tableIn (tgt := 50) h dX11_way_14 hc8 (rIc rfl) (by decide) (by decide) (off := 36) rfl (by decide) ?_
        refine r_aload_n h dX11_way_50 rfl 0 rfl ?_
        have hq9 := w_ref0 hw (k := 2) (by decide) rf_11_2
        refine g_X11_20 h dX11_way_51 ht rC_0 hq9.1 ?_
        have hq10c := rf_4_6 _ rC_2
        have hq10 := w_ref hw.1 hq9.2 rC_2 (by decide) (k := 6) (by decide) hq10c.1
        refine g_X11_123 h dX11_way_54 hq9.2 rC_2 hq10.1 ?_
        refine r_st (st0 := [.ref (ad 7)]) rfl ?_
        refine r_iload_n h dX11_way_57 rfl 1 rfl ?_
        obtain ⟨hi11, hf⟩ := oc_some hf
        refine r_iald h dX11_way_58 hq10.2 rC_7 ra1 (N := 14) (by rw [rN_7]; rfl) (j := (a1).toNat) rfl hi11 ?_
        exact r_ret1 hr dX11_way_59 (hs2.1 _ _) hf
      · have hf := ite_f hc8 hf
        by_cases hc12 : a2 = 2
        · have hf := ite_t hc12 hf
          refine r_tableIn (tgt := 60) h dX11_way_14 hc12 (rIc rfl) (by decide) (by decide) (off := 46) rfl (by decide) ?_
          refine r_aload_n h dX11_way_60 rfl 0 rfl ?_
          have hq13 := w_ref0 hw (k := 2) (by decide) rf_11_2
          refine g_X11_20 h dX11_way_61 ht rC_0 hq13.1 ?_
          have hq14c := rf_4_7 _ rC_2
          have hq14 := w_ref hw.1 hq13.2 rC_2 (by decide) (k := 7) (by decide) hq14c.1
          refine g_X11_126 h dX11_way_64 hq13.2 rC_2 hq14.1 ?_
          refine r_st (st0 := [.ref (ad 8)]) rfl ?_
          refine r_iload_n h dX11_way_67 rfl 1 rfl ?_
          obtain ⟨hi15, hf⟩ := oc_some hf
          refine r_iald h dX11_way_68 hq14.2 rC_8 ra1 (N := 14) (by rw [rN_8]; rfl) (j := (a1).toNat) rfl hi15 ?_
          exact r_ret1 hr dX11_way_69 (hs2.1 _ _) hf
        · have hf := ite_f hc12 hf
          refine r_tableX (tgt := 70) h dX11_way_14 ra2 (by rcases (show a2 < 0 ∨ 2 < a2 from by omega) with q | q; exact Or.inl q; exact Or.inr (Or.inl q)) (by decide) ?_
          refine r_iconst h dX11_way_70 ?_
          exact r_ret1 hr dX11_way_71 (rIc rfl) hf
  · have hf := ite_nf hc3 hf
    refine r_iconst h dX11_way_11 ?_
    exact r_ret1 hr dX11_way_12 (rIc rfl) hf
set_option maxRecDepth 20000 in
theorem m_Qu_quarrel {l : Launch} {D : va_G} {cs : Nat → ClassId} {aS aV : Nat} {A : Nat → Prop} {ad : Nat → Nat} {n : Nat} {nl : Nat → Nat → Bool} {out : Int × SS} (hw : w_W0 n nl) (ht : 0 < n) {a1 : Int} (ra1 : rI a1) {a2 : Int} (ra2 : rI a2) {a3 : Int} (ra3 : rI a3) {s0 : SS} (hs0 : rS s0) (hf : f_Qu_quarrel a1 a2 a3 s0 = some out) : w_MC l D cs aS aV A yX11_quarrel cX11_quarrel 5 1 rm_Qu_quarrel ad n nl [.ref (ad 0), .int (vI a1), .int (vI a2), .int (vI a3)] s0 (w_Po ad n nl out) := by
  refine w_MC_of (by decide +kernel) (by decide) hs0 (Nat.le_of_ble_eq_true rfl) (fun K h hr => ?_)
  refine r_lv (lv' := [(0, .ref (ad 0)), (1, .int (vI a1)), (2, .int (vI a2)), (3, .int (vI a3))]) rfl ?_
  unfold f_Qu_quarrel at hf
  refine r_rS h (fun hs0 => ?_)
  refine r_aload_n h dX11_quarrel_0 rfl 0 rfl ?_
  have hq1 := w_ref0 hw (k := 2) (by decide) rf_11_2
  refine g_X11_20 h dX11_quarrel_1 ht rC_0 hq1.1 ?_
  refine r_iload_n h dX11_quarrel_4 rfl 1 rfl ?_
  refine r_iload_n h dX11_quarrel_5 rfl 2 rfl ?_
  refine r_iload_n h dX11_quarrel_6 rfl 3 rfl ?_
  obtain ⟨r2, s2, hq2, hf⟩ := ob_some hf
  refine r_callV1 h [.int (vI a1), .int (vI a2), .int (vI a3)] dX11_quarrel_7 (fun hs => m_La_couple hw.1 hq1.2 rC_2 ra1 ra2 ra3 hs hq2) ml_X11_129 cv_La_couple rfl (co := 4) rfl (by decide) hq1.2 rC_2 ⟨rfl, rfl⟩ ⟨Nat.le_of_ble_eq_true rfl, Nat.le_of_ble_eq_true rfl⟩ ⟨Nat.le_of_ble_eq_true rfl, Nat.le_of_ble_eq_true rfl⟩ (Nat.le_of_ble_eq_true rfl) rfl (fun hr2 hs2 => ?_)
  refine r_istore h [(4, .int (vI r2)), (0, .ref (ad 0)), (1, .int (vI a1)), (2, .int (vI a2)), (3, .int (vI a3))] dX11_quarrel_10 (by decide) rfl ?_
  refine r_iload h dX11_quarrel_12 0 rfl ?_
  refine r_iconst h dX11_quarrel_14 ?_
  refine r_icmp_ne (tgt := 21) h dX11_quarrel_15 (by decide) hr2 (rIc rfl) (fun hc3 => ?_) (fun hc3 => ?_)
  · have hf := ite_f hc3 hf
    refine r_aload_n h dX11_quarrel_21 rfl 1 rfl ?_
    have hq4 := w_ref0 hw (k := 7) (by decide) rf_11_7
    refine g_X11_60 h dX11_quarrel_22 ht rC_0 hq4.1 ?_
    have hq5c := rf_8_1 _ rC_57
    have hq5 := w_ref hw.1 hq4.2 rC_57 (by decide) (k := 1) (by decide) hq5c.1
    refine g_X11_133 h dX11_quarrel_25 hq4.2 rC_57 hq5.1 ?_
    refine r_st (st0 := [.ref (ad 58)]) rfl ?_
    refine r_iload h dX11_quarrel_28 0 rfl ?_
    obtain ⟨r6, s6, hq6, hf⟩ := ob_some hf
    refine r_callV0 h [.int (vI r2)] dX11_quarrel_30 (fun hs => m_Ta_begin hw.1 hq5.2 rC_58 hr2 hs hq6) ml_X11_137 cv_Ta_begin rfl (co := 9) rfl (by decide) hq5.2 rC_58 ⟨rfl, rfl⟩ ⟨Nat.le_of_ble_eq_true rfl, Nat.le_of_ble_eq_true rfl⟩ ⟨Nat.le_of_ble_eq_true rfl, Nat.le_of_ble_eq_true rfl⟩ (Nat.le_of_ble_eq_true rfl) rfl (fun hr6 hs6 => ?_)
    refine r_aload_n h dX11_quarrel_33 rfl 1 rfl ?_
    have hq7 := w_ref0 hw (k := 7) (by decide) rf_11_7
    refine g_X11_60 h dX11_quarrel_34 ht rC_0 hq7.1 ?_
    have hq8c := rf_8_1 _ rC_57
    have hq8 := w_ref hw.1 hq7.2 rC_57 (by decide) (k := 1) (by decide) hq8c.1
    refine g_X11_133 h dX11_quarrel_37 hq7.2 rC_57 hq8.1 ?_
    refine r_st (st0 := [.ref (ad 58)]) rfl ?_
    refine r_aload_n h dX11_quarrel_40 rfl 1 rfl ?_
    have hq9 := w_ref0 hw (k := 5) (by decide) rf_11_5
    refine g_X11_46 h dX11_quarrel_41 ht rC_0 hq9.1 ?_
    have hq10 := w_ref hw.1 hq9.2 rC_46 (by decide) (k := 1) (by decide) rf_0_1
    refine g_X11_66 h dX11_quarrel_44 hq9.2 rC_46 hq10.1 ?_
    refine r_sipush h dX11_quarrel_47 (by decide) ?_
    obtain ⟨r11, s11, hq11, hf⟩ := ob_some hf
    refine r_callV1 h [.ref (ad 47), .int (vI 200)] dX11_quarrel_50 (fun hs => m_Ta_talkOpenly hw.1 hq8.2 rC_58 hq10.2 rC_47 (rIc rfl) hs hq11) ml_X11_142 cv_Ta_talkOpenly rfl (co := 9) rfl (by decide) hq8.2 rC_58 ⟨rfl, rfl⟩ ⟨Nat.le_of_ble_eq_true rfl, Nat.le_of_ble_eq_true rfl⟩ ⟨Nat.le_of_ble_eq_true rfl, Nat.le_of_ble_eq_true rfl⟩ (Nat.le_of_ble_eq_true rfl) rfl (fun hr11 hs11 => ?_)
    exact r_ret1 hr dX11_quarrel_53 hr11 hf
  · have hf := ite_nf hc3 hf
    refine r_bipush h dX11_quarrel_18 (by decide) ?_
    exact r_ret1 hr dX11_quarrel_20 (rIc rfl) hf
set_option maxRecDepth 20000 in
theorem m_Qu_heat {l : Launch} {D : va_G} {cs : Nat → ClassId} {aS aV : Nat} {A : Nat → Prop} {ad : Nat → Nat} {n : Nat} {nl : Nat → Nat → Bool} {out : Int × SS} (hw : w_W0 n nl) (ht : 0 < n) {a1 : Int} (ra1 : rI a1) {a2 : Int} (ra2 : rI a2) {a3 : Int} (ra3 : rI a3) {a4 : Int} (ra4 : rI a4) {s0 : SS} (hs0 : rS s0) (hf : f_Qu_heat a1 a2 a3 a4 s0 = some out) : w_MC l D cs aS aV A yX11_heat cX11_heat 6 1 rm_Qu_heat ad n nl [.ref (ad 0), .int (vI a1), .int (vI a2), .int (vI a3), .int (vI a4)] s0 (w_Po ad n nl out) := by
  refine w_MC_of (by decide +kernel) (by decide) hs0 (Nat.le_of_ble_eq_true rfl) (fun K h hr => ?_)
  refine r_lv (lv' := [(0, .ref (ad 0)), (1, .int (vI a1)), (2, .int (vI a2)), (3, .int (vI a3)), (4, .int (vI a4))]) rfl ?_
  unfold f_Qu_heat at hf
  refine r_rS h (fun hs0 => ?_)
  refine r_aload_n h dX11_heat_0 rfl 0 rfl ?_
  have hq1 := w_ref0 hw (k := 2) (by decide) rf_11_2
  refine g_X11_20 h dX11_heat_1 ht rC_0 hq1.1 ?_
  refine r_iload_n h dX11_heat_4 rfl 1 rfl ?_
  refine r_iload_n h dX11_heat_5 rfl 2 rfl ?_
  refine r_iload_n h dX11_heat_6 rfl 3 rfl ?_
  obtain ⟨r2, s2, hq2, hf⟩ := ob_some hf
  refine r_callV1 h [.int (vI a1), .int (vI a2), .int (vI a3)] dX11_heat_7 (fun hs => m_La_couple hw.1 hq1.2 rC_2 ra1 ra2 ra3 hs hq2) ml_X11_129 cv_La_couple rfl (co := 4) rfl (by decide) hq1.2 rC_2 ⟨rfl, rfl⟩ ⟨Nat.le_of_ble_eq_true rfl, Nat.le_of_ble_eq_true rfl⟩ ⟨Nat.le_of_ble_eq_true rfl, Nat.le_of_ble_eq_true rfl⟩ (Nat.le_of_ble_eq_true rfl) rfl (fun hr2 hs2 => ?_)
  refine r_istore h [(5, .int (vI r2)), (0, .ref (ad 0)), (1, .int (vI a1)), (2, .int (vI a2)), (3, .int (vI a3)), (4, .int (vI a4))] dX11_heat_10 (by decide) rfl ?_
  refine r_iload h dX11_heat_12 0 rfl ?_
  refine r_iconst h dX11_heat_14 ?_
  refine r_icmp_eq (tgt := 31) h dX11_heat_15 (by decide) hr2 (rIc rfl) (fun hc3 => ?_) (fun hc3 => ?_)
  · have hf := ite_t hc3 hf
    refine r_bipush h dX11_heat_31 (by decide) ?_
    exact r_ret1 hr dX11_heat_33 (rIc rfl) hf
  · have hf := ite_f hc3 hf
    refine r_iload h dX11_heat_18 5 rfl ?_
    refine r_if_lt (tgt := 31) h dX11_heat_20 (by decide) ra4 (fun hc4 => ?_) (fun hc4 => ?_)
    · have hf := ite_t hc4 hf
      refine r_bipush h dX11_heat_31 (by decide) ?_
      exact r_ret1 hr dX11_heat_33 (rIc rfl) hf
    · have hf := ite_f hc4 hf
      refine r_iload h dX11_heat_23 5 rfl ?_
      refine r_sipush h dX11_heat_25 (by decide) ?_
      refine r_icmp_le (tgt := 34) h dX11_heat_28 (by decide) ra4 (rIc rfl) (fun hc5 => ?_) (fun hc5 => ?_)
      · have hf := ite_t hc5 hf
        refine r_aload_n h dX11_heat_34 rfl 1 rfl ?_
        have hq6 := w_ref0 hw (k := 7) (by decide) rf_11_7
        refine g_X11_60 h dX11_heat_35 ht rC_0 hq6.1 ?_
        have hq7c := rf_8_1 _ rC_57
        have hq7 := w_ref hw.1 hq6.2 rC_57 (by decide) (k := 1) (by decide) hq7c.1
        refine g_X11_133 h dX11_heat_38 hq6.2 rC_57 hq7.1 ?_
        refine r_st (st0 := [.ref (ad 58)]) rfl ?_
        refine r_iload h dX11_heat_41 0 rfl ?_
        obtain ⟨r8, s8, hq8, hf⟩ := ob_some hf
        refine r_callV0 h [.int (vI r2)] dX11_heat_43 (fun hs => m_Ta_begin hw.1 hq7.2 rC_58 hr2 hs hq8) ml_X11_137 cv_Ta_begin rfl (co := 9) rfl (by decide) hq7.2 rC_58 ⟨rfl, rfl⟩ ⟨Nat.le_of_ble_eq_true rfl, Nat.le_of_ble_eq_true rfl⟩ ⟨Nat.le_of_ble_eq_true rfl, Nat.le_of_ble_eq_true rfl⟩ (Nat.le_of_ble_eq_true rfl) rfl (fun hr8 hs8 => ?_)
        refine r_aload_n h dX11_heat_46 rfl 1 rfl ?_
        have hq9 := w_ref0 hw (k := 7) (by decide) rf_11_7
        refine g_X11_60 h dX11_heat_47 ht rC_0 hq9.1 ?_
        have hq10c := rf_8_1 _ rC_57
        have hq10 := w_ref hw.1 hq9.2 rC_57 (by decide) (k := 1) (by decide) hq10c.1
        refine g_X11_133 h dX11_heat_50 hq9.2 rC_57 hq10.1 ?_
        refine r_st (st0 := [.ref (ad 58)]) rfl ?_
        refine r_aload_n h dX11_heat_53 rfl 1 rfl ?_
        have hq11 := w_ref0 hw (k := 5) (by decide) rf_11_5
        refine g_X11_46 h dX11_heat_54 ht rC_0 hq11.1 ?_
        have hq12 := w_ref hw.1 hq11.2 rC_46 (by decide) (k := 1) (by decide) rf_0_1
        refine g_X11_66 h dX11_heat_57 hq11.2 rC_46 hq12.1 ?_
        refine r_iload h dX11_heat_60 5 rfl ?_
        obtain ⟨r13, s13, hq13, hf⟩ := ob_some hf
        refine r_callV1 h [.ref (ad 47), .int (vI a4)] dX11_heat_62 (fun hs => m_Ta_talkOpenly hw.1 hq10.2 rC_58 hq12.2 rC_47 ra4 hs hq13) ml_X11_142 cv_Ta_talkOpenly rfl (co := 9) rfl (by decide) hq10.2 rC_58 ⟨rfl, rfl⟩ ⟨Nat.le_of_ble_eq_true rfl, Nat.le_of_ble_eq_true rfl⟩ ⟨Nat.le_of_ble_eq_true rfl, Nat.le_of_ble_eq_true rfl⟩ (Nat.le_of_ble_eq_true rfl) rfl (fun hr13 hs13 => ?_)
        refine r_pop h dX11_heat_65 rfl ?_
        refine r_aload_n h dX11_heat_66 rfl 1 rfl ?_
        have hq14 := w_ref0 hw (k := 7) (by decide) rf_11_7
        refine g_X11_60 h dX11_heat_67 ht rC_0 hq14.1 ?_
        have hq15c := rf_8_1 _ rC_57
        have hq15 := w_ref hw.1 hq14.2 rC_57 (by decide) (k := 1) (by decide) hq15c.1
        refine g_X11_133 h dX11_heat_70 hq14.2 rC_57 hq15.1 ?_
        refine r_st (st0 := [.ref (ad 58)]) rfl ?_
        refine g_X11_146 h dX11_heat_73 hq15.2 rC_58 ?_
        exact r_ret1 hr dX11_heat_76 (hs13.1 _ _) hf
      · have hf := ite_f hc5 hf
        refine r_bipush h dX11_heat_31 (by decide) ?_
        exact r_ret1 hr dX11_heat_33 (rIc rfl) hf
set_option maxRecDepth 20000 in
theorem m_Qu_setOut {l : Launch} {D : va_G} {cs : Nat → ClassId} {aS aV : Nat} {A : Nat → Prop} {ad : Nat → Nat} {n : Nat} {nl : Nat → Nat → Bool} {out : Int × SS} (hw : w_W0 n nl) (ht : 0 < n) {a1 : Int} (ra1 : rI a1) {a2 : Int} (ra2 : rI a2) {a3 : Int} (ra3 : rI a3) {a4 : Int} (ra4 : rI a4) {s0 : SS} (hs0 : rS s0) (hf : f_Qu_setOut a1 a2 a3 a4 s0 = some out) : w_MC l D cs aS aV A yX11_setOut cX11_setOut 6 1 rm_Qu_setOut ad n nl [.ref (ad 0), .int (vI a1), .int (vI a2), .int (vI a3), .int (vI a4)] s0 (w_Po ad n nl out) := by
  refine w_MC_of (by decide +kernel) (by decide) hs0 (Nat.le_of_ble_eq_true rfl) (fun K h hr => ?_)
  refine r_lv (lv' := [(0, .ref (ad 0)), (1, .int (vI a1)), (2, .int (vI a2)), (3, .int (vI a3)), (4, .int (vI a4))]) rfl ?_
  unfold f_Qu_setOut at hf
  refine r_rS h (fun hs0 => ?_)
  refine r_aload_n h dX11_setOut_0 rfl 0 rfl ?_
  have hq1 := w_ref0 hw (k := 2) (by decide) rf_11_2
  refine g_X11_20 h dX11_setOut_1 ht rC_0 hq1.1 ?_
  refine r_iload_n h dX11_setOut_4 rfl 1 rfl ?_
  refine r_iload_n h dX11_setOut_5 rfl 2 rfl ?_
  refine r_iload_n h dX11_setOut_6 rfl 3 rfl ?_
  obtain ⟨r2, s2, hq2, hf⟩ := ob_some hf
  refine r_callV1 h [.int (vI a1), .int (vI a2), .int (vI a3)] dX11_setOut_7 (fun hs => m_La_couple hw.1 hq1.2 rC_2 ra1 ra2 ra3 hs hq2) ml_X11_129 cv_La_couple rfl (co := 4) rfl (by decide) hq1.2 rC_2 ⟨rfl, rfl⟩ ⟨Nat.le_of_ble_eq_true rfl, Nat.le_of_ble_eq_true rfl⟩ ⟨Nat.le_of_ble_eq_true rfl, Nat.le_of_ble_eq_true rfl⟩ (Nat.le_of_ble_eq_true rfl) rfl (fun hr2 hs2 => ?_)
  refine r_istore h [(5, .int (vI r2)), (0, .ref (ad 0)), (1, .int (vI a1)), (2, .int (vI a2)), (3, .int (vI a3)), (4, .int (vI a4))] dX11_setOut_10 (by decide) rfl ?_
  refine r_iload h dX11_setOut_12 0 rfl ?_
  refine r_iconst h dX11_setOut_14 ?_
  refine r_icmp_eq (tgt := 30) h dX11_setOut_15 (by decide) hr2 (rIc rfl) (fun hc3 => ?_) (fun hc3 => ?_)
  · have hf := ite_t hc3 hf
    refine r_iconst h dX11_setOut_30 ?_
    exact r_ret1 hr dX11_setOut_31 (rIc rfl) hf
  · have hf := ite_f hc3 hf
    refine r_aload_n h dX11_setOut_18 rfl 1 rfl ?_
    have hq4 := w_ref0 hw (k := 2) (by decide) rf_11_2
    refine g_X11_20 h dX11_setOut_19 ht rC_0 hq4.1 ?_
    refine r_iload h dX11_setOut_22 5 rfl ?_
    obtain ⟨r5, s5, hq5, hf⟩ := ob_some hf
    refine r_callV2 h [.int (vI a4)] dX11_setOut_24 (fun hs => m_La_isPlace hw.1 hq4.2 rC_2 ra4 hs hq5) ml_X11_149 cv_La_isPlace rfl (co := 4) rfl (by decide) hq4.2 rC_2 ⟨rfl, rfl⟩ ⟨Nat.le_of_ble_eq_true rfl, Nat.le_of_ble_eq_true rfl⟩ ⟨Nat.le_of_ble_eq_true rfl, Nat.le_of_ble_eq_true rfl⟩ (Nat.le_of_ble_eq_true rfl) rfl (fun hr5 hs5 => ?_)
    refine r_if_ne (tgt := 32) h dX11_setOut_27 (by decide) (rI_b hr5) (fun hc6 => ?_) (fun hc6 => ?_)
    · have hf := ite_f hc6 hf
      refine r_aload_n h dX11_setOut_32 rfl 1 rfl ?_
      have hq7 := w_ref0 hw (k := 5) (by decide) rf_11_5
      refine g_X11_46 h dX11_setOut_33 ht rC_0 hq7.1 ?_
      refine r_iload h dX11_setOut_36 0 rfl ?_
      refine r_iload h dX11_setOut_38 5 rfl ?_
      obtain ⟨r8, s8, hq8, hf⟩ := ob_some hf
      refine r_callV0 h [.int (vI r2), .int (vI a4)] dX11_setOut_40 (fun hs => m_Ea_beginWalk hw.1 hq7.2 hr2 ra4 hs hq8) ml_X11_152 cv_Ea_beginWalk rfl (co := 0) rfl (by decide) hq7.2 rC_46 ⟨rfl, rfl⟩ ⟨Nat.le_of_ble_eq_true rfl, Nat.le_of_ble_eq_true rfl⟩ ⟨Nat.le_of_ble_eq_true rfl, Nat.le_of_ble_eq_true rfl⟩ (Nat.le_of_ble_eq_true rfl) rfl (fun hr8 hs8 => ?_)
      refine r_iconst h dX11_setOut_43 ?_
      exact r_ret1 hr dX11_setOut_44 (rIc rfl) hf
    · have hf := ite_nf hc6 hf
      refine r_iconst h dX11_setOut_30 ?_
      exact r_ret1 hr dX11_setOut_31 (rIc rfl) hf
set_option maxRecDepth 20000 in
theorem m_Qu_take {l : Launch} {D : va_G} {cs : Nat → ClassId} {aS aV : Nat} {A : Nat → Prop} {ad : Nat → Nat} {n : Nat} {nl : Nat → Nat → Bool} {out : Int × SS} (hw : w_W0 n nl) (ht : 0 < n) {a1 : Int} (ra1 : rI a1) {s0 : SS} (hs0 : rS s0) (hf : f_Qu_take a1 s0 = some out) : w_MC l D cs aS aV A yX11_take cX11_take 2 1 rm_Qu_take ad n nl [.ref (ad 0), .int (vI a1)] s0 (w_Po ad n nl out) := by
  refine w_MC_of (by decide +kernel) (by decide) hs0 (Nat.le_of_ble_eq_true rfl) (fun K h hr => ?_)
  refine r_lv (lv' := [(0, .ref (ad 0)), (1, .int (vI a1))]) rfl ?_
  unfold f_Qu_take at hf
  refine r_rS h (fun hs0 => ?_)
  refine r_aload_n h dX11_take_0 rfl 0 rfl ?_
  have hq1 := w_ref0 hw (k := 5) (by decide) rf_11_5
  refine g_X11_46 h dX11_take_1 ht rC_0 hq1.1 ?_
  refine r_iload_n h dX11_take_4 rfl 1 rfl ?_
  obtain ⟨r2, s2, hq2, hf⟩ := ob_some hf
  refine r_callV1 h [.int (vI a1)] dX11_take_5 (fun hs => m_Ea_takeWay hw.1 hq1.2 ra1 hs hq2) ml_X11_156 cv_Ea_takeWay rfl (co := 0) rfl (by decide) hq1.2 rC_46 ⟨rfl, rfl⟩ ⟨Nat.le_of_ble_eq_true rfl, Nat.le_of_ble_eq_true rfl⟩ ⟨Nat.le_of_ble_eq_true rfl, Nat.le_of_ble_eq_true rfl⟩ (Nat.le_of_ble_eq_true rfl) rfl (fun hr2 hs2 => ?_)
  exact r_ret1 hr dX11_take_8 hr2 hf
set_option maxRecDepth 20000 in
theorem m_Qu_words {l : Launch} {D : va_G} {cs : Nat → ClassId} {aS aV : Nat} {A : Nat → Prop} {ad : Nat → Nat} {n : Nat} {nl : Nat → Nat → Bool} {out : Int × SS} (hw : w_W0 n nl) (ht : 0 < n) {a1 : Int} (ra1 : rI a1) {s0 : SS} (hs0 : rS s0) (hf : f_Qu_words a1 s0 = some out) : w_MC l D cs aS aV A yX11_words cX11_words 2 1 rm_Qu_words ad n nl [.ref (ad 0), .int (vI a1)] s0 (w_Po ad n nl out) := by
  refine w_MC_of (by decide +kernel) (by decide) hs0 (Nat.le_of_ble_eq_true rfl) (fun K h hr => ?_)
  refine r_lv (lv' := [(0, .ref (ad 0)), (1, .int (vI a1))]) rfl ?_
  unfold f_Qu_words at hf
  refine r_rS h (fun hs0 => ?_)
  refine r_iload_n h dX11_words_0 rfl 1 rfl ?_
  refine r_if_lt (tgt := 10) h dX11_words_1 (by decide) ra1 (fun hc1 => ?_) (fun hc1 => ?_)
  · have hf := ite_t hc1 hf
    refine r_iconst h dX11_words_10 ?_
    exact r_ret1 hr dX11_words_11 (rIc rfl) hf
  · have hf := ite_f hc1 hf
    refine r_iload_n h dX11_words_4 rfl 1 rfl ?_
    refine r_bipush h dX11_words_5 (by decide) ?_
    refine r_icmp_le (tgt := 12) h dX11_words_7 (by decide) ra1 (rIc rfl) (fun hc2 => ?_) (fun hc2 => ?_)
    · have hf := ite_t hc2 hf
      refine r_aload_n h dX11_words_12 rfl 0 rfl ?_
      have hq3 := w_ref0 hw (k := 5) (by decide) rf_11_5
      refine g_X11_46 h dX11_words_13 ht rC_0 hq3.1 ?_
      refine r_iload_n h dX11_words_16 rfl 1 rfl ?_
      obtain ⟨r4, s4, hq4, hf⟩ := ob_some hf
      refine r_callV1 h [.int (vI a1)] dX11_words_17 (fun hs => m_Ea_sayWords hw.1 hq3.2 ra1 hs hq4) ml_X11_160 cv_Ea_sayWords rfl (co := 0) rfl (by decide) hq3.2 rC_46 ⟨rfl, rfl⟩ ⟨Nat.le_of_ble_eq_true rfl, Nat.le_of_ble_eq_true rfl⟩ ⟨Nat.le_of_ble_eq_true rfl, Nat.le_of_ble_eq_true rfl⟩ (Nat.le_of_ble_eq_true rfl) rfl (fun hr4 hs4 => ?_)
      exact r_ret1 hr dX11_words_20 hr4 hf
    · have hf := ite_f hc2 hf
      refine r_iconst h dX11_words_10 ?_
      exact r_ret1 hr dX11_words_11 (rIc rfl) hf
set_option maxRecDepth 20000 in
theorem m_Qu_year {l : Launch} {D : va_G} {cs : Nat → ClassId} {aS aV : Nat} {A : Nat → Prop} {ad : Nat → Nat} {n : Nat} {nl : Nat → Nat → Bool} {out : Int × SS} (hw : w_W0 n nl) (ht : 0 < n) {s0 : SS} (hs0 : rS s0) (hf : f_Qu_year s0 = some out) : w_MC l D cs aS aV A yX11_year cX11_year 1 1 rm_Qu_year ad n nl [.ref (ad 0)] s0 (w_Po ad n nl out) := by
  refine w_MC_of (by decide +kernel) (by decide) hs0 (Nat.le_of_ble_eq_true rfl) (fun K h hr => ?_)
  refine r_lv (lv' := [(0, .ref (ad 0))]) rfl ?_
  unfold f_Qu_year at hf
  refine r_rS h (fun hs0 => ?_)
  refine r_aload_n h dX11_year_0 rfl 0 rfl ?_
  have hq1 := w_ref0 hw (k := 5) (by decide) rf_11_5
  refine g_X11_46 h dX11_year_1 ht rC_0 hq1.1 ?_
  obtain ⟨r2, s2, hq2, hf⟩ := ob_some hf
  refine r_callV1 h [] dX11_year_4 (fun hs => m_Ea_passYear hw.1 hq1.2 hs hq2) ml_X11_163 cv_Ea_passYear rfl (co := 0) rfl (by decide) hq1.2 rC_46 ⟨rfl, rfl⟩ ⟨Nat.le_of_ble_eq_true rfl, Nat.le_of_ble_eq_true rfl⟩ ⟨Nat.le_of_ble_eq_true rfl, Nat.le_of_ble_eq_true rfl⟩ (Nat.le_of_ble_eq_true rfl) rfl (fun hr2 hs2 => ?_)
  exact r_ret1 hr dX11_year_7 hr2 hf
set_option maxRecDepth 20000 in
theorem m_Qu_walk {l : Launch} {D : va_G} {cs : Nat → ClassId} {aS aV : Nat} {A : Nat → Prop} {ad : Nat → Nat} {n : Nat} {nl : Nat → Nat → Bool} {out : Int × SS} (hw : w_W0 n nl) (ht : 0 < n) {a1 : Int} (ra1 : rI a1) {s0 : SS} (hs0 : rS s0) (hf : f_Qu_walk a1 s0 = some out) : w_MC l D cs aS aV A yX11_walk cX11_walk 2 1 rm_Qu_walk ad n nl [.ref (ad 0), .int (vI a1)] s0 (w_Po ad n nl out) := by
  refine w_MC_of (by decide +kernel) (by decide) hs0 (Nat.le_of_ble_eq_true rfl) (fun K h hr => ?_)
  refine r_lv (lv' := [(0, .ref (ad 0)), (1, .int (vI a1))]) rfl ?_
  unfold f_Qu_walk at hf
  refine r_rS h (fun hs0 => ?_)
  refine r_aload_n h dX11_walk_0 rfl 0 rfl ?_
  have hq1 := w_ref0 hw (k := 5) (by decide) rf_11_5
  refine g_X11_46 h dX11_walk_1 ht rC_0 hq1.1 ?_
  refine r_iload_n h dX11_walk_4 rfl 1 rfl ?_
  obtain ⟨r2, s2, hq2, hf⟩ := ob_some hf
  refine r_callV1 h [.int (vI a1)] dX11_walk_5 (fun hs => m_Ea_tellWalk hw.1 hq1.2 ra1 hs hq2) ml_X11_167 cv_Ea_tellWalk rfl (co := 0) rfl (by decide) hq1.2 rC_46 ⟨rfl, rfl⟩ ⟨Nat.le_of_ble_eq_true rfl, Nat.le_of_ble_eq_true rfl⟩ ⟨Nat.le_of_ble_eq_true rfl, Nat.le_of_ble_eq_true rfl⟩ (Nat.le_of_ble_eq_true rfl) rfl (fun hr2 hs2 => ?_)
  exact r_ret1 hr dX11_walk_8 hr2 hf
set_option maxRecDepth 20000 in
theorem m_Qu_undo {l : Launch} {D : va_G} {cs : Nat → ClassId} {aS aV : Nat} {A : Nat → Prop} {ad : Nat → Nat} {n : Nat} {nl : Nat → Nat → Bool} {out : Int × SS} (hw : w_W0 n nl) (ht : 0 < n) {s0 : SS} (hs0 : rS s0) (hf : f_Qu_undo s0 = some out) : w_MC l D cs aS aV A yX11_undo cX11_undo 1 2 rm_Qu_undo ad n nl [.ref (ad 0)] s0 (w_Po ad n nl out) := by
  refine w_MC_of (by decide +kernel) (by decide) hs0 (Nat.le_of_ble_eq_true rfl) (fun K h hr => ?_)
  refine r_lv (lv' := [(0, .ref (ad 0))]) rfl ?_
  unfold f_Qu_undo at hf
  refine r_rS h (fun hs0 => ?_)
  refine r_aload_n h dX11_undo_0 rfl 0 rfl ?_
  have hq1 := w_ref0 hw (k := 5) (by decide) rf_11_5
  refine g_X11_46 h dX11_undo_1 ht rC_0 hq1.1 ?_
  obtain ⟨r2, s2, hq2, hf⟩ := ob_some hf
  refine r_callV2 h [] dX11_undo_4 (fun hs => m_Ea_takeBack hw.1 hq1.2 hs hq2) ml_X11_170 cv_Ea_takeBack rfl (co := 0) rfl (by decide) hq1.2 rC_46 ⟨rfl, rfl⟩ ⟨Nat.le_of_ble_eq_true rfl, Nat.le_of_ble_eq_true rfl⟩ ⟨Nat.le_of_ble_eq_true rfl, Nat.le_of_ble_eq_true rfl⟩ (Nat.le_of_ble_eq_true rfl) rfl (fun hr2 hs2 => ?_)
  exact r_ret2 hr dX11_undo_7 hr2 hf
set_option maxRecDepth 20000 in
theorem m_Qu_redo {l : Launch} {D : va_G} {cs : Nat → ClassId} {aS aV : Nat} {A : Nat → Prop} {ad : Nat → Nat} {n : Nat} {nl : Nat → Nat → Bool} {out : Int × SS} (hw : w_W0 n nl) (ht : 0 < n) {s0 : SS} (hs0 : rS s0) (hf : f_Qu_redo s0 = some out) : w_MC l D cs aS aV A yX11_redo cX11_redo 1 2 rm_Qu_redo ad n nl [.ref (ad 0)] s0 (w_Po ad n nl out) := by
  refine w_MC_of (by decide +kernel) (by decide) hs0 (Nat.le_of_ble_eq_true rfl) (fun K h hr => ?_)
  refine r_lv (lv' := [(0, .ref (ad 0))]) rfl ?_
  unfold f_Qu_redo at hf
  refine r_rS h (fun hs0 => ?_)
  refine r_aload_n h dX11_redo_0 rfl 0 rfl ?_
  have hq1 := w_ref0 hw (k := 5) (by decide) rf_11_5
  refine g_X11_46 h dX11_redo_1 ht rC_0 hq1.1 ?_
  obtain ⟨r2, s2, hq2, hf⟩ := ob_some hf
  refine r_callV2 h [] dX11_redo_4 (fun hs => m_Ea_doAgain hw.1 hq1.2 hs hq2) ml_X11_174 cv_Ea_doAgain rfl (co := 0) rfl (by decide) hq1.2 rC_46 ⟨rfl, rfl⟩ ⟨Nat.le_of_ble_eq_true rfl, Nat.le_of_ble_eq_true rfl⟩ ⟨Nat.le_of_ble_eq_true rfl, Nat.le_of_ble_eq_true rfl⟩ (Nat.le_of_ble_eq_true rfl) rfl (fun hr2 hs2 => ?_)
  exact r_ret2 hr dX11_redo_7 hr2 hf
set_option maxRecDepth 20000 in
theorem m_Qu_start {l : Launch} {D : va_G} {cs : Nat → ClassId} {aS aV : Nat} {A : Nat → Prop} {ad : Nat → Nat} {n : Nat} {nl : Nat → Nat → Bool} {out : Int × SS} (hw : w_W0 n nl) (ht : 0 < n) {a1 : Int} (ra1 : rI a1) {s0 : SS} (hs0 : rS s0) (hf : f_Qu_start a1 s0 = some out) : w_MC l D cs aS aV A yX11_start cX11_start 2 1 rm_Qu_start ad n nl [.ref (ad 0), .int (vI a1)] s0 (w_Po ad n nl out) := by
  refine w_MC_of (by decide +kernel) (by decide) hs0 (Nat.le_of_ble_eq_true rfl) (fun K h hr => ?_)
  refine r_lv (lv' := [(0, .ref (ad 0)), (1, .int (vI a1))]) rfl ?_
  unfold f_Qu_start at hf
  refine r_rS h (fun hs0 => ?_)
  refine r_aload_n h dX11_start_0 rfl 0 rfl ?_
  have hq1 := w_ref0 hw (k := 2) (by decide) rf_11_2
  refine g_X11_20 h dX11_start_1 ht rC_0 hq1.1 ?_
  refine r_iload_n h dX11_start_4 rfl 1 rfl ?_
  obtain ⟨r2, s2, hq2, hf⟩ := ob_some hf
  refine r_callV2 h [.int (vI a1)] dX11_start_5 (fun hs => m_La_isPlace hw.1 hq1.2 rC_2 ra1 hs hq2) ml_X11_149 cv_La_isPlace rfl (co := 4) rfl (by decide) hq1.2 rC_2 ⟨rfl, rfl⟩ ⟨Nat.le_of_ble_eq_true rfl, Nat.le_of_ble_eq_true rfl⟩ ⟨Nat.le_of_ble_eq_true rfl, Nat.le_of_ble_eq_true rfl⟩ (Nat.le_of_ble_eq_true rfl) rfl (fun hr2 hs2 => ?_)
  refine r_if_ne (tgt := 13) h dX11_start_8 (by decide) (rI_b hr2) (fun hc3 => ?_) (fun hc3 => ?_)
  · have hf := ite_f hc3 hf
    refine r_aload_n h dX11_start_13 rfl 0 rfl ?_
    have hq4 := w_ref0 hw (k := 6) (by decide) rf_11_6
    refine g_X11_53 h dX11_start_14 ht rC_0 hq4.1 ?_
    refine r_iload_n h dX11_start_17 rfl 1 rfl ?_
    obtain ⟨r5, s5, hq5, hf⟩ := ob_some hf
    refine r_callV0 h [.int (vI a1)] dX11_start_18 (fun hs => m_Ro_reset hw.1 hq4.2 rC_54 ra1 hs hq5) ml_X11_95 cv_Ro_reset rfl (co := 7) rfl (by decide) hq4.2 rC_54 ⟨rfl, rfl⟩ ⟨Nat.le_of_ble_eq_true rfl, Nat.le_of_ble_eq_true rfl⟩ ⟨Nat.le_of_ble_eq_true rfl, Nat.le_of_ble_eq_true rfl⟩ (Nat.le_of_ble_eq_true rfl) rfl (fun hr5 hs5 => ?_)
    refine r_iconst h dX11_start_21 ?_
    exact r_ret1 hr dX11_start_22 (rIc rfl) hf
  · have hf := ite_nf hc3 hf
    refine r_iconst h dX11_start_11 ?_
    exact r_ret1 hr dX11_start_12 (rIc rfl) hf
set_option maxRecDepth 20000 in
theorem m_Qu_step {l : Launch} {D : va_G} {cs : Nat → ClassId} {aS aV : Nat} {A : Nat → Prop} {ad : Nat → Nat} {n : Nat} {nl : Nat → Nat → Bool} {out : Int × SS} (hw : w_W0 n nl) (ht : 0 < n) {a1 : Int} (ra1 : rI a1) {s0 : SS} (hs0 : rS s0) (hf : f_Qu_step a1 s0 = some out) : w_MC l D cs aS aV A yX11_step cX11_step 2 1 rm_Qu_step ad n nl [.ref (ad 0), .int (vI a1)] s0 (w_Po ad n nl out) := by
  refine w_MC_of (by decide +kernel) (by decide) hs0 (Nat.le_of_ble_eq_true rfl) (fun K h hr => ?_)
  refine r_lv (lv' := [(0, .ref (ad 0)), (1, .int (vI a1))]) rfl ?_
  unfold f_Qu_step at hf
  refine r_rS h (fun hs0 => ?_)
  refine r_aload_n h dX11_step_0 rfl 0 rfl ?_
  have hq1 := w_ref0 hw (k := 6) (by decide) rf_11_6
  refine g_X11_53 h dX11_step_1 ht rC_0 hq1.1 ?_
  refine r_aload_n h dX11_step_4 rfl 0 rfl ?_
  have hq2 := w_ref0 hw (k := 2) (by decide) rf_11_2
  refine g_X11_20 h dX11_step_5 ht rC_0 hq2.1 ?_
  refine r_iload_n h dX11_step_8 rfl 1 rfl ?_
  obtain ⟨r3, s3, hq3, hf⟩ := ob_some hf
  refine r_callV2 h [.ref (ad 2), .int (vI a1)] dX11_step_9 (fun hs => m_Ro_append hw.1 hq1.2 rC_54 hq2.2 rC_2 ra1 hs hq3) ml_X11_177 cv_Ro_append rfl (co := 7) rfl (by decide) hq1.2 rC_54 ⟨rfl, rfl⟩ ⟨Nat.le_of_ble_eq_true rfl, Nat.le_of_ble_eq_true rfl⟩ ⟨Nat.le_of_ble_eq_true rfl, Nat.le_of_ble_eq_true rfl⟩ (Nat.le_of_ble_eq_true rfl) rfl (fun hr3 hs3 => ?_)
  refine r_if_eq (tgt := 25) h dX11_step_12 (by decide) (rI_b hr3) (fun hc4 => ?_) (fun hc4 => ?_)
  · have hf := ite_t hc4 hf
    refine r_iconst h dX11_step_25 ?_
    exact r_ret1 hr dX11_step_26 (rIc rfl) hf
  · have hf := ite_f hc4 hf
    refine r_aload_n h dX11_step_15 rfl 0 rfl ?_
    have hq5 := w_ref0 hw (k := 6) (by decide) rf_11_6
    refine g_X11_53 h dX11_step_16 ht rC_0 hq5.1 ?_
    refine g_X11_180 h dX11_step_19 hq5.2 rC_54 ?_
    refine r_goto (tgt := 26) h dX11_step_22 (by decide) ?_
    exact r_ret1 hr dX11_step_26 (hs3.1 _ _) hf
set_option maxRecDepth 20000 in
theorem m_Qu_walked {l : Launch} {D : va_G} {cs : Nat → ClassId} {aS aV : Nat} {A : Nat → Prop} {ad : Nat → Nat} {n : Nat} {nl : Nat → Nat → Bool} {out : Int × SS} (hw : w_W0 n nl) (ht : 0 < n) {a1 : Int} (ra1 : rI a1) {a2 : Int} (ra2 : rI a2) {a3 : Int} (ra3 : rI a3) {a4 : Int} (ra4 : rI a4) {s0 : SS} (hs0 : rS s0) (hf : f_Qu_walked a1 a2 a3 a4 s0 = some out) : w_MC l D cs aS aV A yX11_walked cX11_walked 7 1 rm_Qu_walked ad n nl [.ref (ad 0), .int (vI a1), .int (vI a2), .int (vI a3), .int (vI a4)] s0 (w_Po ad n nl out) := by
  refine w_MC_of (by decide +kernel) (by decide) hs0 (Nat.le_of_ble_eq_true rfl) (fun K h hr => ?_)
  refine r_lv (lv' := [(0, .ref (ad 0)), (1, .int (vI a1)), (2, .int (vI a2)), (3, .int (vI a3)), (4, .int (vI a4))]) rfl ?_
  unfold f_Qu_walked at hf
  refine r_rS h (fun hs0 => ?_)
  refine r_aload_n h dX11_walked_0 rfl 0 rfl ?_
  have hq1 := w_ref0 hw (k := 2) (by decide) rf_11_2
  refine g_X11_20 h dX11_walked_1 ht rC_0 hq1.1 ?_
  refine r_iload_n h dX11_walked_4 rfl 1 rfl ?_
  refine r_iload_n h dX11_walked_5 rfl 2 rfl ?_
  refine r_iload_n h dX11_walked_6 rfl 3 rfl ?_
  obtain ⟨r2, s2, hq2, hf⟩ := ob_some hf
  refine r_callV1 h [.int (vI a1), .int (vI a2), .int (vI a3)] dX11_walked_7 (fun hs => m_La_couple hw.1 hq1.2 rC_2 ra1 ra2 ra3 hs hq2) ml_X11_129 cv_La_couple rfl (co := 4) rfl (by decide) hq1.2 rC_2 ⟨rfl, rfl⟩ ⟨Nat.le_of_ble_eq_true rfl, Nat.le_of_ble_eq_true rfl⟩ ⟨Nat.le_of_ble_eq_true rfl, Nat.le_of_ble_eq_true rfl⟩ (Nat.le_of_ble_eq_true rfl) rfl (fun hr2 hs2 => ?_)
  refine r_istore h [(5, .int (vI r2)), (0, .ref (ad 0)), (1, .int (vI a1)), (2, .int (vI a2)), (3, .int (vI a3)), (4, .int (vI a4))] dX11_walked_10 (by decide) rfl ?_
  refine r_iload h dX11_walked_12 0 rfl ?_
  refine r_iconst h dX11_walked_14 ?_
  refine r_icmp_eq (tgt := 40) h dX11_walked_15 (by decide) hr2 (rIc rfl) (fun hc3 => ?_) (fun hc3 => ?_)
  · have hf := ite_t hc3 hf
    refine r_bipush h dX11_walked_40 (by decide) ?_
    exact r_ret1 hr dX11_walked_42 (rIc rfl) hf
  · have hf := ite_f hc3 hf
    refine r_aload_n h dX11_walked_18 rfl 1 rfl ?_
    have hq4 := w_ref0 hw (k := 6) (by decide) rf_11_6
    refine g_X11_53 h dX11_walked_19 ht rC_0 hq4.1 ?_
    refine g_X11_183 h dX11_walked_22 hq4.2 rC_54 ?_
    refine r_iconst h dX11_walked_25 ?_
    refine r_icmp_eq (tgt := 40) h dX11_walked_26 (by decide) (hs2.1 _ _) (rIc rfl) (fun hc5 => ?_) (fun hc5 => ?_)
    · have hf := ite_t hc5 hf
      refine r_bipush h dX11_walked_40 (by decide) ?_
      exact r_ret1 hr dX11_walked_42 (rIc rfl) hf
    · have hf := ite_f hc5 hf
      refine r_iload h dX11_walked_29 5 rfl ?_
      refine r_if_lt (tgt := 40) h dX11_walked_31 (by decide) ra4 (fun hc6 => ?_) (fun hc6 => ?_)
      · have hf := ite_t hc6 hf
        refine r_bipush h dX11_walked_40 (by decide) ?_
        exact r_ret1 hr dX11_walked_42 (rIc rfl) hf
      · have hf := ite_f hc6 hf
        refine r_iload h dX11_walked_34 5 rfl ?_
        refine r_iconst h dX11_walked_36 ?_
        refine r_icmp_le (tgt := 43) h dX11_walked_37 (by decide) ra4 (rIc rfl) (fun hc7 => ?_) (fun hc7 => ?_)
        · have hf := ite_t hc7 hf
          refine r_aload_n h dX11_walked_43 rfl 1 rfl ?_
          have hq8 := w_ref0 hw (k := 7) (by decide) rf_11_7
          refine g_X11_60 h dX11_walked_44 ht rC_0 hq8.1 ?_
          refine r_iload h dX11_walked_47 0 rfl ?_
          obtain ⟨r9, s9, hq9, hf⟩ := ob_some hf
          refine r_callV0 h [.int (vI r2)] dX11_walked_49 (fun hs => m_St_begin hw.1 hq8.2 rC_57 hr2 hs hq9) ml_X11_186 cv_St_begin rfl (co := 8) rfl (by decide) hq8.2 rC_57 ⟨rfl, rfl⟩ ⟨Nat.le_of_ble_eq_true rfl, Nat.le_of_ble_eq_true rfl⟩ ⟨Nat.le_of_ble_eq_true rfl, Nat.le_of_ble_eq_true rfl⟩ (Nat.le_of_ble_eq_true rfl) rfl (fun hr9 hs9 => ?_)
          refine r_aload_n h dX11_walked_52 rfl 1 rfl ?_
          have hq10 := w_ref0 hw (k := 7) (by decide) rf_11_7
          refine g_X11_60 h dX11_walked_53 ht rC_0 hq10.1 ?_
          refine r_aload_n h dX11_walked_56 rfl 1 rfl ?_
          have hq11 := w_ref0 hw (k := 5) (by decide) rf_11_5
          refine g_X11_46 h dX11_walked_57 ht rC_0 hq11.1 ?_
          have hq12 := w_ref hw.1 hq11.2 rC_46 (by decide) (k := 1) (by decide) rf_0_1
          refine g_X11_66 h dX11_walked_60 hq11.2 rC_46 hq12.1 ?_
          refine r_aload_n h dX11_walked_63 rfl 1 rfl ?_
          have hq13 := w_ref0 hw (k := 6) (by decide) rf_11_6
          refine g_X11_53 h dX11_walked_64 ht rC_0 hq13.1 ?_
          obtain ⟨r14, s14, hq14, hf⟩ := ob_some hf
          refine r_callV2 h [.ref (ad 47), .ref (ad 54)] dX11_walked_67 (fun hs => m_St_goOn hw.1 hq10.2 rC_57 hq12.2 rC_47 hq13.2 rC_54 hs hq14) ml_X11_187 cv_St_goOn rfl (co := 8) rfl (by decide) hq10.2 rC_57 ⟨rfl, rfl⟩ ⟨Nat.le_of_ble_eq_true rfl, Nat.le_of_ble_eq_true rfl⟩ ⟨Nat.le_of_ble_eq_true rfl, Nat.le_of_ble_eq_true rfl⟩ (Nat.le_of_ble_eq_true rfl) rfl (fun hr14 hs14 => ?_)
          refine r_istore h [(6, .int (vI r14)), (5, .int (vI r2)), (0, .ref (ad 0)), (1, .int (vI a1)), (2, .int (vI a2)), (3, .int (vI a3)), (4, .int (vI a4))] dX11_walked_70 (by decide) rfl ?_
          refine r_iload h dX11_walked_72 6 rfl ?_
          refine r_iconst h dX11_walked_74 ?_
          refine r_icmp_ne (tgt := 89) h dX11_walked_75 (by decide) ra4 (rIc rfl) (fun hc15 => ?_) (fun hc15 => ?_)
          · have hf := ite_f hc15 hf
            refine r_iload h dX11_walked_89 0 rfl ?_
            refine r_if_ne (tgt := 96) h dX11_walked_91 (by decide) (rI_b hr14) (fun hc16 => ?_) (fun hc16 => ?_)
            · have hf := ite_f hc16 hf
              refine r_iload h dX11_walked_96 6 rfl ?_
              refine r_if_ne (tgt := 112) h dX11_walked_98 (by decide) ra4 (fun hc17 => ?_) (fun hc17 => ?_)
              · have hf := ite_f hc17 hf
                refine r_iload h dX11_walked_112 6 rfl ?_
                refine r_iconst h dX11_walked_114 ?_
                refine r_icmp_ne (tgt := 128) h dX11_walked_115 (by decide) ra4 (rIc rfl) (fun hc18 => ?_) (fun hc18 => ?_)
                · have hf := ite_f hc18 hf
                  refine r_aload_n h dX11_walked_128 rfl 2 rfl ?_
                  have hq19 := w_ref0 hw (k := 7) (by decide) rf_11_7
                  refine g_X11_60 h dX11_walked_129 ht rC_0 hq19.1 ?_
                  refine g_X11_197 h dX11_walked_132 hq19.2 rC_57 ?_
                  exact r_ret1 hr dX11_walked_135 (hs14.1 _ _) hf
                · have hf := ite_nf hc18 hf
                  refine r_aload_n h dX11_walked_118 rfl 2 rfl ?_
                  have hq20 := w_ref0 hw (k := 7) (by decide) rf_11_7
                  refine g_X11_60 h dX11_walked_119 ht rC_0 hq20.1 ?_
                  refine g_X11_194 h dX11_walked_122 hq20.2 rC_57 ?_
                  refine r_goto (tgt := 135) h dX11_walked_125 (by decide) ?_
                  exact r_ret1 hr dX11_walked_135 (hs14.1 _ _) hf
              · have hf := ite_nf hc17 hf
                refine r_aload_n h dX11_walked_101 rfl 2 rfl ?_
                have hq21 := w_ref0 hw (k := 7) (by decide) rf_11_7
                refine g_X11_60 h dX11_walked_102 ht rC_0 hq21.1 ?_
                have hq22c := rf_8_1 _ rC_57
                have hq22 := w_ref hw.1 hq21.2 rC_57 (by decide) (k := 1) (by decide) hq22c.1
                refine g_X11_133 h dX11_walked_105 hq21.2 rC_57 hq22.1 ?_
                refine r_st (st0 := [.ref (ad 58)]) rfl ?_
                refine g_X11_191 h dX11_walked_108 hq22.2 rC_58 ?_
                exact r_ret1 hr dX11_walked_111 (hs14.1 _ _) hf
            · have hf := ite_nf hc16 hf
              refine r_iconst h dX11_walked_94 ?_
              exact r_ret1 hr dX11_walked_95 (rIc rfl) hf
          · have hf := ite_nf hc15 hf
            refine r_aload_n h dX11_walked_78 rfl 2 rfl ?_
            have hq23 := w_ref0 hw (k := 7) (by decide) rf_11_7
            refine g_X11_60 h dX11_walked_79 ht rC_0 hq23.1 ?_
            have hq24c := rf_8_1 _ rC_57
            have hq24 := w_ref hw.1 hq23.2 rC_57 (by decide) (k := 1) (by decide) hq24c.1
            refine g_X11_133 h dX11_walked_82 hq23.2 rC_57 hq24.1 ?_
            refine r_st (st0 := [.ref (ad 58)]) rfl ?_
            refine g_X11_146 h dX11_walked_85 hq24.2 rC_58 ?_
            exact r_ret1 hr dX11_walked_88 (hs14.1 _ _) hf
        · have hf := ite_f hc7 hf
          refine r_bipush h dX11_walked_40 (by decide) ?_
          exact r_ret1 hr dX11_walked_42 (rIc rfl) hf
set_option maxRecDepth 20000 in
theorem m_Qu_shortest {l : Launch} {D : va_G} {cs : Nat → ClassId} {aS aV : Nat} {A : Nat → Prop} {ad : Nat → Nat} {n : Nat} {nl : Nat → Nat → Bool} {out : Int × SS} (hw : w_W0 n nl) (ht : 0 < n) {a1 : Int} (ra1 : rI a1) {a2 : Int} (ra2 : rI a2) {s0 : SS} (hs0 : rS s0) (hf : f_Qu_shortest a1 a2 s0 = some out) : w_MC l D cs aS aV A yX11_shortest cX11_shortest 3 1 rm_Qu_shortest ad n nl [.ref (ad 0), .int (vI a1), .int (vI a2)] s0 (w_Po ad n nl out) := by
  refine w_MC_of (by decide +kernel) (by decide) hs0 (Nat.le_of_ble_eq_true rfl) (fun K h hr => ?_)
  refine r_lv (lv' := [(0, .ref (ad 0)), (1, .int (vI a1)), (2, .int (vI a2))]) rfl ?_
  unfold f_Qu_shortest at hf
  refine r_rS h (fun hs0 => ?_)
  refine r_aload_n h dX11_shortest_0 rfl 0 rfl ?_
  have hq1 := w_ref0 hw (k := 8) (by decide) rf_11_8
  refine g_X11_73 h dX11_shortest_1 ht rC_0 hq1.1 ?_
  refine r_iload_n h dX11_shortest_4 rfl 1 rfl ?_
  refine r_iload_n h dX11_shortest_5 rfl 2 rfl ?_
  obtain ⟨r2, s2, hq2, hf⟩ := ob_some hf
  refine r_callV1 h [.int (vI a1), .int (vI a2)] dX11_shortest_6 (fun hs => m_Fi_layShortest hw.1 hq1.2 ra1 ra2 hs hq2) ml_X11_200 cv_Fi_layShortest rfl (co := 1) rfl (by decide) hq1.2 rC_61 ⟨rfl, rfl⟩ ⟨Nat.le_of_ble_eq_true rfl, Nat.le_of_ble_eq_true rfl⟩ ⟨Nat.le_of_ble_eq_true rfl, Nat.le_of_ble_eq_true rfl⟩ (Nat.le_of_ble_eq_true rfl) rfl (fun hr2 hs2 => ?_)
  exact r_ret1 hr dX11_shortest_9 hr2 hf
set_option maxRecDepth 20000 in
theorem m_Qu_send {l : Launch} {D : va_G} {cs : Nat → ClassId} {aS aV : Nat} {A : Nat → Prop} {ad : Nat → Nat} {n : Nat} {nl : Nat → Nat → Bool} {out : Int × SS} (hw : w_W0 n nl) (ht : 0 < n) {a1 : Int} (ra1 : rI a1) {a2 : Int} (ra2 : rI a2) {s0 : SS} (hs0 : rS s0) (hf : f_Qu_send a1 a2 s0 = some out) : w_MC l D cs aS aV A yX11_send cX11_send 3 1 rm_Qu_send ad n nl [.ref (ad 0), .int (vI a1), .int (vI a2)] s0 (w_Po ad n nl out) := by
  refine w_MC_of (by decide +kernel) (by decide) hs0 (Nat.le_of_ble_eq_true rfl) (fun K h hr => ?_)
  refine r_lv (lv' := [(0, .ref (ad 0)), (1, .int (vI a1)), (2, .int (vI a2))]) rfl ?_
  unfold f_Qu_send at hf
  refine r_rS h (fun hs0 => ?_)
  refine r_aload_n h dX11_send_0 rfl 0 rfl ?_
  have hq1 := w_ref0 hw (k := 8) (by decide) rf_11_8
  refine g_X11_73 h dX11_send_1 ht rC_0 hq1.1 ?_
  refine r_iload_n h dX11_send_4 rfl 1 rfl ?_
  refine r_iload_n h dX11_send_5 rfl 2 rfl ?_
  obtain ⟨r2, s2, hq2, hf⟩ := ob_some hf
  refine r_callV1 h [.int (vI a1), .int (vI a2)] dX11_send_6 (fun hs => m_Fi_laySent hw.1 hq1.2 ra1 ra2 hs hq2) ml_X11_204 cv_Fi_laySent rfl (co := 1) rfl (by decide) hq1.2 rC_61 ⟨rfl, rfl⟩ ⟨Nat.le_of_ble_eq_true rfl, Nat.le_of_ble_eq_true rfl⟩ ⟨Nat.le_of_ble_eq_true rfl, Nat.le_of_ble_eq_true rfl⟩ (Nat.le_of_ble_eq_true rfl) rfl (fun hr2 hs2 => ?_)
  exact r_ret1 hr dX11_send_9 hr2 hf
set_option maxRecDepth 20000 in
theorem m_Qu_measure {l : Launch} {D : va_G} {cs : Nat → ClassId} {aS aV : Nat} {A : Nat → Prop} {ad : Nat → Nat} {n : Nat} {nl : Nat → Nat → Bool} {out : Int × SS} (hw : w_W0 n nl) (ht : 0 < n) {a1 : Int} (ra1 : rI a1) {a2 : Int} (ra2 : rI a2) {a3 : Int} (ra3 : rI a3) {a4 : Int} (ra4 : rI a4) {a5 : Int} (ba5 : a5 = 0 ∨ a5 = 1) {s0 : SS} (hs0 : rS s0) (hf : f_Qu_measure a1 a2 a3 a4 a5 s0 = some out) : w_MC l D cs aS aV A yX11_measure cX11_measure 7 1 rm_Qu_measure ad n nl [.ref (ad 0), .int (vI a1), .int (vI a2), .int (vI a3), .int (vI a4), .int (vI a5)] s0 (w_Po ad n nl out) := by
  refine w_MC_of (by decide +kernel) (by decide) hs0 (Nat.le_of_ble_eq_true rfl) (fun K h hr => ?_)
  refine r_lv (lv' := [(0, .ref (ad 0)), (1, .int (vI a1)), (2, .int (vI a2)), (3, .int (vI a3)), (4, .int (vI a4)), (5, .int (vI a5))]) rfl ?_
  unfold f_Qu_measure at hf
  refine r_rS h (fun hs0 => ?_)
  refine r_aload_n h dX11_measure_0 rfl 0 rfl ?_
  have hq1 := w_ref0 hw (k := 2) (by decide) rf_11_2
  refine g_X11_20 h dX11_measure_1 ht rC_0 hq1.1 ?_
  refine r_iload_n h dX11_measure_4 rfl 1 rfl ?_
  refine r_iload_n h dX11_measure_5 rfl 2 rfl ?_
  refine r_iload_n h dX11_measure_6 rfl 3 rfl ?_
  obtain ⟨r2, s2, hq2, hf⟩ := ob_some hf
  refine r_callV1 h [.int (vI a1), .int (vI a2), .int (vI a3)] dX11_measure_7 (fun hs => m_La_couple hw.1 hq1.2 rC_2 ra1 ra2 ra3 hs hq2) ml_X11_129 cv_La_couple rfl (co := 4) rfl (by decide) hq1.2 rC_2 ⟨rfl, rfl⟩ ⟨Nat.le_of_ble_eq_true rfl, Nat.le_of_ble_eq_true rfl⟩ ⟨Nat.le_of_ble_eq_true rfl, Nat.le_of_ble_eq_true rfl⟩ (Nat.le_of_ble_eq_true rfl) rfl (fun hr2 hs2 => ?_)
  refine r_istore h [(6, .int (vI r2)), (0, .ref (ad 0)), (1, .int (vI a1)), (2, .int (vI a2)), (3, .int (vI a3)), (4, .int (vI a4)), (5, .int (vI a5))] dX11_measure_10 (by decide) rfl ?_
  refine r_iload h dX11_measure_12 0 rfl ?_
  refine r_iconst h dX11_measure_14 ?_
  refine r_icmp_eq (tgt := 30) h dX11_measure_15 (by decide) hr2 (rIc rfl) (fun hc3 => ?_) (fun hc3 => ?_)
  · have hf := ite_t hc3 hf
    refine r_iconst h dX11_measure_30 ?_
    exact r_ret1 hr dX11_measure_31 (rIc rfl) hf
  · have hf := ite_f hc3 hf
    refine r_aload_n h dX11_measure_18 rfl 1 rfl ?_
    have hq4 := w_ref0 hw (k := 2) (by decide) rf_11_2
    refine g_X11_20 h dX11_measure_19 ht rC_0 hq4.1 ?_
    refine r_iload h dX11_measure_22 5 rfl ?_
    obtain ⟨r5, s5, hq5, hf⟩ := ob_some hf
    refine r_callV2 h [.int (vI a4)] dX11_measure_24 (fun hs => m_La_isWay hw.1 hq4.2 rC_2 ra4 hs hq5) ml_X11_117 cv_La_isWay rfl (co := 4) rfl (by decide) hq4.2 rC_2 ⟨rfl, rfl⟩ ⟨Nat.le_of_ble_eq_true rfl, Nat.le_of_ble_eq_true rfl⟩ ⟨Nat.le_of_ble_eq_true rfl, Nat.le_of_ble_eq_true rfl⟩ (Nat.le_of_ble_eq_true rfl) rfl (fun hr5 hs5 => ?_)
    refine r_if_ne (tgt := 32) h dX11_measure_27 (by decide) (rI_b hr5) (fun hc6 => ?_) (fun hc6 => ?_)
    · have hf := ite_f hc6 hf
      refine r_aload_n h dX11_measure_32 rfl 1 rfl ?_
      have hq7 := w_ref0 hw (k := 8) (by decide) rf_11_8
      refine g_X11_73 h dX11_measure_33 ht rC_0 hq7.1 ?_
      refine r_iload h dX11_measure_36 5 rfl ?_
      refine r_iload h dX11_measure_38 6 rfl ?_
      obtain ⟨r8, s8, hq8, hf⟩ := ob_some hf
      refine r_callV0 h [.int (vI a4), .int (vI a5)] dX11_measure_40 (fun hs => m_Fi_setPath hw.1 hq7.2 ra4 ba5 hs hq8) ml_X11_207 cv_Fi_setPath rfl (co := 1) rfl (by decide) hq7.2 rC_61 ⟨rfl, rfl⟩ ⟨Nat.le_of_ble_eq_true rfl, Nat.le_of_ble_eq_true rfl⟩ ⟨Nat.le_of_ble_eq_true rfl, Nat.le_of_ble_eq_true rfl⟩ (Nat.le_of_ble_eq_true rfl) rfl (fun hr8 hs8 => ?_)
      refine r_aload_n h dX11_measure_43 rfl 1 rfl ?_
      have hq9 := w_ref0 hw (k := 8) (by decide) rf_11_8
      refine g_X11_73 h dX11_measure_44 ht rC_0 hq9.1 ?_
      refine r_iload h dX11_measure_47 0 rfl ?_
      obtain ⟨r10, s10, hq10, hf⟩ := ob_some hf
      refine r_callV1 h [.int (vI r2)] dX11_measure_49 (fun hs => m_Fi_measurePath hw.1 hq9.2 hr2 hs hq10) ml_X11_211 cv_Fi_measurePath rfl (co := 1) rfl (by decide) hq9.2 rC_61 ⟨rfl, rfl⟩ ⟨Nat.le_of_ble_eq_true rfl, Nat.le_of_ble_eq_true rfl⟩ ⟨Nat.le_of_ble_eq_true rfl, Nat.le_of_ble_eq_true rfl⟩ (Nat.le_of_ble_eq_true rfl) rfl (fun hr10 hs10 => ?_)
      exact r_ret1 hr dX11_measure_52 hr10 hf
    · have hf := ite_nf hc6 hf
      refine r_iconst h dX11_measure_30 ?_
      exact r_ret1 hr dX11_measure_31 (rIc rfl) hf
set_option maxRecDepth 20000 in
theorem m_Qu_adds {l : Launch} {D : va_G} {cs : Nat → ClassId} {aS aV : Nat} {A : Nat → Prop} {ad : Nat → Nat} {n : Nat} {nl : Nat → Nat → Bool} {out : Int × SS} (hw : w_W0 n nl) (ht : 0 < n) {a1 : Int} (ra1 : rI a1) {a2 : Int} (ra2 : rI a2) {s0 : SS} (hs0 : rS s0) (hf : f_Qu_adds a1 a2 s0 = some out) : w_MC l D cs aS aV A yX11_adds cX11_adds 3 1 rm_Qu_adds ad n nl [.ref (ad 0), .int (vI a1), .int (vI a2)] s0 (w_Po ad n nl out) := by
  refine w_MC_of (by decide +kernel) (by decide) hs0 (Nat.le_of_ble_eq_true rfl) (fun K h hr => ?_)
  refine r_lv (lv' := [(0, .ref (ad 0)), (1, .int (vI a1)), (2, .int (vI a2))]) rfl ?_
  unfold f_Qu_adds at hf
  refine r_rS h (fun hs0 => ?_)
  refine r_aload_n h dX11_adds_0 rfl 0 rfl ?_
  have hq1 := w_ref0 hw (k := 2) (by decide) rf_11_2
  refine g_X11_20 h dX11_adds_1 ht rC_0 hq1.1 ?_
  refine r_iload_n h dX11_adds_4 rfl 1 rfl ?_
  obtain ⟨r2, s2, hq2, hf⟩ := ob_some hf
  refine r_callV2 h [.int (vI a1)] dX11_adds_5 (fun hs => m_La_isWay hw.1 hq1.2 rC_2 ra1 hs hq2) ml_X11_117 cv_La_isWay rfl (co := 4) rfl (by decide) hq1.2 rC_2 ⟨rfl, rfl⟩ ⟨Nat.le_of_ble_eq_true rfl, Nat.le_of_ble_eq_true rfl⟩ ⟨Nat.le_of_ble_eq_true rfl, Nat.le_of_ble_eq_true rfl⟩ (Nat.le_of_ble_eq_true rfl) rfl (fun hr2 hs2 => ?_)
  refine r_if_eq (tgt := 43) h dX11_adds_8 (by decide) (rI_b hr2) (fun hc3 => ?_) (fun hc3 => ?_)
  · have hf := ite_t hc3 hf
    refine r_iconst h dX11_adds_43 ?_
    exact r_ret1 hr dX11_adds_44 (rIc rfl) hf
  · have hf := ite_f hc3 hf
    refine r_aload_n h dX11_adds_11 rfl 0 rfl ?_
    have hq4 := w_ref0 hw (k := 2) (by decide) rf_11_2
    refine g_X11_20 h dX11_adds_12 ht rC_0 hq4.1 ?_
    refine r_iload_n h dX11_adds_15 rfl 2 rfl ?_
    obtain ⟨r5, s5, hq5, hf⟩ := ob_some hf
    refine r_callV2 h [.int (vI a2)] dX11_adds_16 (fun hs => m_La_isWay hw.1 hq4.2 rC_2 ra2 hs hq5) ml_X11_117 cv_La_isWay rfl (co := 4) rfl (by decide) hq4.2 rC_2 ⟨rfl, rfl⟩ ⟨Nat.le_of_ble_eq_true rfl, Nat.le_of_ble_eq_true rfl⟩ ⟨Nat.le_of_ble_eq_true rfl, Nat.le_of_ble_eq_true rfl⟩ (Nat.le_of_ble_eq_true rfl) rfl (fun hr5 hs5 => ?_)
    refine r_if_eq (tgt := 43) h dX11_adds_19 (by decide) (rI_b hr5) (fun hc6 => ?_) (fun hc6 => ?_)
    · have hf := ite_t hc6 hf
      refine r_iconst h dX11_adds_43 ?_
      exact r_ret1 hr dX11_adds_44 (rIc rfl) hf
    · have hf := ite_f hc6 hf
      refine r_aload_n h dX11_adds_22 rfl 0 rfl ?_
      have hq7 := w_ref0 hw (k := 2) (by decide) rf_11_2
      refine g_X11_20 h dX11_adds_23 ht rC_0 hq7.1 ?_
      have hq8c := rf_4_6 _ rC_2
      have hq8 := w_ref hw.1 hq7.2 rC_2 (by decide) (k := 6) (by decide) hq8c.1
      refine g_X11_123 h dX11_adds_26 hq7.2 rC_2 hq8.1 ?_
      refine r_st (st0 := [.ref (ad 7)]) rfl ?_
      refine r_iload_n h dX11_adds_29 rfl 1 rfl ?_
      obtain ⟨hi9, hf⟩ := oc_some hf
      refine r_iald h dX11_adds_30 hq8.2 rC_7 ra1 (N := 14) (by rw [rN_7]; rfl) (j := (a1).toNat) rfl hi9 ?_
      refine r_aload_n h dX11_adds_31 rfl 0 rfl ?_
      have hq10 := w_ref0 hw (k := 2) (by decide) rf_11_2
      refine g_X11_20 h dX11_adds_32 ht rC_0 hq10.1 ?_
      have hq11c := rf_4_5 _ rC_2
      have hq11 := w_ref hw.1 hq10.2 rC_2 (by decide) (k := 5) (by decide) hq11c.1
      refine g_X11_120 h dX11_adds_35 hq10.2 rC_2 hq11.1 ?_
      refine r_st (st0 := [.ref (ad 6), .int (vI (gi s5 7 ((a1).toNat)))]) rfl ?_
      refine r_iload_n h dX11_adds_38 rfl 2 rfl ?_
      obtain ⟨hi12, hf⟩ := oc_some hf
      refine r_iald h dX11_adds_39 hq11.2 rC_6 ra2 (N := 14) (by rw [rN_6]; rfl) (j := (a2).toNat) rfl hi12 ?_
      refine r_icmp_eq (tgt := 45) h dX11_adds_40 (by decide) (hs5.1 _ _) (hs5.1 _ _) (fun hc13 => ?_) (fun hc13 => ?_)
      · have hf := ite_t hc13 hf
        refine r_aload_n h dX11_adds_45 rfl 0 rfl ?_
        have hq14 := w_ref0 hw (k := 8) (by decide) rf_11_8
        refine g_X11_73 h dX11_adds_46 ht rC_0 hq14.1 ?_
        refine r_iload_n h dX11_adds_49 rfl 1 rfl ?_
        refine r_iload_n h dX11_adds_50 rfl 2 rfl ?_
        obtain ⟨r15, s15, hq15, hf⟩ := ob_some hf
        refine r_callV1 h [.int (vI a1), .int (vI a2)] dX11_adds_51 (fun hs => m_Fi_countAdding hw.1 hq14.2 ra1 ra2 hs hq15) ml_X11_214 cv_Fi_countAdding rfl (co := 1) rfl (by decide) hq14.2 rC_61 ⟨rfl, rfl⟩ ⟨Nat.le_of_ble_eq_true rfl, Nat.le_of_ble_eq_true rfl⟩ ⟨Nat.le_of_ble_eq_true rfl, Nat.le_of_ble_eq_true rfl⟩ (Nat.le_of_ble_eq_true rfl) rfl (fun hr15 hs15 => ?_)
        exact r_ret1 hr dX11_adds_54 hr15 hf
      · have hf := ite_f hc13 hf
        refine r_iconst h dX11_adds_43 ?_
        exact r_ret1 hr dX11_adds_44 (rIc rfl) hf
set_option maxRecDepth 20000 in
theorem m_Qu_fair {l : Launch} {D : va_G} {cs : Nat → ClassId} {aS aV : Nat} {A : Nat → Prop} {ad : Nat → Nat} {n : Nat} {nl : Nat → Nat → Bool} {out : Int × SS} (hw : w_W0 n nl) (ht : 0 < n) {s0 : SS} (hs0 : rS s0) (hf : f_Qu_fair s0 = some out) : w_MC l D cs aS aV A yX11_fair cX11_fair 1 1 rm_Qu_fair ad n nl [.ref (ad 0)] s0 (w_Po ad n nl out) := by
  refine w_MC_of (by decide +kernel) (by decide) hs0 (Nat.le_of_ble_eq_true rfl) (fun K h hr => ?_)
  refine r_lv (lv' := [(0, .ref (ad 0))]) rfl ?_
  unfold f_Qu_fair at hf
  refine r_rS h (fun hs0 => ?_)
  refine r_aload_n h dX11_fair_0 rfl 0 rfl ?_
  have hq1 := w_ref0 hw (k := 8) (by decide) rf_11_8
  refine g_X11_73 h dX11_fair_1 ht rC_0 hq1.1 ?_
  obtain ⟨r2, s2, hq2, hf⟩ := ob_some hf
  refine r_callV1 h [] dX11_fair_4 (fun hs => m_Fi_countFair hw.1 hq1.2 hs hq2) ml_X11_217 cv_Fi_countFair rfl (co := 1) rfl (by decide) hq1.2 rC_61 ⟨rfl, rfl⟩ ⟨Nat.le_of_ble_eq_true rfl, Nat.le_of_ble_eq_true rfl⟩ ⟨Nat.le_of_ble_eq_true rfl, Nat.le_of_ble_eq_true rfl⟩ (Nat.le_of_ble_eq_true rfl) rfl (fun hr2 hs2 => ?_)
  exact r_ret1 hr dX11_fair_7 hr2 hf
set_option maxRecDepth 20000 in
theorem m_Qu_cover {l : Launch} {D : va_G} {cs : Nat → ClassId} {aS aV : Nat} {A : Nat → Prop} {ad : Nat → Nat} {n : Nat} {nl : Nat → Nat → Bool} {out : Int × SS} (hw : w_W0 n nl) (ht : 0 < n) {s0 : SS} (hs0 : rS s0) (hf : f_Qu_cover s0 = some out) : w_MC l D cs aS aV A yX11_cover cX11_cover 1 1 rm_Qu_cover ad n nl [.ref (ad 0)] s0 (w_Po ad n nl out) := by
  refine w_MC_of (by decide +kernel) (by decide) hs0 (Nat.le_of_ble_eq_true rfl) (fun K h hr => ?_)
  refine r_lv (lv' := [(0, .ref (ad 0))]) rfl ?_
  unfold f_Qu_cover at hf
  refine r_rS h (fun hs0 => ?_)
  refine r_aload_n h dX11_cover_0 rfl 0 rfl ?_
  have hq1 := w_ref0 hw (k := 8) (by decide) rf_11_8
  refine g_X11_73 h dX11_cover_1 ht rC_0 hq1.1 ?_
  obtain ⟨r2, s2, hq2, hf⟩ := ob_some hf
  refine r_callV0 h [] dX11_cover_4 (fun hs => m_Fi_lookForEndings hw.1 hq1.2 hs hq2) ml_X11_220 cv_Fi_lookForEndings rfl (co := 1) rfl (by decide) hq1.2 rC_61 ⟨rfl, rfl⟩ ⟨Nat.le_of_ble_eq_true rfl, Nat.le_of_ble_eq_true rfl⟩ ⟨Nat.le_of_ble_eq_true rfl, Nat.le_of_ble_eq_true rfl⟩ (Nat.le_of_ble_eq_true rfl) rfl (fun hr2 hs2 => ?_)
  refine r_aload_n h dX11_cover_7 rfl 0 rfl ?_
  have hq3 := w_ref0 hw (k := 8) (by decide) rf_11_8
  refine g_X11_73 h dX11_cover_8 ht rC_0 hq3.1 ?_
  obtain ⟨r4, s4, hq4, hf⟩ := ob_some hf
  refine r_callV1 h [] dX11_cover_11 (fun hs => m_Fi_layCover hw.1 hq3.2 hs hq4) ml_X11_223 cv_Fi_layCover rfl (co := 1) rfl (by decide) hq3.2 rC_61 ⟨rfl, rfl⟩ ⟨Nat.le_of_ble_eq_true rfl, Nat.le_of_ble_eq_true rfl⟩ ⟨Nat.le_of_ble_eq_true rfl, Nat.le_of_ble_eq_true rfl⟩ (Nat.le_of_ble_eq_true rfl) rfl (fun hr4 hs4 => ?_)
  exact r_ret1 hr dX11_cover_14 hr4 hf
set_option maxRecDepth 20000 in
theorem m_Qu_turned {l : Launch} {D : va_G} {cs : Nat → ClassId} {aS aV : Nat} {A : Nat → Prop} {ad : Nat → Nat} {n : Nat} {nl : Nat → Nat → Bool} {out : Int × SS} (hw : w_W0 n nl) (ht : 0 < n) {s0 : SS} (hs0 : rS s0) (hf : f_Qu_turned s0 = some out) : w_MC l D cs aS aV A yX11_turned cX11_turned 1 1 rm_Qu_turned ad n nl [.ref (ad 0)] s0 (w_Po ad n nl out) := by
  refine w_MC_of (by decide +kernel) (by decide) hs0 (Nat.le_of_ble_eq_true rfl) (fun K h hr => ?_)
  refine r_lv (lv' := [(0, .ref (ad 0))]) rfl ?_
  unfold f_Qu_turned at hf
  refine r_rS h (fun hs0 => ?_)
  refine r_aload_n h dX11_turned_0 rfl 0 rfl ?_
  have hq1 := w_ref0 hw (k := 8) (by decide) rf_11_8
  refine g_X11_73 h dX11_turned_1 ht rC_0 hq1.1 ?_
  obtain ⟨r2, s2, hq2, hf⟩ := ob_some hf
  refine r_callV1 h [] dX11_turned_4 (fun hs => m_Fi_countTurned hw.1 hq1.2 hs hq2) ml_X11_226 cv_Fi_countTurned rfl (co := 1) rfl (by decide) hq1.2 rC_61 ⟨rfl, rfl⟩ ⟨Nat.le_of_ble_eq_true rfl, Nat.le_of_ble_eq_true rfl⟩ ⟨Nat.le_of_ble_eq_true rfl, Nat.le_of_ble_eq_true rfl⟩ (Nat.le_of_ble_eq_true rfl) rfl (fun hr2 hs2 => ?_)
  exact r_ret1 hr dX11_turned_7 hr2 hf
set_option maxRecDepth 20000 in
theorem b_Qu_loud_115 {l : Launch} {D : va_G} {cs : Nat → ClassId} {aS aV : Nat} {A : Nat → Prop} {K : KT} {ad : Nat → Nat} {n : Nat} {nl : Nat → Nat → Bool} {out : Int × SS} (h : w_Cl l rm_Qu_loud D cs aS aV A cX11_loud 10 RX11 "loud" K) (hr : w_Rt 1 cX11_loud 0 0 (w_Po ad n nl out) K) (hw : w_W0 n nl) (ht : 0 < n) (x4 : Int) (x7 : Int) (x8 : Int) (s0 : SS) (rx4 : rI x4) (rx7 : rI x7) (rx8 : rI x8) (hf : j_Qu_loud_115 x4 x7 x8 s0 = some out) : K ad n nl 0 0 115 [(4, .int (vI x4)), (7, .int (vI x7)), (8, .int (vI x8))] [] s0 := by
  unfold j_Qu_loud_115 at hf
  refine r_rS h (fun hs0 => ?_)
  refine r_iload h dX11_loud_115 0 rfl ?_
  refine r_if_ne (tgt := 125) h dX11_loud_117 (by decide) rx4 (fun hc1 => ?_) (fun hc1 => ?_)
  · have hf := ite_f hc1 hf
    refine r_iload h dX11_loud_125 2 rfl ?_
    exact r_ret1 hr dX11_loud_127 rx8 hf
  · have hf := ite_nf hc1 hf
    refine r_iload h dX11_loud_120 1 rfl ?_
    refine r_goto (tgt := 127) h dX11_loud_122 (by decide) ?_
    exact r_ret1 hr dX11_loud_127 rx7 hf
set_option maxRecDepth 20000 in
theorem b_Qu_loud_57 {l : Launch} {D : va_G} {cs : Nat → ClassId} {aS aV : Nat} {A : Nat → Prop} {K : KT} {ad : Nat → Nat} {n : Nat} {nl : Nat → Nat → Bool} {out : Int × SS} (h : w_Cl l rm_Qu_loud D cs aS aV A cX11_loud 10 RX11 "loud" K) (hr : w_Rt 1 cX11_loud 0 0 (w_Po ad n nl out) K) (hw : w_W0 n nl) (ht : 0 < n) {y4 : Int} (ry4 : rI y4) : ∀ (fu : Nat) (x7 : Int) (x8 : Int) (x9 : Int) (s0 : SS), rI x7 → rI x8 → rI x9 → l_Qu_loud_57 y4 fu x7 x8 x9 s0 = some out → K ad n nl 0 0 57 [(0, .ref (ad 0)), (4, .int (vI y4)), (6, .ref (ad 58)), (7, .int (vI x7)), (8, .int (vI x8)), (9, .int (vI x9))] [] s0 := by
  intro fu
  induction fu with
  | zero =>
    intro x7 x8 x9 s0 rx7 rx8 rx9 hf
    rw [l_Qu_loud_57] at hf
    cases hf
  | succ fu ih =>
    intro x7 x8 x9 s0 rx7 rx8 rx9 hf
    rw [l_Qu_loud_57] at hf
    have q58_0 := w_ref0 hw (k := 7) (by decide) rf_11_7
    have q58_1 := w_ref hw.1 q58_0.2 rC_57 (by decide) (k := 1) (by decide) (rf_8_1 _ rC_57).1
    refine r_rS h (fun hs0 => ?_)
    refine r_iload h dX11_loud_57 5 rfl ?_
    refine r_sipush h dX11_loud_59 (by decide) ?_
    refine r_icmp_ge (tgt := 115) h dX11_loud_62 (by decide) rx9 (rIc rfl) (fun hc1 => ?_) (fun hc1 => ?_)
    · have hf := ite_t hc1 hf
      refine r_sub h [1, 3, 4] rfl ?_
      exact b_Qu_loud_115 h hr hw ht y4 x7 x8 s0 ry4 rx7 rx8 hf
    · have hf := ite_f hc1 hf
      refine r_aload h dX11_loud_65 2 rfl ?_
      obtain ⟨r2, s2, hq2, hf⟩ := ob_some hf
      refine r_callV2 h [] dX11_loud_67 (fun hs => m_Ta_isOver hw.1 q58_1.2 rC_58 hs hq2) ml_X11_229 cv_Ta_isOver rfl (co := 9) rfl (by decide) q58_1.2 rC_58 ⟨rfl, rfl⟩ ⟨Nat.le_of_ble_eq_true rfl, Nat.le_of_ble_eq_true rfl⟩ ⟨Nat.le_of_ble_eq_true rfl, Nat.le_of_ble_eq_true rfl⟩ (Nat.le_of_ble_eq_true rfl) rfl (fun hr2 hs2 => ?_)
      refine r_if_ne (tgt := 115) h dX11_loud_70 (by decide) (rI_b hr2) (fun hc3 => ?_) (fun hc3 => ?_)
      · have hf := ite_f hc3 hf
        refine r_sub h [1, 3, 4] rfl ?_
        exact b_Qu_loud_115 h hr hw ht y4 x7 x8 s2 ry4 rx7 rx8 hf
      · have hf := ite_nf hc3 hf
        refine r_aload h dX11_loud_73 2 rfl ?_
        refine r_aload_n h dX11_loud_75 rfl 0 rfl ?_
        have hq4 := w_ref0 hw (k := 5) (by decide) rf_11_5
        refine g_X11_46 h dX11_loud_76 ht rC_0 hq4.1 ?_
        have hq5 := w_ref hw.1 hq4.2 rC_46 (by decide) (k := 1) (by decide) rf_0_1
        refine g_X11_66 h dX11_loud_79 hq4.2 rC_46 hq5.1 ?_
        obtain ⟨r6, s6, hq6, hf⟩ := ob_some hf
        refine r_callV0 h [.ref (ad 47)] dX11_loud_82 (fun hs => m_Ta_say hw.1 q58_1.2 rC_58 hq5.2 rC_47 hs hq6) ml_X11_232 cv_Ta_say rfl (co := 9) rfl (by decide) q58_1.2 rC_58 ⟨rfl, rfl⟩ ⟨Nat.le_of_ble_eq_true rfl, Nat.le_of_ble_eq_true rfl⟩ ⟨Nat.le_of_ble_eq_true rfl, Nat.le_of_ble_eq_true rfl⟩ (Nat.le_of_ble_eq_true rfl) rfl (fun hr6 hs6 => ?_)
        refine r_aload h dX11_loud_85 2 rfl ?_
        refine g_X11_146 h dX11_loud_87 q58_1.2 rC_58 ?_
        refine r_iload h dX11_loud_90 3 rfl ?_
        refine r_icmp_le (tgt := 109) h dX11_loud_92 (by decide) (hs6.1 _ _) rx7 (fun hc7 => ?_) (fun hc7 => ?_)
        · have hf := ite_t hc7 hf
          refine r_iinc h [(9, .int (vI (iw (x9 + 1)))), (0, .ref (ad 0)), (4, .int (vI y4)), (6, .ref (ad 58)), (7, .int (vI x7)), (8, .int (vI x8))] dX11_loud_109 5 rfl (by decide) rfl ?_
          refine r_goto (tgt := 57) h dX11_loud_112 (by decide) ?_
          refine r_sub h [1, 2, 3, 4, 5, 0] rfl ?_
          exact ih x7 x8 (iw (x9 + 1)) s6 rx7 rx8 (rI_iw _) hf
        · have hf := ite_f hc7 hf
          refine r_aload h dX11_loud_95 2 rfl ?_
          refine g_X11_146 h dX11_loud_97 q58_1.2 rC_58 ?_
          refine r_ol hf (hs6.1 _ _) (fun x8_ rx8_ hf => ?_)
          refine r_istore h [(7, .int (vI x8_)), (0, .ref (ad 0)), (4, .int (vI y4)), (6, .ref (ad 58)), (8, .int (vI x8)), (9, .int (vI x9))] dX11_loud_100 (by decide) rfl ?_
          refine r_aload h dX11_loud_102 3 rfl ?_
          refine g_X11_191 h dX11_loud_104 q58_1.2 rC_58 ?_
          refine r_ol hf (hs6.1 _ _) (fun x9_ rx9_ hf => ?_)
          refine r_istore h [(8, .int (vI x9_)), (7, .int (vI x8_)), (0, .ref (ad 0)), (4, .int (vI y4)), (6, .ref (ad 58)), (9, .int (vI x9))] dX11_loud_107 (by decide) rfl ?_
          refine r_iinc h [(9, .int (vI (iw (x9 + 1)))), (8, .int (vI x9_)), (7, .int (vI x8_)), (0, .ref (ad 0)), (4, .int (vI y4)), (6, .ref (ad 58))] dX11_loud_109 5 rfl (by decide) rfl ?_
          refine r_goto (tgt := 57) h dX11_loud_112 (by decide) ?_
          refine r_sub h [3, 4, 5, 2, 1, 0] rfl ?_
          exact ih x8_ x9_ (iw (x9 + 1)) s6 rx8_ rx9_ (rI_iw _) hf
set_option maxRecDepth 20000 in
theorem m_Qu_loud {l : Launch} {D : va_G} {cs : Nat → ClassId} {aS aV : Nat} {A : Nat → Prop} {ad : Nat → Nat} {n : Nat} {nl : Nat → Nat → Bool} {out : Int × SS} (hw : w_W0 n nl) (ht : 0 < n) {a1 : Int} (ra1 : rI a1) {a2 : Int} (ra2 : rI a2) {a3 : Int} (ra3 : rI a3) {a4 : Int} (ra4 : rI a4) {s0 : SS} (hs0 : rS s0) (hf : f_Qu_loud a1 a2 a3 a4 s0 = some out) : w_MC l D cs aS aV A yX11_loud cX11_loud 10 1 rm_Qu_loud ad n nl [.ref (ad 0), .int (vI a1), .int (vI a2), .int (vI a3), .int (vI a4)] s0 (w_Po ad n nl out) := by
  refine w_MC_of (by decide +kernel) (by decide) hs0 (Nat.le_of_ble_eq_true rfl) (fun K h hr => ?_)
  refine r_lv (lv' := [(0, .ref (ad 0)), (1, .int (vI a1)), (2, .int (vI a2)), (3, .int (vI a3)), (4, .int (vI a4))]) rfl ?_
  unfold f_Qu_loud at hf
  refine r_rS h (fun hs0 => ?_)
  refine r_aload_n h dX11_loud_0 rfl 0 rfl ?_
  have hq1 := w_ref0 hw (k := 2) (by decide) rf_11_2
  refine g_X11_20 h dX11_loud_1 ht rC_0 hq1.1 ?_
  refine r_iload_n h dX11_loud_4 rfl 1 rfl ?_
  refine r_iload_n h dX11_loud_5 rfl 2 rfl ?_
  refine r_iload_n h dX11_loud_6 rfl 3 rfl ?_
  obtain ⟨r2, s2, hq2, hf⟩ := ob_some hf
  refine r_callV1 h [.int (vI a1), .int (vI a2), .int (vI a3)] dX11_loud_7 (fun hs => m_La_couple hw.1 hq1.2 rC_2 ra1 ra2 ra3 hs hq2) ml_X11_129 cv_La_couple rfl (co := 4) rfl (by decide) hq1.2 rC_2 ⟨rfl, rfl⟩ ⟨Nat.le_of_ble_eq_true rfl, Nat.le_of_ble_eq_true rfl⟩ ⟨Nat.le_of_ble_eq_true rfl, Nat.le_of_ble_eq_true rfl⟩ (Nat.le_of_ble_eq_true rfl) rfl (fun hr2 hs2 => ?_)
  refine r_istore h [(5, .int (vI r2)), (0, .ref (ad 0)), (1, .int (vI a1)), (2, .int (vI a2)), (3, .int (vI a3)), (4, .int (vI a4))] dX11_loud_10 (by decide) rfl ?_
  refine r_iload h dX11_loud_12 0 rfl ?_
  refine r_iconst h dX11_loud_14 ?_
  refine r_icmp_eq (tgt := 29) h dX11_loud_15 (by decide) hr2 (rIc rfl) (fun hc3 => ?_) (fun hc3 => ?_)
  · have hf := ite_t hc3 hf
    refine r_bipush h dX11_loud_29 (by decide) ?_
    exact r_ret1 hr dX11_loud_31 (rIc rfl) hf
  · have hf := ite_f hc3 hf
    refine r_iload h dX11_loud_18 5 rfl ?_
    refine r_if_lt (tgt := 29) h dX11_loud_20 (by decide) ra4 (fun hc4 => ?_) (fun hc4 => ?_)
    · have hf := ite_t hc4 hf
      refine r_bipush h dX11_loud_29 (by decide) ?_
      exact r_ret1 hr dX11_loud_31 (rIc rfl) hf
    · have hf := ite_f hc4 hf
      refine r_iload h dX11_loud_23 5 rfl ?_
      refine r_iconst h dX11_loud_25 ?_
      refine r_icmp_le (tgt := 32) h dX11_loud_26 (by decide) ra4 (rIc rfl) (fun hc5 => ?_) (fun hc5 => ?_)
      · have hf := ite_t hc5 hf
        refine r_aload_n h dX11_loud_32 rfl 1 rfl ?_
        have hq6 := w_ref0 hw (k := 7) (by decide) rf_11_7
        refine g_X11_60 h dX11_loud_33 ht rC_0 hq6.1 ?_
        have hq7c := rf_8_1 _ rC_57
        have hq7 := w_ref hw.1 hq6.2 rC_57 (by decide) (k := 1) (by decide) hq7c.1
        refine g_X11_133 h dX11_loud_36 hq6.2 rC_57 hq7.1 ?_
        refine r_st (st0 := [.ref (ad 58)]) rfl ?_
        refine r_astore h [(6, .ref (ad 58)), (5, .int (vI r2)), (0, .ref (ad 0)), (1, .int (vI a1)), (2, .int (vI a2)), (3, .int (vI a3)), (4, .int (vI a4))] dX11_loud_39 (by decide) rfl ?_
        refine r_iconst h dX11_loud_41 ?_
        refine r_istore h [(7, .int (vI (-1))), (6, .ref (ad 58)), (5, .int (vI r2)), (0, .ref (ad 0)), (1, .int (vI a1)), (2, .int (vI a2)), (3, .int (vI a3)), (4, .int (vI a4))] dX11_loud_42 (by decide) rfl ?_
        refine r_iconst h dX11_loud_44 ?_
        refine r_istore h [(8, .int (vI 0)), (7, .int (vI (-1))), (6, .ref (ad 58)), (5, .int (vI r2)), (0, .ref (ad 0)), (1, .int (vI a1)), (2, .int (vI a2)), (3, .int (vI a3)), (4, .int (vI a4))] dX11_loud_45 (by decide) rfl ?_
        refine r_aload h dX11_loud_47 2 rfl ?_
        refine r_iload h dX11_loud_49 3 rfl ?_
        obtain ⟨r8, s8, hq8, hf⟩ := ob_some hf
        refine r_callV0 h [.int (vI r2)] dX11_loud_51 (fun hs => m_Ta_begin hw.1 hq7.2 rC_58 hr2 hs hq8) ml_X11_137 cv_Ta_begin rfl (co := 9) rfl (by decide) hq7.2 rC_58 ⟨rfl, rfl⟩ ⟨Nat.le_of_ble_eq_true rfl, Nat.le_of_ble_eq_true rfl⟩ ⟨Nat.le_of_ble_eq_true rfl, Nat.le_of_ble_eq_true rfl⟩ (Nat.le_of_ble_eq_true rfl) rfl (fun hr8 hs8 => ?_)
        refine r_iconst h dX11_loud_54 ?_
        refine r_istore h [(9, .int (vI 0)), (8, .int (vI 0)), (7, .int (vI (-1))), (6, .ref (ad 58)), (5, .int (vI r2)), (0, .ref (ad 0)), (1, .int (vI a1)), (2, .int (vI a2)), (3, .int (vI a3)), (4, .int (vI a4))] dX11_loud_55 (by decide) rfl ?_
        refine r_sub h [5, 9, 3, 2, 1, 0] rfl ?_
        exact b_Qu_loud_57 h hr hw ht ra4 FU (-1) 0 0 s8 (rIc rfl) (rIc rfl) (rIc rfl) hf
      · have hf := ite_f hc5 hf
        refine r_bipush h dX11_loud_29 (by decide) ?_
        exact r_ret1 hr dX11_loud_31 (rIc rfl) hf
set_option maxRecDepth 20000 in
theorem m_Qu_home {l : Launch} {D : va_G} {cs : Nat → ClassId} {aS aV : Nat} {A : Nat → Prop} {ad : Nat → Nat} {n : Nat} {nl : Nat → Nat → Bool} {out : Int × SS} (hw : w_W0 n nl) (ht : 0 < n) {a1 : Int} (ra1 : rI a1) {a2 : Int} (ra2 : rI a2) {a3 : Int} (ra3 : rI a3) {a4 : Int} (ra4 : rI a4) {a5 : Int} (ra5 : rI a5) {a6 : Int} (ra6 : rI a6) {s0 : SS} (hs0 : rS s0) (hf : f_Qu_home a1 a2 a3 a4 a5 a6 s0 = some out) : w_MC l D cs aS aV A yX11_home cX11_home 7 1 rm_Qu_home ad n nl [.ref (ad 0), .int (vI a1), .int (vI a2), .int (vI a3), .int (vI a4), .int (vI a5), .int (vI a6)] s0 (w_Po ad n nl out) := by
  refine w_MC_of (by decide +kernel) (by decide) hs0 (Nat.le_of_ble_eq_true rfl) (fun K h hr => ?_)
  refine r_lv (lv' := [(0, .ref (ad 0)), (1, .int (vI a1)), (2, .int (vI a2)), (3, .int (vI a3)), (4, .int (vI a4)), (5, .int (vI a5)), (6, .int (vI a6))]) rfl ?_
  unfold f_Qu_home at hf
  refine r_rS h (fun hs0 => ?_)
  refine r_aload_n h dX11_home_0 rfl 0 rfl ?_
  have hq1 := w_ref0 hw (k := 8) (by decide) rf_11_8
  refine g_X11_73 h dX11_home_1 ht rC_0 hq1.1 ?_
  refine r_aload_n h dX11_home_4 rfl 0 rfl ?_
  have hq2 := w_ref0 hw (k := 2) (by decide) rf_11_2
  refine g_X11_20 h dX11_home_5 ht rC_0 hq2.1 ?_
  refine r_iload_n h dX11_home_8 rfl 1 rfl ?_
  refine r_iload_n h dX11_home_9 rfl 2 rfl ?_
  refine r_iload_n h dX11_home_10 rfl 3 rfl ?_
  obtain ⟨r3, s3, hq3, hf⟩ := ob_some hf
  refine r_callV1 h [.int (vI a1), .int (vI a2), .int (vI a3)] dX11_home_11 (fun hs => m_La_couple hw.1 hq2.2 rC_2 ra1 ra2 ra3 hs hq3) ml_X11_129 cv_La_couple rfl (co := 4) rfl (by decide) hq2.2 rC_2 ⟨rfl, rfl⟩ ⟨Nat.le_of_ble_eq_true rfl, Nat.le_of_ble_eq_true rfl⟩ ⟨Nat.le_of_ble_eq_true rfl, Nat.le_of_ble_eq_true rfl⟩ (Nat.le_of_ble_eq_true rfl) rfl (fun hr3 hs3 => ?_)
  refine r_iload h dX11_home_14 4 rfl ?_
  refine r_iload h dX11_home_16 5 rfl ?_
  refine r_iload h dX11_home_18 6 rfl ?_
  obtain ⟨r4, s4, hq4, hf⟩ := ob_some hf
  refine r_callV1 h [.int (vI r3), .int (vI a4), .int (vI a5), .int (vI a6)] dX11_home_20 (fun hs => m_Fi_layHome hw.1 hq1.2 hr3 ra4 ra5 ra6 hs hq4) ml_X11_236 cv_Fi_layHome rfl (co := 1) rfl (by decide) hq1.2 rC_61 ⟨rfl, rfl⟩ ⟨Nat.le_of_ble_eq_true rfl, Nat.le_of_ble_eq_true rfl⟩ ⟨Nat.le_of_ble_eq_true rfl, Nat.le_of_ble_eq_true rfl⟩ (Nat.le_of_ble_eq_true rfl) rfl (fun hr4 hs4 => ?_)
  exact r_ret1 hr dX11_home_23 hr4 hf
set_option maxRecDepth 20000 in
theorem m_Qu_temper {l : Launch} {D : va_G} {cs : Nat → ClassId} {aS aV : Nat} {A : Nat → Prop} {ad : Nat → Nat} {n : Nat} {nl : Nat → Nat → Bool} {out : Int × SS} (hw : w_W0 n nl) (ht : 0 < n) {a1 : Int} (ra1 : rI a1) {a2 : Int} (ra2 : rI a2) {a3 : Int} (ra3 : rI a3) {a4 : Int} (ra4 : rI a4) {s0 : SS} (hs0 : rS s0) (hf : f_Qu_temper a1 a2 a3 a4 s0 = some out) : w_MC l D cs aS aV A yX11_temper cX11_temper 5 1 rm_Qu_temper ad n nl [.ref (ad 0), .int (vI a1), .int (vI a2), .int (vI a3), .int (vI a4)] s0 (w_Po ad n nl out) := by
  refine w_MC_of (by decide +kernel) (by decide) hs0 (Nat.le_of_ble_eq_true rfl) (fun K h hr => ?_)
  refine r_lv (lv' := [(0, .ref (ad 0)), (1, .int (vI a1)), (2, .int (vI a2)), (3, .int (vI a3)), (4, .int (vI a4))]) rfl ?_
  unfold f_Qu_temper at hf
  refine r_rS h (fun hs0 => ?_)
  refine r_aload_n h dX11_temper_0 rfl 0 rfl ?_
  have hq1 := w_ref0 hw (k := 8) (by decide) rf_11_8
  refine g_X11_73 h dX11_temper_1 ht rC_0 hq1.1 ?_
  refine r_aload_n h dX11_temper_4 rfl 0 rfl ?_
  have hq2 := w_ref0 hw (k := 2) (by decide) rf_11_2
  refine g_X11_20 h dX11_temper_5 ht rC_0 hq2.1 ?_
  refine r_iload_n h dX11_temper_8 rfl 1 rfl ?_
  refine r_iload_n h dX11_temper_9 rfl 2 rfl ?_
  refine r_iload_n h dX11_temper_10 rfl 3 rfl ?_
  obtain ⟨r3, s3, hq3, hf⟩ := ob_some hf
  refine r_callV1 h [.int (vI a1), .int (vI a2), .int (vI a3)] dX11_temper_11 (fun hs => m_La_couple hw.1 hq2.2 rC_2 ra1 ra2 ra3 hs hq3) ml_X11_129 cv_La_couple rfl (co := 4) rfl (by decide) hq2.2 rC_2 ⟨rfl, rfl⟩ ⟨Nat.le_of_ble_eq_true rfl, Nat.le_of_ble_eq_true rfl⟩ ⟨Nat.le_of_ble_eq_true rfl, Nat.le_of_ble_eq_true rfl⟩ (Nat.le_of_ble_eq_true rfl) rfl (fun hr3 hs3 => ?_)
  refine r_iload h dX11_temper_14 4 rfl ?_
  obtain ⟨r4, s4, hq4, hf⟩ := ob_some hf
  refine r_callV1 h [.int (vI r3), .int (vI a4)] dX11_temper_16 (fun hs => m_Fi_layTempers hw.1 hq1.2 hr3 ra4 hs hq4) ml_X11_240 cv_Fi_layTempers rfl (co := 1) rfl (by decide) hq1.2 rC_61 ⟨rfl, rfl⟩ ⟨Nat.le_of_ble_eq_true rfl, Nat.le_of_ble_eq_true rfl⟩ ⟨Nat.le_of_ble_eq_true rfl, Nat.le_of_ble_eq_true rfl⟩ (Nat.le_of_ble_eq_true rfl) rfl (fun hr4 hs4 => ?_)
  exact r_ret1 hr dX11_temper_19 hr4 hf
set_option maxRecDepth 20000 in
theorem m_Qu_lies {l : Launch} {D : va_G} {cs : Nat → ClassId} {aS aV : Nat} {A : Nat → Prop} {ad : Nat → Nat} {n : Nat} {nl : Nat → Nat → Bool} {out : Int × SS} (hw : w_W0 n nl) (ht : 0 < n) {a1 : Int} (ra1 : rI a1) {s0 : SS} (hs0 : rS s0) (hf : f_Qu_lies a1 s0 = some out) : w_MC l D cs aS aV A yX11_lies cX11_lies 2 1 rm_Qu_lies ad n nl [.ref (ad 0), .int (vI a1)] s0 (w_Po ad n nl out) := by
  refine w_MC_of (by decide +kernel) (by decide) hs0 (Nat.le_of_ble_eq_true rfl) (fun K h hr => ?_)
  refine r_lv (lv' := [(0, .ref (ad 0)), (1, .int (vI a1))]) rfl ?_
  unfold f_Qu_lies at hf
  refine r_rS h (fun hs0 => ?_)
  refine r_aload_n h dX11_lies_0 rfl 0 rfl ?_
  have hq1 := w_ref0 hw (k := 8) (by decide) rf_11_8
  refine g_X11_73 h dX11_lies_1 ht rC_0 hq1.1 ?_
  refine r_iload_n h dX11_lies_4 rfl 1 rfl ?_
  obtain ⟨r2, s2, hq2, hf⟩ := ob_some hf
  refine r_callV1 h [.int (vI a1)] dX11_lies_5 (fun hs => m_Fi_tellLying hw.1 hq1.2 ra1 hs hq2) ml_X11_243 cv_Fi_tellLying rfl (co := 1) rfl (by decide) hq1.2 rC_61 ⟨rfl, rfl⟩ ⟨Nat.le_of_ble_eq_true rfl, Nat.le_of_ble_eq_true rfl⟩ ⟨Nat.le_of_ble_eq_true rfl, Nat.le_of_ble_eq_true rfl⟩ (Nat.le_of_ble_eq_true rfl) rfl (fun hr2 hs2 => ?_)
  exact r_ret1 hr dX11_lies_8 hr2 hf
set_option maxRecDepth 20000 in
theorem m_Qu_report {l : Launch} {D : va_G} {cs : Nat → ClassId} {aS aV : Nat} {A : Nat → Prop} {ad : Nat → Nat} {n : Nat} {nl : Nat → Nat → Bool} {out : Int × SS} (hw : w_W0 n nl) (ht : 0 < n) {a1 : Int} (ra1 : rI a1) {a2 : Int} (ra2 : rI a2) {a3 : Int} (ra3 : rI a3) {a4 : Int} (ra4 : rI a4) {s0 : SS} (hs0 : rS s0) (hf : f_Qu_report a1 a2 a3 a4 s0 = some out) : w_MC l D cs aS aV A yX11_report cX11_report 6 1 rm_Qu_report ad n nl [.ref (ad 0), .int (vI a1), .int (vI a2), .int (vI a3), .int (vI a4)] s0 (w_Po ad n nl out) := by
  refine w_MC_of (by decide +kernel) (by decide) hs0 (Nat.le_of_ble_eq_true rfl) (fun K h hr => ?_)
  refine r_lv (lv' := [(0, .ref (ad 0)), (1, .int (vI a1)), (2, .int (vI a2)), (3, .int (vI a3)), (4, .int (vI a4))]) rfl ?_
  unfold f_Qu_report at hf
  refine r_rS h (fun hs0 => ?_)
  refine r_aload_n h dX11_report_0 rfl 0 rfl ?_
  have hq1 := w_ref0 hw (k := 2) (by decide) rf_11_2
  refine g_X11_20 h dX11_report_1 ht rC_0 hq1.1 ?_
  refine r_iload_n h dX11_report_4 rfl 1 rfl ?_
  refine r_iload_n h dX11_report_5 rfl 2 rfl ?_
  refine r_iload_n h dX11_report_6 rfl 3 rfl ?_
  obtain ⟨r2, s2, hq2, hf⟩ := ob_some hf
  refine r_callV1 h [.int (vI a1), .int (vI a2), .int (vI a3)] dX11_report_7 (fun hs => m_La_couple hw.1 hq1.2 rC_2 ra1 ra2 ra3 hs hq2) ml_X11_129 cv_La_couple rfl (co := 4) rfl (by decide) hq1.2 rC_2 ⟨rfl, rfl⟩ ⟨Nat.le_of_ble_eq_true rfl, Nat.le_of_ble_eq_true rfl⟩ ⟨Nat.le_of_ble_eq_true rfl, Nat.le_of_ble_eq_true rfl⟩ (Nat.le_of_ble_eq_true rfl) rfl (fun hr2 hs2 => ?_)
  refine r_istore h [(5, .int (vI r2)), (0, .ref (ad 0)), (1, .int (vI a1)), (2, .int (vI a2)), (3, .int (vI a3)), (4, .int (vI a4))] dX11_report_10 (by decide) rfl ?_
  refine r_iload h dX11_report_12 0 rfl ?_
  refine r_iconst h dX11_report_14 ?_
  refine r_icmp_eq (tgt := 29) h dX11_report_15 (by decide) hr2 (rIc rfl) (fun hc3 => ?_) (fun hc3 => ?_)
  · have hf := ite_t hc3 hf
    refine r_iconst h dX11_report_29 ?_
    exact r_ret1 hr dX11_report_30 (rIc rfl) hf
  · have hf := ite_f hc3 hf
    refine r_iload h dX11_report_18 5 rfl ?_
    refine r_if_lt (tgt := 29) h dX11_report_20 (by decide) ra4 (fun hc4 => ?_) (fun hc4 => ?_)
    · have hf := ite_t hc4 hf
      refine r_iconst h dX11_report_29 ?_
      exact r_ret1 hr dX11_report_30 (rIc rfl) hf
    · have hf := ite_f hc4 hf
      refine r_iload h dX11_report_23 5 rfl ?_
      refine r_iconst h dX11_report_25 ?_
      refine r_icmp_le (tgt := 31) h dX11_report_26 (by decide) ra4 (rIc rfl) (fun hc5 => ?_) (fun hc5 => ?_)
      · have hf := ite_t hc5 hf
        refine r_aload_n h dX11_report_31 rfl 1 rfl ?_
        have hq6 := w_ref0 hw (k := 9) (by decide) rf_11_9
        refine g_X11_80 h dX11_report_32 ht rC_0 hq6.1 ?_
        refine r_iload h dX11_report_35 0 rfl ?_
        refine r_iload h dX11_report_37 5 rfl ?_
        obtain ⟨r7, s7, hq7, hf⟩ := ob_some hf
        refine r_callV1 h [.int (vI r2), .int (vI a4)] dX11_report_39 (fun hs => m_Rp_tell hw.1 hq6.2 hr2 ra4 hs hq7) ml_X11_246 cv_Rp_tell rfl (co := 6) rfl (by decide) hq6.2 rC_79 ⟨rfl, rfl⟩ ⟨Nat.le_of_ble_eq_true rfl, Nat.le_of_ble_eq_true rfl⟩ ⟨Nat.le_of_ble_eq_true rfl, Nat.le_of_ble_eq_true rfl⟩ (Nat.le_of_ble_eq_true rfl) rfl (fun hr7 hs7 => ?_)
        exact r_ret1 hr dX11_report_42 hr7 hf
      · have hf := ite_f hc5 hf
        refine r_iconst h dX11_report_29 ?_
        exact r_ret1 hr dX11_report_30 (rIc rfl) hf
set_option maxRecDepth 20000 in
theorem m_Qu_untell {l : Launch} {D : va_G} {cs : Nat → ClassId} {aS aV : Nat} {A : Nat → Prop} {ad : Nat → Nat} {n : Nat} {nl : Nat → Nat → Bool} {out : Int × SS} (hw : w_W0 n nl) (ht : 0 < n) {a1 : Int} (ra1 : rI a1) {s0 : SS} (hs0 : rS s0) (hf : f_Qu_untell a1 s0 = some out) : w_MC l D cs aS aV A yX11_untell cX11_untell 2 2 rm_Qu_untell ad n nl [.ref (ad 0), .int (vI a1)] s0 (w_Po ad n nl out) := by
  refine w_MC_of (by decide +kernel) (by decide) hs0 (Nat.le_of_ble_eq_true rfl) (fun K h hr => ?_)
  refine r_lv (lv' := [(0, .ref (ad 0)), (1, .int (vI a1))]) rfl ?_
  unfold f_Qu_untell at hf
  refine r_rS h (fun hs0 => ?_)
  refine r_aload_n h dX11_untell_0 rfl 0 rfl ?_
  have hq1 := w_ref0 hw (k := 9) (by decide) rf_11_9
  refine g_X11_80 h dX11_untell_1 ht rC_0 hq1.1 ?_
  refine r_iload_n h dX11_untell_4 rfl 1 rfl ?_
  obtain ⟨r2, s2, hq2, hf⟩ := ob_some hf
  refine r_callV2 h [.int (vI a1)] dX11_untell_5 (fun hs => m_Rp_takeBack hw.1 hq1.2 ra1 hs hq2) ml_X11_249 cv_Rp_takeBack rfl (co := 6) rfl (by decide) hq1.2 rC_79 ⟨rfl, rfl⟩ ⟨Nat.le_of_ble_eq_true rfl, Nat.le_of_ble_eq_true rfl⟩ ⟨Nat.le_of_ble_eq_true rfl, Nat.le_of_ble_eq_true rfl⟩ (Nat.le_of_ble_eq_true rfl) rfl (fun hr2 hs2 => ?_)
  exact r_ret2 hr dX11_untell_8 hr2 hf
set_option maxRecDepth 20000 in
theorem m_Qu_later {l : Launch} {D : va_G} {cs : Nat → ClassId} {aS aV : Nat} {A : Nat → Prop} {ad : Nat → Nat} {n : Nat} {nl : Nat → Nat → Bool} {out : Int × SS} (hw : w_W0 n nl) (ht : 0 < n) {a1 : Int} (ra1 : rI a1) {s0 : SS} (hs0 : rS s0) (hf : f_Qu_later a1 s0 = some out) : w_MC l D cs aS aV A yX11_later cX11_later 2 1 rm_Qu_later ad n nl [.ref (ad 0), .int (vI a1)] s0 (w_Po ad n nl out) := by
  refine w_MC_of (by decide +kernel) (by decide) hs0 (Nat.le_of_ble_eq_true rfl) (fun K h hr => ?_)
  refine r_lv (lv' := [(0, .ref (ad 0)), (1, .int (vI a1))]) rfl ?_
  unfold f_Qu_later at hf
  refine r_rS h (fun hs0 => ?_)
  refine r_aload_n h dX11_later_0 rfl 0 rfl ?_
  have hq1 := w_ref0 hw (k := 9) (by decide) rf_11_9
  refine g_X11_80 h dX11_later_1 ht rC_0 hq1.1 ?_
  refine r_iload_n h dX11_later_4 rfl 1 rfl ?_
  obtain ⟨r2, s2, hq2, hf⟩ := ob_some hf
  refine r_callV1 h [.int (vI a1)] dX11_later_5 (fun hs => m_Rp_passTime hw.1 hq1.2 ra1 hs hq2) ml_X11_251 cv_Rp_passTime rfl (co := 6) rfl (by decide) hq1.2 rC_79 ⟨rfl, rfl⟩ ⟨Nat.le_of_ble_eq_true rfl, Nat.le_of_ble_eq_true rfl⟩ ⟨Nat.le_of_ble_eq_true rfl, Nat.le_of_ble_eq_true rfl⟩ (Nat.le_of_ble_eq_true rfl) rfl (fun hr2 hs2 => ?_)
  exact r_ret1 hr dX11_later_8 hr2 hf
set_option maxRecDepth 20000 in
theorem m_Qu_miles {l : Launch} {D : va_G} {cs : Nat → ClassId} {aS aV : Nat} {A : Nat → Prop} {ad : Nat → Nat} {n : Nat} {nl : Nat → Nat → Bool} {out : Int × SS} (hw : w_W0 n nl) (ht : 0 < n) {a1 : Int} (ra1 : rI a1) {s0 : SS} (hs0 : rS s0) (hf : f_Qu_miles a1 s0 = some out) : w_MC l D cs aS aV A yX11_miles cX11_miles 2 3 rm_Qu_miles ad n nl [.ref (ad 0), .int (vI a1)] s0 (w_Po ad n nl out) := by
  refine w_MC_of (by decide +kernel) (by decide) hs0 (Nat.le_of_ble_eq_true rfl) (fun K h hr => ?_)
  refine r_lv (lv' := [(0, .ref (ad 0)), (1, .int (vI a1))]) rfl ?_
  unfold f_Qu_miles at hf
  refine r_rS h (fun hs0 => ?_)
  refine r_aload_n h dX11_miles_0 rfl 0 rfl ?_
  have hq1 := w_ref0 hw (k := 9) (by decide) rf_11_9
  refine g_X11_80 h dX11_miles_1 ht rC_0 hq1.1 ?_
  refine r_iload_n h dX11_miles_4 rfl 1 rfl ?_
  obtain ⟨r2, s2, hq2, hf⟩ := ob_some hf
  refine r_callV3 h [.int (vI a1)] dX11_miles_5 (fun hs => m_Rp_roadsKnownAt hw.1 hq1.2 ra1 hs hq2) ml_X11_254 cv_Rp_roadsKnownAt rfl (co := 6) rfl (by decide) hq1.2 rC_79 ⟨rfl, rfl⟩ ⟨Nat.le_of_ble_eq_true rfl, Nat.le_of_ble_eq_true rfl⟩ ⟨Nat.le_of_ble_eq_true rfl, Nat.le_of_ble_eq_true rfl⟩ (Nat.le_of_ble_eq_true rfl) rfl (fun hr2 hs2 => ?_)
  exact r_ret3 hr dX11_miles_8 hr2 hf
set_option maxRecDepth 20000 in
theorem m_Qu_ask {l : Launch} {D : va_G} {cs : Nat → ClassId} {aS aV : Nat} {A : Nat → Prop} {ad : Nat → Nat} {n : Nat} {nl : Nat → Nat → Bool} {out : Int × SS} (hw : w_W0 n nl) (ht : 0 < n) {a1 : Int} (ra1 : rI a1) {a2 : Int} (ra2 : rI a2) {s0 : SS} (hs0 : rS s0) (hf : f_Qu_ask a1 a2 s0 = some out) : w_MC l D cs aS aV A yX11_ask cX11_ask 3 1 rm_Qu_ask ad n nl [.ref (ad 0), .int (vI a1), .int (vI a2)] s0 (w_Po ad n nl out) := by
  refine w_MC_of (by decide +kernel) (by decide) hs0 (Nat.le_of_ble_eq_true rfl) (fun K h hr => ?_)
  refine r_lv (lv' := [(0, .ref (ad 0)), (1, .int (vI a1)), (2, .int (vI a2))]) rfl ?_
  unfold f_Qu_ask at hf
  refine r_rS h (fun hs0 => ?_)
  refine r_aload_n h dX11_ask_0 rfl 0 rfl ?_
  have hq1 := w_ref0 hw (k := 9) (by decide) rf_11_9
  refine g_X11_80 h dX11_ask_1 ht rC_0 hq1.1 ?_
  refine r_iload_n h dX11_ask_4 rfl 1 rfl ?_
  refine r_iload_n h dX11_ask_5 rfl 2 rfl ?_
  obtain ⟨r2, s2, hq2, hf⟩ := ob_some hf
  refine r_callV1 h [.int (vI a1), .int (vI a2)] dX11_ask_6 (fun hs => m_Rp_findQuestion hw.1 hq1.2 ra1 ra2 hs hq2) ml_X11_258 cv_Rp_findQuestion rfl (co := 6) rfl (by decide) hq1.2 rC_79 ⟨rfl, rfl⟩ ⟨Nat.le_of_ble_eq_true rfl, Nat.le_of_ble_eq_true rfl⟩ ⟨Nat.le_of_ble_eq_true rfl, Nat.le_of_ble_eq_true rfl⟩ (Nat.le_of_ble_eq_true rfl) rfl (fun hr2 hs2 => ?_)
  exact r_ret1 hr dX11_ask_9 hr2 hf
set_option maxRecDepth 20000 in
theorem m_Qu_image {l : Launch} {D : va_G} {cs : Nat → ClassId} {aS aV : Nat} {A : Nat → Prop} {ad : Nat → Nat} {n : Nat} {nl : Nat → Nat → Bool} {out : Int × SS} (hw : w_W0 n nl) (ht : 0 < n) {a1 : Int} (ra1 : rI a1) {s0 : SS} (hs0 : rS s0) (hf : f_Qu_image a1 s0 = some out) : w_MC l D cs aS aV A yX11_image cX11_image 2 1 rm_Qu_image ad n nl [.ref (ad 0), .int (vI a1)] s0 (w_Po ad n nl out) := by
  refine w_MC_of (by decide +kernel) (by decide) hs0 (Nat.le_of_ble_eq_true rfl) (fun K h hr => ?_)
  refine r_lv (lv' := [(0, .ref (ad 0)), (1, .int (vI a1))]) rfl ?_
  unfold f_Qu_image at hf
  refine r_rS h (fun hs0 => ?_)
  refine r_aload_n h dX11_image_0 rfl 0 rfl ?_
  have hq1 := w_ref0 hw (k := 5) (by decide) rf_11_5
  refine g_X11_46 h dX11_image_1 ht rC_0 hq1.1 ?_
  refine r_iload_n h dX11_image_4 rfl 1 rfl ?_
  obtain ⟨r2, s2, hq2, hf⟩ := ob_some hf
  refine r_callV1 h [.int (vI a1)] dX11_image_5 (fun hs => m_Ea_keep hw.1 hq1.2 ra1 hs hq2) ml_X11_261 cv_Ea_keep rfl (co := 0) rfl (by decide) hq1.2 rC_46 ⟨rfl, rfl⟩ ⟨Nat.le_of_ble_eq_true rfl, Nat.le_of_ble_eq_true rfl⟩ ⟨Nat.le_of_ble_eq_true rfl, Nat.le_of_ble_eq_true rfl⟩ (Nat.le_of_ble_eq_true rfl) rfl (fun hr2 hs2 => ?_)
  exact r_ret1 hr dX11_image_8 hr2 hf
set_option maxRecDepth 20000 in
theorem m_Qu_back {l : Launch} {D : va_G} {cs : Nat → ClassId} {aS aV : Nat} {A : Nat → Prop} {ad : Nat → Nat} {n : Nat} {nl : Nat → Nat → Bool} {out : Int × SS} (hw : w_W0 n nl) (ht : 0 < n) {a1 : Int} (ra1 : rI a1) {s0 : SS} (hs0 : rS s0) (hf : f_Qu_back a1 s0 = some out) : w_MC l D cs aS aV A yX11_back cX11_back 2 1 rm_Qu_back ad n nl [.ref (ad 0), .int (vI a1)] s0 (w_Po ad n nl out) := by
  refine w_MC_of (by decide +kernel) (by decide) hs0 (Nat.le_of_ble_eq_true rfl) (fun K h hr => ?_)
  refine r_lv (lv' := [(0, .ref (ad 0)), (1, .int (vI a1))]) rfl ?_
  unfold f_Qu_back at hf
  refine r_rS h (fun hs0 => ?_)
  refine r_aload_n h dX11_back_0 rfl 0 rfl ?_
  have hq1 := w_ref0 hw (k := 5) (by decide) rf_11_5
  refine g_X11_46 h dX11_back_1 ht rC_0 hq1.1 ?_
  refine r_iload_n h dX11_back_4 rfl 1 rfl ?_
  obtain ⟨r2, s2, hq2, hf⟩ := ob_some hf
  refine r_callV1 h [.int (vI a1)] dX11_back_5 (fun hs => m_Ea_goBack hw.1 hq1.2 ra1 hs hq2) ml_X11_264 cv_Ea_goBack rfl (co := 0) rfl (by decide) hq1.2 rC_46 ⟨rfl, rfl⟩ ⟨Nat.le_of_ble_eq_true rfl, Nat.le_of_ble_eq_true rfl⟩ ⟨Nat.le_of_ble_eq_true rfl, Nat.le_of_ble_eq_true rfl⟩ (Nat.le_of_ble_eq_true rfl) rfl (fun hr2 hs2 => ?_)
  exact r_ret1 hr dX11_back_8 hr2 hf
set_option maxRecDepth 20000 in
theorem m_Qu_about {l : Launch} {D : va_G} {cs : Nat → ClassId} {aS aV : Nat} {A : Nat → Prop} {ad : Nat → Nat} {n : Nat} {nl : Nat → Nat → Bool} {out : Int × SS} (hw : w_W0 n nl) (ht : 0 < n) {a1 : Int} (ra1 : rI a1) {s0 : SS} (hs0 : rS s0) (hf : f_Qu_about a1 s0 = some out) : w_MC l D cs aS aV A yX11_about cX11_about 2 1 rm_Qu_about ad n nl [.ref (ad 0), .int (vI a1)] s0 (w_Po ad n nl out) := by
  refine w_MC_of (by decide +kernel) (by decide) hs0 (Nat.le_of_ble_eq_true rfl) (fun K h hr => ?_)
  refine r_lv (lv' := [(0, .ref (ad 0)), (1, .int (vI a1))]) rfl ?_
  unfold f_Qu_about at hf
  refine r_rS h (fun hs0 => ?_)
  refine r_iload_n h dX11_about_0 rfl 1 rfl ?_
  by_cases hc1 : a1 = 0
  · have hf := ite_t hc1 hf
    refine r_tableIn (tgt := 72) h dX11_about_1 hc1 (rIc rfl) (by decide) (by decide) (off := 71) rfl (by decide) ?_
    refine r_aload_n h dX11_about_72 rfl 0 rfl ?_
    have hq2 := w_ref0 hw (k := 2) (by decide) rf_11_2
    refine g_X11_20 h dX11_about_73 ht rC_0 hq2.1 ?_
    refine g_X11_104 h dX11_about_76 hq2.2 rC_2 ?_
    exact r_ret1 hr dX11_about_79 (hs0.1 _ _) hf
  · have hf := ite_f hc1 hf
    by_cases hc3 : a1 = 1
    · have hf := ite_t hc3 hf
      refine r_tableIn (tgt := 80) h dX11_about_1 hc3 (rIc rfl) (by decide) (by decide) (off := 79) rfl (by decide) ?_
      refine r_aload_n h dX11_about_80 rfl 0 rfl ?_
      have hq4 := w_ref0 hw (k := 2) (by decide) rf_11_2
      refine g_X11_20 h dX11_about_81 ht rC_0 hq4.1 ?_
      refine g_X11_267 h dX11_about_84 hq4.2 rC_2 ?_
      exact r_ret1 hr dX11_about_87 (hs0.1 _ _) hf
    · have hf := ite_f hc3 hf
      by_cases hc5 : a1 = 2
      · have hf := ite_t hc5 hf
        refine r_tableIn (tgt := 88) h dX11_about_1 hc5 (rIc rfl) (by decide) (by decide) (off := 87) rfl (by decide) ?_
        refine r_aload_n h dX11_about_88 rfl 0 rfl ?_
        have hq6 := w_ref0 hw (k := 2) (by decide) rf_11_2
        refine g_X11_20 h dX11_about_89 ht rC_0 hq6.1 ?_
        refine g_X11_270 h dX11_about_92 hq6.2 rC_2 ?_
        exact r_ret1 hr dX11_about_95 (hs0.1 _ _) hf
      · have hf := ite_f hc5 hf
        by_cases hc7 : a1 = 3
        · have hf := ite_t hc7 hf
          refine r_tableIn (tgt := 96) h dX11_about_1 hc7 (rIc rfl) (by decide) (by decide) (off := 95) rfl (by decide) ?_
          refine r_aload_n h dX11_about_96 rfl 0 rfl ?_
          have hq8 := w_ref0 hw (k := 2) (by decide) rf_11_2
          refine g_X11_20 h dX11_about_97 ht rC_0 hq8.1 ?_
          refine g_X11_273 h dX11_about_100 hq8.2 rC_2 ?_
          exact r_ret1 hr dX11_about_103 (hs0.1 _ _) hf
        · have hf := ite_f hc7 hf
          by_cases hc9 : a1 = 4
          · have hf := ite_t hc9 hf
            refine r_tableIn (tgt := 104) h dX11_about_1 hc9 (rIc rfl) (by decide) (by decide) (off := 103) rfl (by decide) ?_
            refine r_aload_n h dX11_about_104 rfl 0 rfl ?_
            have hq10 := w_ref0 hw (k := 5) (by decide) rf_11_5
            refine g_X11_46 h dX11_about_105 ht rC_0 hq10.1 ?_
            refine g_X11_276 h dX11_about_108 hq10.2 rC_46 ?_
            exact r_ret1 hr dX11_about_111 (hs0.1 _ _) hf
          · have hf := ite_f hc9 hf
            by_cases hc11 : a1 = 5
            · have hf := ite_t hc11 hf
              refine r_tableIn (tgt := 112) h dX11_about_1 hc11 (rIc rfl) (by decide) (by decide) (off := 111) rfl (by decide) ?_
              refine r_aload_n h dX11_about_112 rfl 0 rfl ?_
              have hq12 := w_ref0 hw (k := 5) (by decide) rf_11_5
              refine g_X11_46 h dX11_about_113 ht rC_0 hq12.1 ?_
              refine g_X11_279 h dX11_about_116 hq12.2 rC_46 ?_
              exact r_ret1 hr dX11_about_119 (hs0.1 _ _) hf
            · have hf := ite_f hc11 hf
              by_cases hc13 : a1 = 6
              · have hf := ite_t hc13 hf
                refine r_tableIn (tgt := 120) h dX11_about_1 hc13 (rIc rfl) (by decide) (by decide) (off := 119) rfl (by decide) ?_
                refine r_aload_n h dX11_about_120 rfl 0 rfl ?_
                have hq14 := w_ref0 hw (k := 5) (by decide) rf_11_5
                refine g_X11_46 h dX11_about_121 ht rC_0 hq14.1 ?_
                refine g_X11_282 h dX11_about_124 hq14.2 rC_46 ?_
                exact r_ret1 hr dX11_about_127 (hs0.1 _ _) hf
              · have hf := ite_f hc13 hf
                by_cases hc15 : a1 = 7
                · have hf := ite_t hc15 hf
                  refine r_tableIn (tgt := 128) h dX11_about_1 hc15 (rIc rfl) (by decide) (by decide) (off := 127) rfl (by decide) ?_
                  refine r_aload_n h dX11_about_128 rfl 0 rfl ?_
                  have hq16 := w_ref0 hw (k := 6) (by decide) rf_11_6
                  refine g_X11_53 h dX11_about_129 ht rC_0 hq16.1 ?_
                  refine g_X11_183 h dX11_about_132 hq16.2 rC_54 ?_
                  refine r_iconst h dX11_about_135 ?_
                  refine r_icmp_ne (tgt := 143) h dX11_about_136 (by decide) (hs0.1 _ _) (rIc rfl) (fun hc17 => ?_) (fun hc17 => ?_)
                  · have hf := ite_f hc17 hf
                    refine r_aload_n h dX11_about_143 rfl 0 rfl ?_
                    have hq18 := w_ref0 hw (k := 6) (by decide) rf_11_6
                    refine g_X11_53 h dX11_about_144 ht rC_0 hq18.1 ?_
                    refine g_X11_180 h dX11_about_147 hq18.2 rC_54 ?_
                    exact r_ret1 hr dX11_about_150 (hs0.1 _ _) hf
                  · have hf := ite_nf hc17 hf
                    refine r_iconst h dX11_about_139 ?_
                    refine r_goto (tgt := 150) h dX11_about_140 (by decide) ?_
                    exact r_ret1 hr dX11_about_150 (rIc rfl) hf
                · have hf := ite_f hc15 hf
                  by_cases hc19 : a1 = 8
                  · have hf := ite_t hc19 hf
                    refine r_tableIn (tgt := 151) h dX11_about_1 hc19 (rIc rfl) (by decide) (by decide) (off := 150) rfl (by decide) ?_
                    refine r_aload_n h dX11_about_151 rfl 0 rfl ?_
                    have hq20 := w_ref0 hw (k := 6) (by decide) rf_11_6
                    refine g_X11_53 h dX11_about_152 ht rC_0 hq20.1 ?_
                    refine g_X11_183 h dX11_about_155 hq20.2 rC_54 ?_
                    exact r_ret1 hr dX11_about_158 (hs0.1 _ _) hf
                  · have hf := ite_f hc19 hf
                    by_cases hc21 : a1 = 9
                    · have hf := ite_t hc21 hf
                      refine r_tableIn (tgt := 159) h dX11_about_1 hc21 (rIc rfl) (by decide) (by decide) (off := 158) rfl (by decide) ?_
                      refine r_aload_n h dX11_about_159 rfl 0 rfl ?_
                      have hq22 := w_ref0 hw (k := 9) (by decide) rf_11_9
                      refine g_X11_80 h dX11_about_160 ht rC_0 hq22.1 ?_
                      refine g_X11_285 h dX11_about_163 hq22.2 rC_79 ?_
                      exact r_ret1 hr dX11_about_166 (hs0.1 _ _) hf
                    · have hf := ite_f hc21 hf
                      by_cases hc23 : a1 = 10
                      · have hf := ite_t hc23 hf
                        refine r_tableIn (tgt := 167) h dX11_about_1 hc23 (rIc rfl) (by decide) (by decide) (off := 166) rfl (by decide) ?_
                        refine r_aload_n h dX11_about_167 rfl 0 rfl ?_
                        have hq24 := w_ref0 hw (k := 9) (by decide) rf_11_9
                        refine g_X11_80 h dX11_about_168 ht rC_0 hq24.1 ?_
                        refine g_X11_286 h dX11_about_171 hq24.2 rC_79 ?_
                        exact r_ret1 hr dX11_about_174 (hs0.1 _ _) hf
                      · have hf := ite_f hc23 hf
                        by_cases hc25 : a1 = 11
                        · have hf := ite_t hc25 hf
                          refine r_tableIn (tgt := 175) h dX11_about_1 hc25 (rIc rfl) (by decide) (by decide) (off := 174) rfl (by decide) ?_
                          refine r_aload_n h dX11_about_175 rfl 0 rfl ?_
                          refine g_X11_13 h dX11_about_176 ht rC_0 ?_
                          exact r_ret1 hr dX11_about_179 (hs0.1 _ _) hf
                        · have hf := ite_f hc25 hf
                          by_cases hc26 : a1 = 12
                          · have hf := ite_t hc26 hf
                            refine r_tableIn (tgt := 180) h dX11_about_1 hc26 (rIc rfl) (by decide) (by decide) (off := 179) rfl (by decide) ?_
                            refine r_aload_n h dX11_about_180 rfl 0 rfl ?_
                            have hq27 := w_ref0 hw (k := 2) (by decide) rf_11_2
                            refine g_X11_20 h dX11_about_181 ht rC_0 hq27.1 ?_
                            have hq28c := rf_4_18 _ rC_2
                            have hq28 := w_ref hw.1 hq27.2 rC_2 (by decide) (k := 18) (by decide) hq28c.1
                            refine g_X11_289 h dX11_about_184 hq27.2 rC_2 hq28.1 ?_
                            refine r_st (st0 := [.ref (ad 16)]) rfl ?_
                            refine g_X11_293 h dX11_about_187 hq28.2 rC_16 ?_
                            refine r_aload_n h dX11_about_190 rfl 0 rfl ?_
                            have hq29 := w_ref0 hw (k := 2) (by decide) rf_11_2
                            refine g_X11_20 h dX11_about_191 ht rC_0 hq29.1 ?_
                            have hq30c := rf_4_19 _ rC_2
                            have hq30 := w_ref hw.1 hq29.2 rC_2 (by decide) (k := 19) (by decide) hq30c.1
                            refine g_X11_298 h dX11_about_194 hq29.2 rC_2 hq30.1 ?_
                            refine r_st (st0 := [.ref (ad 19), .int (vI (gi s0 16 3))]) rfl ?_
                            refine g_X11_293 h dX11_about_197 hq30.2 rC_19 ?_
                            refine r_iadd h dX11_about_200 ?_
                            exact r_ret1 hr dX11_about_201 (rI_iw _) hf
                          · have hf := ite_f hc26 hf
                            by_cases hc31 : a1 = 13
                            · have hf := ite_t hc31 hf
                              refine r_tableIn (tgt := 202) h dX11_about_1 hc31 (rIc rfl) (by decide) (by decide) (off := 201) rfl (by decide) ?_
                              refine r_aload_n h dX11_about_202 rfl 0 rfl ?_
                              have hq32 := w_ref0 hw (k := 8) (by decide) rf_11_8
                              refine g_X11_73 h dX11_about_203 ht rC_0 hq32.1 ?_
                              refine g_X11_301 h dX11_about_206 hq32.2 rC_61 ?_
                              exact r_ret1 hr dX11_about_209 (hs0.1 _ _) hf
                            · have hf := ite_f hc31 hf
                              refine r_tableX (tgt := 210) h dX11_about_1 ra1 (by rcases (show a1 < 0 ∨ 13 < a1 from by omega) with q | q; exact Or.inl q; exact Or.inr (Or.inl q)) (by decide) ?_
                              refine r_iconst h dX11_about_210 ?_
                              exact r_ret1 hr dX11_about_211 (rIc rfl) hf
