def f_Fo_clear (t : Nat) (s0 : SS) : OO :=
  os (si s0 t 2 0) fun s1 =>
  os (si s1 t 3 0) fun s2 =>
  some (0, s2)
def f_Fo_isTold (t : Nat) (s0 : SS) : OO :=
  if (gi s0 t 2) ≤ 0 then (
    some (0, s0))
  else (
    some (1, s0))
def f_Fo_add (t : Nat) (a1 : Int) (s0 : SS) : OO :=
  if (gi s0 t 2) < 0 then (
    some (0, s0))
  else (
    if 320 ≤ (gi s0 t 2) then (
      some (0, s0))
    else (
      oc (0 ≤ gi s0 t 2 ∧ gi s0 t 2 < 320) <|
      os (si s0 (t + 1) ((gi s0 t 2).toNat) a1) fun s6 =>
      os (si s6 t 2 (iw ((gi s6 t 2) + 1))) fun s7 =>
      some (0, s7)))
def f_Fo_addNumber (t : Nat) (a1 : Int) (s0 : SS) : OO :=
  ob (f_Fo_add t a1 s0) fun r1 s1 =>
  some (0, s1)
def f_Fo_addKnown (t : Nat) (a1 : Int) (s0 : SS) : OO :=
  ob (f_Fo_add t (iw ((-1) - a1)) s0) fun r1 s1 =>
  some (0, s1)
def f_Fo_addOperator (t : Nat) (a1 : Int) (s0 : SS) : OO :=
  ob (f_Fo_add t (iw (-a1)) s0) fun r1 s1 =>
  some (0, s1)
def l_Fo_asksFor_2 (t : Nat) (y1 : Int) : Nat → Int → SS → OO
  | 0, _, _ => none
  | fu + 1, x2, s0 =>
    if (gi s0 t 2) ≤ x2 then (
      some (0, s0))
    else (
      if 320 ≤ x2 then (
        some (0, s0))
      else (
        oc (0 ≤ x2 ∧ x2 < 320) <|
        if (gi s0 (t + 1) ((x2).toNat)) = (iw ((-1) - y1)) then (
          some (1, s0))
        else (
          (l_Fo_asksFor_2 t y1 fu) (iw (x2 + 1)) s0)))
def f_Fo_asksFor (t : Nat) (a1 : Int) (s0 : SS) : OO :=
  l_Fo_asksFor_2 t a1 FU 0 s0
def f_Fo_join (a1 : Int) (a2 : Int) (a3 : Int) (s0 : SS) : OO :=
  if a1 = 37 then (
    if a3 = 0 then (
      some (0, s0))
    else (
      oc (¬ a3 = 0) <|
      some (Int.tmod a2 a3, s0)))
  else   if a1 = 42 then (
      some (iw (a2 * a3), s0))
  else   if a1 = 43 then (
        some (iw (a2 + a3), s0))
  else   if a1 = 45 then (
          some (iw (a2 - a3), s0))
  else   if a1 = 47 then (
            if a3 = 0 then (
              some (0, s0))
            else (
              oc (¬ a3 = 0) <|
              some (iw (Int.tdiv a2 a3), s0)))
  else   if a1 = 60 then (
              if a3 ≤ a2 then (
                some (0, s0))
              else (
                some (1, s0)))
  else   if a1 = 61 then (
                if a2 = a3 then (
                  some (1, s0))
                else (
                  some (0, s0)))
  else   if a1 = 62 then (
                  if a2 ≤ a3 then (
                    some (0, s0))
                  else (
                    some (1, s0)))
  else   if a1 = 271 then (
                    if a2 = 0 then (
                      if a3 = 0 then (
                        some (0, s0))
                      else (
                        some (1, s0)))
                    else (
                      some (1, s0)))
  else   if a1 = 272 then (
                      if a2 = 0 then (
                        some (0, s0))
                      else (
                        if a3 = 0 then (
                          some (0, s0))
                        else (
                          some (1, s0))))
  else (
                      some (0, s0))
def j_Fo_answer_81 (t : Nat) (u1 : Nat) (self5 : Int → Int → SS → OO) (x2 : Int) (x3 : Int) (x4 : Int) (z1 : Int) (z2 : Int) (s0 : SS) : OO :=
  oc (0 ≤ z1 ∧ z1 < 32) <|
  os (si s0 (t + 2) ((z1).toNat) z2) fun s2 =>
  self5 (iw (x3 + 1)) (iw (x4 + 1)) s2
def j_Fo_answer_126 (t : Nat) (u1 : Nat) (self5 : Int → Int → SS → OO) (x2 : Int) (x3 : Int) (x4 : Int) (z1 : Int) (z2 : Int) (s0 : SS) : OO :=
  oc (0 ≤ z1 ∧ z1 < 32) <|
  os (si s0 (t + 2) ((z1).toNat) z2) fun s2 =>
  self5 x3 (iw (x4 + 1)) s2
def j_Fo_answer_174 (t : Nat) (u1 : Nat) (x2 : Int) (x3 : Int) (s0 : SS) : OO :=
  if x3 = 1 then (
    some (gi s0 (t + 2) 0, s0))
  else (
    some (x2, s0))
def l_Fo_answer_5 (t : Nat) (u1 : Nat) (y2 : Int) : Nat → Int → Int → SS → OO
  | 0, _, _, _ => none
  | fu + 1, x3, x4, s0 =>
    if (gi s0 t 2) ≤ x4 then (
      j_Fo_answer_174 t u1 y2 x3 s0)
    else (
      if 320 ≤ x4 then (
        j_Fo_answer_174 t u1 y2 x3 s0)
      else (
        oc (0 ≤ x4 ∧ x4 < 320) <|
        ol (gi s0 (t + 1) ((x4).toNat)) fun x6_ =>
        if x6_ < (-6) then (
          if x6_ = (-273) then (
            if 1 ≤ x3 then (
              oc (0 ≤ iw (x3 - 1) ∧ iw (x3 - 1) < 32) <|
              if (gi s0 (t + 2) ((iw (x3 - 1)).toNat)) = 0 then (
                j_Fo_answer_126 t u1 (l_Fo_answer_5 t u1 y2 fu) y2 x3 x4 (iw (x3 - 1)) 1 s0)
              else (
                j_Fo_answer_126 t u1 (l_Fo_answer_5 t u1 y2 fu) y2 x3 x4 (iw (x3 - 1)) 0 s0))
            else (
              some (y2, s0)))
          else (
            if 2 ≤ x3 then (
              oc (0 ≤ iw ((iw (x3 + (-1))) - 1) ∧ iw ((iw (x3 + (-1))) - 1) < 32) <|
              oc (0 ≤ iw (x3 + (-1)) ∧ iw (x3 + (-1)) < 32) <|
              ob (f_Fo_join (iw (-x6_)) (gi s0 (t + 2) ((iw ((iw (x3 + (-1))) - 1)).toNat)) (gi s0 (t + 2) ((iw (x3 + (-1))).toNat)) s0) fun r15 s15 =>
              oc (0 ≤ iw ((iw (x3 + (-1))) - 1) ∧ iw ((iw (x3 + (-1))) - 1) < 32) <|
              os (si s15 (t + 2) ((iw ((iw (x3 + (-1))) - 1)).toNat) r15) fun s17 =>
              (l_Fo_answer_5 t u1 y2 fu) (iw (x3 + (-1))) (iw (x4 + 1)) s17)
            else (
              some (y2, s0))))
        else (
          if 32 ≤ x3 then (
            some (y2, s0))
          else (
            if (iw ((-1) - x6_)) < ((rN u1 : Nat) : Int) then (
              if x6_ < 0 then (
                oc (0 ≤ iw ((-1) - x6_) ∧ iw ((-1) - x6_) < ((rN u1 : Nat) : Int)) <|
                j_Fo_answer_81 t u1 (l_Fo_answer_5 t u1 y2 fu) y2 x3 x4 x3 (gi s0 u1 ((iw ((-1) - x6_)).toNat)) s0)
              else (
                j_Fo_answer_81 t u1 (l_Fo_answer_5 t u1 y2 fu) y2 x3 x4 x3 x6_ s0))
            else (
              some (y2, s0))))))
def f_Fo_answer (t : Nat) (u1 : Nat) (a2 : Int) (s0 : SS) : OO :=
  l_Fo_answer_5 t u1 a2 FU 0 0 s0
def f_Qu_within (a1 : Int) (a2 : Int) (a3 : Int) (s0 : SS) : OO :=
  if a1 ≤ a2 then (
    if a2 ≤ a3 then (
      some (a2, s0))
    else (
      some (a3, s0)))
  else (
    some (a1, s0))
set_option maxRecDepth 20000 in
theorem m_Fo_clear {l : Launch} {D : va_G} {cs : Nat → ClassId} {aS aV : Nat} {A : Nat → Prop} {ad : Nat → Nat} {n : Nat} {nl : Nat → Nat → Bool} {out : Int × SS} (hw : w_WH n nl) {t : Nat} (ht : t < n) (hC : rC t = 2) {s0 : SS} (hs0 : rS s0) (hf : f_Fo_clear t s0 = some out) : w_MC l D cs aS aV A yX2_clear cX2_clear 1 0 rm_Fo_clear ad n nl [.ref (ad t)] s0 (w_Po ad n nl out) := by
  refine w_MC_of (by decide +kernel) (by decide) hs0 (Nat.le_of_ble_eq_true rfl) (fun K h hr => ?_)
  refine r_lv (lv' := [(0, .ref (ad t))]) rfl ?_
  unfold f_Fo_clear at hf
  refine r_rS h (fun hs0 => ?_)
  refine r_aload_n h dX2_clear_0 rfl 0 rfl ?_
  refine r_iconst h dX2_clear_1 ?_
  refine p_X2_18 h dX2_clear_2 ht hC (rIc rfl) ?_
  refine r_os hf (fun s1 hf => ?_)
  refine r_rS h (fun hs1 => ?_)
  refine r_aload_n h dX2_clear_5 rfl 0 rfl ?_
  refine r_iconst h dX2_clear_6 ?_
  refine p_X2_22 h dX2_clear_7 ht hC (rIc rfl) ?_
  refine r_os hf (fun s2 hf => ?_)
  refine r_rS h (fun hs2 => ?_)
  exact r_ret0 (x := 0) hr dX2_clear_10 hf
set_option maxRecDepth 20000 in
theorem m_Fo_isTold {l : Launch} {D : va_G} {cs : Nat → ClassId} {aS aV : Nat} {A : Nat → Prop} {ad : Nat → Nat} {n : Nat} {nl : Nat → Nat → Bool} {out : Int × SS} (hw : w_WH n nl) {t : Nat} (ht : t < n) (hC : rC t = 2) {s0 : SS} (hs0 : rS s0) (hf : f_Fo_isTold t s0 = some out) : w_MC l D cs aS aV A yX2_isTold cX2_isTold 1 2 rm_Fo_isTold ad n nl [.ref (ad t)] s0 (w_Po ad n nl out) := by
  refine w_MC_of (by decide +kernel) (by decide) hs0 (Nat.le_of_ble_eq_true rfl) (fun K h hr => ?_)
  refine r_lv (lv' := [(0, .ref (ad t))]) rfl ?_
  unfold f_Fo_isTold at hf
  refine r_rS h (fun hs0 => ?_)
  refine r_aload_n h dX2_isTold_0 rfl 0 rfl ?_
  refine g_X2_18 h dX2_isTold_1 ht hC ?_
  refine r_if_le (tgt := 11) h dX2_isTold_4 (by decide) (hs0.1 _ _) (fun hc1 => ?_) (fun hc1 => ?_)
  · have hf := ite_t hc1 hf
    refine r_iconst h dX2_isTold_11 ?_
    exact r_ret2 hr dX2_isTold_12 (Or.inl rfl) hf
  · have hf := ite_f hc1 hf
    refine r_iconst h dX2_isTold_7 ?_
    refine r_goto (tgt := 12) h dX2_isTold_8 (by decide) ?_
    exact r_ret2 hr dX2_isTold_12 (Or.inr rfl) hf
set_option maxRecDepth 20000 in
theorem m_Fo_add {l : Launch} {D : va_G} {cs : Nat → ClassId} {aS aV : Nat} {A : Nat → Prop} {ad : Nat → Nat} {n : Nat} {nl : Nat → Nat → Bool} {out : Int × SS} (hw : w_WH n nl) {t : Nat} (ht : t < n) (hC : rC t = 2) {a1 : Int} (ra1 : rI a1) {s0 : SS} (hs0 : rS s0) (hf : f_Fo_add t a1 s0 = some out) : w_MC l D cs aS aV A yX2_add cX2_add 2 0 rm_Fo_add ad n nl [.ref (ad t), .int (vI a1)] s0 (w_Po ad n nl out) := by
  refine w_MC_of (by decide +kernel) (by decide) hs0 (Nat.le_of_ble_eq_true rfl) (fun K h hr => ?_)
  refine r_lv (lv' := [(0, .ref (ad t)), (1, .int (vI a1))]) rfl ?_
  unfold f_Fo_add at hf
  refine r_rS h (fun hs0 => ?_)
  refine r_aload_n h dX2_add_0 rfl 0 rfl ?_
  refine g_X2_18 h dX2_add_1 ht hC ?_
  refine r_if_lt (tgt := 39) h dX2_add_4 (by decide) (hs0.1 _ _) (fun hc1 => ?_) (fun hc1 => ?_)
  · have hf := ite_t hc1 hf
    exact r_ret0 (x := 0) hr dX2_add_39 hf
  · have hf := ite_f hc1 hf
    refine r_aload_n h dX2_add_7 rfl 0 rfl ?_
    refine g_X2_18 h dX2_add_8 ht hC ?_
    refine r_aload_n h dX2_add_11 rfl 0 rfl ?_
    have hq2c := rf_2_0 _ hC
    have hq2 := w_ref hw ht hC (by decide) (k := 0) (by decide) hq2c.1
    refine g_X2_9 h dX2_add_12 ht hC hq2.1 ?_
    refine r_alen (N := 320) h dX2_add_15 hq2.2 hq2c.2.1 (Or.inr (Or.inl rfl)) (by rw [hq2c.2.2]; rfl) ?_
    refine r_icmp_ge (tgt := 39) h dX2_add_16 (by decide) (hs0.1 _ _) (rIc rfl) (fun hc3 => ?_) (fun hc3 => ?_)
    · have hf := ite_t hc3 hf
      exact r_ret0 (x := 0) hr dX2_add_39 hf
    · have hf := ite_f hc3 hf
      refine r_aload_n h dX2_add_19 rfl 0 rfl ?_
      have hq4c := rf_2_0 _ hC
      have hq4 := w_ref hw ht hC (by decide) (k := 0) (by decide) hq4c.1
      refine g_X2_9 h dX2_add_20 ht hC hq4.1 ?_
      refine r_aload_n h dX2_add_23 rfl 0 rfl ?_
      refine g_X2_18 h dX2_add_24 ht hC ?_
      refine r_iload_n h dX2_add_27 rfl 1 rfl ?_
      obtain ⟨hi5, hf⟩ := oc_some hf
      refine r_iast h dX2_add_28 hq4.2 hq4c.2.1 (hs0.1 _ _) (N := 320) (by rw [hq4c.2.2]; rfl) (j := (gi s0 t 2).toNat) rfl hi5 ra1 ?_
      refine r_os hf (fun s6 hf => ?_)
      refine r_rS h (fun hs6 => ?_)
      refine r_aload_n h dX2_add_29 rfl 0 rfl ?_
      refine r_dup h dX2_add_30 rfl ?_
      refine g_X2_18 h dX2_add_31 ht hC ?_
      refine r_iconst h dX2_add_34 ?_
      refine r_iadd h dX2_add_35 ?_
      refine p_X2_18 h dX2_add_36 ht hC (rI_iw _) ?_
      refine r_os hf (fun s7 hf => ?_)
      refine r_rS h (fun hs7 => ?_)
      exact r_ret0 (x := 0) hr dX2_add_39 hf
set_option maxRecDepth 20000 in
theorem m_Fo_addNumber {l : Launch} {D : va_G} {cs : Nat → ClassId} {aS aV : Nat} {A : Nat → Prop} {ad : Nat → Nat} {n : Nat} {nl : Nat → Nat → Bool} {out : Int × SS} (hw : w_WH n nl) {t : Nat} (ht : t < n) (hC : rC t = 2) {a1 : Int} (ra1 : rI a1) {s0 : SS} (hs0 : rS s0) (hf : f_Fo_addNumber t a1 s0 = some out) : w_MC l D cs aS aV A yX2_addNumber cX2_addNumber 2 0 rm_Fo_addNumber ad n nl [.ref (ad t), .int (vI a1)] s0 (w_Po ad n nl out) := by
  refine w_MC_of (by decide +kernel) (by decide) hs0 (Nat.le_of_ble_eq_true rfl) (fun K h hr => ?_)
  refine r_lv (lv' := [(0, .ref (ad t)), (1, .int (vI a1))]) rfl ?_
  unfold f_Fo_addNumber at hf
  refine r_rS h (fun hs0 => ?_)
  refine r_aload_n h dX2_addNumber_0 rfl 0 rfl ?_
  refine r_iload_n h dX2_addNumber_1 rfl 1 rfl ?_
  obtain ⟨r1, s1, hq1, hf⟩ := ob_some hf
  refine r_callV0 h [.int (vI a1)] dX2_addNumber_2 (fun hs => m_Fo_add hw ht hC ra1 hs hq1) ml_X2_25 cv_Fo_add rfl (co := 2) rfl (by decide) ht hC ⟨rfl, rfl⟩ ⟨Nat.le_of_ble_eq_true rfl, Nat.le_of_ble_eq_true rfl⟩ ⟨Nat.le_of_ble_eq_true rfl, Nat.le_of_ble_eq_true rfl⟩ (Nat.le_of_ble_eq_true rfl) rfl (fun hr1 hs1 => ?_)
  exact r_ret0 (x := 0) hr dX2_addNumber_5 hf
set_option maxRecDepth 20000 in
theorem m_Fo_addKnown {l : Launch} {D : va_G} {cs : Nat → ClassId} {aS aV : Nat} {A : Nat → Prop} {ad : Nat → Nat} {n : Nat} {nl : Nat → Nat → Bool} {out : Int × SS} (hw : w_WH n nl) {t : Nat} (ht : t < n) (hC : rC t = 2) {a1 : Int} (ra1 : rI a1) {s0 : SS} (hs0 : rS s0) (hf : f_Fo_addKnown t a1 s0 = some out) : w_MC l D cs aS aV A yX2_addKnown cX2_addKnown 2 0 rm_Fo_addKnown ad n nl [.ref (ad t), .int (vI a1)] s0 (w_Po ad n nl out) := by
  refine w_MC_of (by decide +kernel) (by decide) hs0 (Nat.le_of_ble_eq_true rfl) (fun K h hr => ?_)
  refine r_lv (lv' := [(0, .ref (ad t)), (1, .int (vI a1))]) rfl ?_
  unfold f_Fo_addKnown at hf
  refine r_rS h (fun hs0 => ?_)
  refine r_aload_n h dX2_addKnown_0 rfl 0 rfl ?_
  refine r_iconst h dX2_addKnown_1 ?_
  refine r_iload_n h dX2_addKnown_2 rfl 1 rfl ?_
  refine r_isub h dX2_addKnown_3 ?_
  obtain ⟨r1, s1, hq1, hf⟩ := ob_some hf
  refine r_callV0 h [.int (vI (iw ((-1) - a1)))] dX2_addKnown_4 (fun hs => m_Fo_add hw ht hC (rI_iw _) hs hq1) ml_X2_25 cv_Fo_add rfl (co := 2) rfl (by decide) ht hC ⟨rfl, rfl⟩ ⟨Nat.le_of_ble_eq_true rfl, Nat.le_of_ble_eq_true rfl⟩ ⟨Nat.le_of_ble_eq_true rfl, Nat.le_of_ble_eq_true rfl⟩ (Nat.le_of_ble_eq_true rfl) rfl (fun hr1 hs1 => ?_)
  exact r_ret0 (x := 0) hr dX2_addKnown_7 hf
set_option maxRecDepth 20000 in
theorem m_Fo_addOperator {l : Launch} {D : va_G} {cs : Nat → ClassId} {aS aV : Nat} {A : Nat → Prop} {ad : Nat → Nat} {n : Nat} {nl : Nat → Nat → Bool} {out : Int × SS} (hw : w_WH n nl) {t : Nat} (ht : t < n) (hC : rC t = 2) {a1 : Int} (ra1 : rI a1) {s0 : SS} (hs0 : rS s0) (hf : f_Fo_addOperator t a1 s0 = some out) : w_MC l D cs aS aV A yX2_addOperator cX2_addOperator 2 0 rm_Fo_addOperator ad n nl [.ref (ad t), .int (vI a1)] s0 (w_Po ad n nl out) := by
  refine w_MC_of (by decide +kernel) (by decide) hs0 (Nat.le_of_ble_eq_true rfl) (fun K h hr => ?_)
  refine r_lv (lv' := [(0, .ref (ad t)), (1, .int (vI a1))]) rfl ?_
  unfold f_Fo_addOperator at hf
  refine r_rS h (fun hs0 => ?_)
  refine r_aload_n h dX2_addOperator_0 rfl 0 rfl ?_
  refine r_iload_n h dX2_addOperator_1 rfl 1 rfl ?_
  refine r_ineg h dX2_addOperator_2 ?_
  obtain ⟨r1, s1, hq1, hf⟩ := ob_some hf
  refine r_callV0 h [.int (vI (iw (-a1)))] dX2_addOperator_3 (fun hs => m_Fo_add hw ht hC (rI_iw _) hs hq1) ml_X2_25 cv_Fo_add rfl (co := 2) rfl (by decide) ht hC ⟨rfl, rfl⟩ ⟨Nat.le_of_ble_eq_true rfl, Nat.le_of_ble_eq_true rfl⟩ ⟨Nat.le_of_ble_eq_true rfl, Nat.le_of_ble_eq_true rfl⟩ (Nat.le_of_ble_eq_true rfl) rfl (fun hr1 hs1 => ?_)
  exact r_ret0 (x := 0) hr dX2_addOperator_6 hf
set_option maxRecDepth 20000 in
theorem b_Fo_asksFor_2 {l : Launch} {D : va_G} {cs : Nat → ClassId} {aS aV : Nat} {A : Nat → Prop} {K : KT} {ad : Nat → Nat} {n : Nat} {nl : Nat → Nat → Bool} {out : Int × SS} (h : w_Cl l rm_Fo_asksFor D cs aS aV A cX2_asksFor 3 RX2 "asksFor" K) (hr : w_Rt 2 cX2_asksFor 0 0 (w_Po ad n nl out) K) (hw : w_WH n nl) {t : Nat} (ht : t < n) (hC : rC t = 2) {y1 : Int} (ry1 : rI y1) : ∀ (fu : Nat) (x2 : Int) (s0 : SS), rI x2 → l_Fo_asksFor_2 t y1 fu x2 s0 = some out → K ad n nl 0 0 2 [(0, .ref (ad t)), (1, .int (vI y1)), (2, .int (vI x2))] [] s0 := by
  intro fu
  induction fu with
  | zero =>
    intro x2 s0 rx2 hf
    rw [l_Fo_asksFor_2] at hf
    cases hf
  | succ fu ih =>
    intro x2 s0 rx2 hf
    rw [l_Fo_asksFor_2] at hf
    refine r_rS h (fun hs0 => ?_)
    refine r_iload_n h dX2_asksFor_2 rfl 2 rfl ?_
    refine r_aload_n h dX2_asksFor_3 rfl 0 rfl ?_
    refine g_X2_18 h dX2_asksFor_4 ht hC ?_
    refine r_icmp_ge (tgt := 39) h dX2_asksFor_7 (by decide) rx2 (hs0.1 _ _) (fun hc1 => ?_) (fun hc1 => ?_)
    · have hf := ite_t hc1 hf
      refine r_iconst h dX2_asksFor_39 ?_
      exact r_ret2 hr dX2_asksFor_40 (Or.inl rfl) hf
    · have hf := ite_f hc1 hf
      refine r_iload_n h dX2_asksFor_10 rfl 2 rfl ?_
      refine r_aload_n h dX2_asksFor_11 rfl 0 rfl ?_
      have hq2c := rf_2_0 _ hC
      have hq2 := w_ref hw ht hC (by decide) (k := 0) (by decide) hq2c.1
      refine g_X2_9 h dX2_asksFor_12 ht hC hq2.1 ?_
      refine r_alen (N := 320) h dX2_asksFor_15 hq2.2 hq2c.2.1 (Or.inr (Or.inl rfl)) (by rw [hq2c.2.2]; rfl) ?_
      refine r_icmp_ge (tgt := 39) h dX2_asksFor_16 (by decide) rx2 (rIc rfl) (fun hc3 => ?_) (fun hc3 => ?_)
      · have hf := ite_t hc3 hf
        refine r_iconst h dX2_asksFor_39 ?_
        exact r_ret2 hr dX2_asksFor_40 (Or.inl rfl) hf
      · have hf := ite_f hc3 hf
        refine r_aload_n h dX2_asksFor_19 rfl 0 rfl ?_
        have hq4c := rf_2_0 _ hC
        have hq4 := w_ref hw ht hC (by decide) (k := 0) (by decide) hq4c.1
        refine g_X2_9 h dX2_asksFor_20 ht hC hq4.1 ?_
        refine r_iload_n h dX2_asksFor_23 rfl 2 rfl ?_
        obtain ⟨hi5, hf⟩ := oc_some hf
        refine r_iald h dX2_asksFor_24 hq4.2 hq4c.2.1 rx2 (N := 320) (by rw [hq4c.2.2]; rfl) (j := (x2).toNat) rfl hi5 ?_
        refine r_iconst h dX2_asksFor_25 ?_
        refine r_iload_n h dX2_asksFor_26 rfl 1 rfl ?_
        refine r_isub h dX2_asksFor_27 ?_
        refine r_icmp_ne (tgt := 33) h dX2_asksFor_28 (by decide) (hs0.1 _ _) (rI_iw _) (fun hc6 => ?_) (fun hc6 => ?_)
        · have hf := ite_f hc6 hf
          refine r_iinc h [(2, .int (vI (iw (x2 + 1)))), (0, .ref (ad t)), (1, .int (vI y1))] dX2_asksFor_33 2 rfl (by decide) rfl ?_
          refine r_goto (tgt := 2) h dX2_asksFor_36 (by decide) ?_
          refine r_sub h [1, 2, 0] rfl ?_
          exact ih (iw (x2 + 1)) s0 (rI_iw _) hf
        · have hf := ite_nf hc6 hf
          refine r_iconst h dX2_asksFor_31 ?_
          exact r_ret2 hr dX2_asksFor_32 (Or.inr rfl) hf
set_option maxRecDepth 20000 in
theorem m_Fo_asksFor {l : Launch} {D : va_G} {cs : Nat → ClassId} {aS aV : Nat} {A : Nat → Prop} {ad : Nat → Nat} {n : Nat} {nl : Nat → Nat → Bool} {out : Int × SS} (hw : w_WH n nl) {t : Nat} (ht : t < n) (hC : rC t = 2) {a1 : Int} (ra1 : rI a1) {s0 : SS} (hs0 : rS s0) (hf : f_Fo_asksFor t a1 s0 = some out) : w_MC l D cs aS aV A yX2_asksFor cX2_asksFor 3 2 rm_Fo_asksFor ad n nl [.ref (ad t), .int (vI a1)] s0 (w_Po ad n nl out) := by
  refine w_MC_of (by decide +kernel) (by decide) hs0 (Nat.le_of_ble_eq_true rfl) (fun K h hr => ?_)
  refine r_lv (lv' := [(0, .ref (ad t)), (1, .int (vI a1))]) rfl ?_
  unfold f_Fo_asksFor at hf
  refine r_rS h (fun hs0 => ?_)
  refine r_iconst h dX2_asksFor_0 ?_
  refine r_istore_n h [(2, .int (vI 0)), (0, .ref (ad t)), (1, .int (vI a1))] dX2_asksFor_1 rfl (by decide) rfl ?_
  refine r_sub h [1, 2, 0] rfl ?_
  exact b_Fo_asksFor_2 h hr hw ht hC ra1 FU 0 s0 (rIc rfl) hf
set_option maxRecDepth 20000 in
theorem m_Fo_join {l : Launch} {D : va_G} {cs : Nat → ClassId} {aS aV : Nat} {A : Nat → Prop} {ad : Nat → Nat} {n : Nat} {nl : Nat → Nat → Bool} {out : Int × SS} (hw : w_WH n nl) {a1 : Int} (ra1 : rI a1) {a2 : Int} (ra2 : rI a2) {a3 : Int} (ra3 : rI a3) {s0 : SS} (hs0 : rS s0) (hf : f_Fo_join a1 a2 a3 s0 = some out) : w_MC l D cs aS aV A yX2_join cX2_join 3 1 rm_Fo_join ad n nl [.int (vI a1), .int (vI a2), .int (vI a3)] s0 (w_Po ad n nl out) := by
  refine w_MC_of (by decide +kernel) (by decide) hs0 (Nat.le_of_ble_eq_true rfl) (fun K h hr => ?_)
  refine r_lv (lv' := [(0, .int (vI a1)), (1, .int (vI a2)), (2, .int (vI a3))]) rfl ?_
  unfold f_Fo_join at hf
  refine r_rS h (fun hs0 => ?_)
  refine r_iload_n h dX2_join_0 rfl 0 rfl ?_
  by_cases hc1 : a1 = 37
  · have hf := ite_t hc1 hf
    refine r_lookup (tgt := 116) (off := 115) h dX2_join_1 (by decide) ra1 (by rw [hc1]; rfl) (by decide) ?_
    refine r_iload_n h dX2_join_116 rfl 2 rfl ?_
    refine r_if_ne (tgt := 124) h dX2_join_117 (by decide) ra3 (fun hc2 => ?_) (fun hc2 => ?_)
    · have hf := ite_f hc2 hf
      refine r_iload_n h dX2_join_124 rfl 1 rfl ?_
      refine r_iload_n h dX2_join_125 rfl 2 rfl ?_
      obtain ⟨h03, hf⟩ := oc_some hf
      refine r_irem h dX2_join_126 ra2 ra3 h03 ?_
      exact r_ret1 hr dX2_join_127 (rI_tmod ra2 ra3) hf
    · have hf := ite_nf hc2 hf
      refine r_iconst h dX2_join_120 ?_
      refine r_goto (tgt := 127) h dX2_join_121 (by decide) ?_
      exact r_ret1 hr dX2_join_127 (rIc rfl) hf
  · have hf := ite_f hc1 hf
    by_cases hc4 : a1 = 42
    · have hf := ite_t hc4 hf
      refine r_lookup (tgt := 100) (off := 99) h dX2_join_1 (by decide) ra1 (by rw [hc4]; rfl) (by decide) ?_
      refine r_iload_n h dX2_join_100 rfl 1 rfl ?_
      refine r_iload_n h dX2_join_101 rfl 2 rfl ?_
      refine r_imul h dX2_join_102 ?_
      exact r_ret1 hr dX2_join_103 (rI_iw _) hf
    · have hf := ite_f hc4 hf
      by_cases hc5 : a1 = 43
      · have hf := ite_t hc5 hf
        refine r_lookup (tgt := 92) (off := 91) h dX2_join_1 (by decide) ra1 (by rw [hc5]; rfl) (by decide) ?_
        refine r_iload_n h dX2_join_92 rfl 1 rfl ?_
        refine r_iload_n h dX2_join_93 rfl 2 rfl ?_
        refine r_iadd h dX2_join_94 ?_
        exact r_ret1 hr dX2_join_95 (rI_iw _) hf
      · have hf := ite_f hc5 hf
        by_cases hc6 : a1 = 45
        · have hf := ite_t hc6 hf
          refine r_lookup (tgt := 96) (off := 95) h dX2_join_1 (by decide) ra1 (by rw [hc6]; rfl) (by decide) ?_
          refine r_iload_n h dX2_join_96 rfl 1 rfl ?_
          refine r_iload_n h dX2_join_97 rfl 2 rfl ?_
          refine r_isub h dX2_join_98 ?_
          exact r_ret1 hr dX2_join_99 (rI_iw _) hf
        · have hf := ite_f hc6 hf
          by_cases hc7 : a1 = 47
          · have hf := ite_t hc7 hf
            refine r_lookup (tgt := 104) (off := 103) h dX2_join_1 (by decide) ra1 (by rw [hc7]; rfl) (by decide) ?_
            refine r_iload_n h dX2_join_104 rfl 2 rfl ?_
            refine r_if_ne (tgt := 112) h dX2_join_105 (by decide) ra3 (fun hc8 => ?_) (fun hc8 => ?_)
            · have hf := ite_f hc8 hf
              refine r_iload_n h dX2_join_112 rfl 1 rfl ?_
              refine r_iload_n h dX2_join_113 rfl 2 rfl ?_
              obtain ⟨h09, hf⟩ := oc_some hf
              refine r_idiv h dX2_join_114 ra2 ra3 h09 ?_
              exact r_ret1 hr dX2_join_115 (rI_iw _) hf
            · have hf := ite_nf hc8 hf
              refine r_iconst h dX2_join_108 ?_
              refine r_goto (tgt := 115) h dX2_join_109 (by decide) ?_
              exact r_ret1 hr dX2_join_115 (rIc rfl) hf
          · have hf := ite_f hc7 hf
            by_cases hc10 : a1 = 60
            · have hf := ite_t hc10 hf
              refine r_lookup (tgt := 128) (off := 127) h dX2_join_1 (by decide) ra1 (by rw [hc10]; rfl) (by decide) ?_
              refine r_iload_n h dX2_join_128 rfl 1 rfl ?_
              refine r_iload_n h dX2_join_129 rfl 2 rfl ?_
              refine r_icmp_ge (tgt := 137) h dX2_join_130 (by decide) ra2 ra3 (fun hc11 => ?_) (fun hc11 => ?_)
              · have hf := ite_t hc11 hf
                refine r_iconst h dX2_join_137 ?_
                exact r_ret1 hr dX2_join_138 (rIc rfl) hf
              · have hf := ite_f hc11 hf
                refine r_iconst h dX2_join_133 ?_
                refine r_goto (tgt := 138) h dX2_join_134 (by decide) ?_
                exact r_ret1 hr dX2_join_138 (rIc rfl) hf
            · have hf := ite_f hc10 hf
              by_cases hc12 : a1 = 61
              · have hf := ite_t hc12 hf
                refine r_lookup (tgt := 150) (off := 149) h dX2_join_1 (by decide) ra1 (by rw [hc12]; rfl) (by decide) ?_
                refine r_iload_n h dX2_join_150 rfl 1 rfl ?_
                refine r_iload_n h dX2_join_151 rfl 2 rfl ?_
                refine r_icmp_ne (tgt := 159) h dX2_join_152 (by decide) ra2 ra3 (fun hc13 => ?_) (fun hc13 => ?_)
                · have hf := ite_f hc13 hf
                  refine r_iconst h dX2_join_159 ?_
                  exact r_ret1 hr dX2_join_160 (rIc rfl) hf
                · have hf := ite_nf hc13 hf
                  refine r_iconst h dX2_join_155 ?_
                  refine r_goto (tgt := 160) h dX2_join_156 (by decide) ?_
                  exact r_ret1 hr dX2_join_160 (rIc rfl) hf
              · have hf := ite_f hc12 hf
                by_cases hc14 : a1 = 62
                · have hf := ite_t hc14 hf
                  refine r_lookup (tgt := 139) (off := 138) h dX2_join_1 (by decide) ra1 (by rw [hc14]; rfl) (by decide) ?_
                  refine r_iload_n h dX2_join_139 rfl 1 rfl ?_
                  refine r_iload_n h dX2_join_140 rfl 2 rfl ?_
                  refine r_icmp_le (tgt := 148) h dX2_join_141 (by decide) ra2 ra3 (fun hc15 => ?_) (fun hc15 => ?_)
                  · have hf := ite_t hc15 hf
                    refine r_iconst h dX2_join_148 ?_
                    exact r_ret1 hr dX2_join_149 (rIc rfl) hf
                  · have hf := ite_f hc15 hf
                    refine r_iconst h dX2_join_144 ?_
                    refine r_goto (tgt := 149) h dX2_join_145 (by decide) ?_
                    exact r_ret1 hr dX2_join_149 (rIc rfl) hf
                · have hf := ite_f hc14 hf
                  by_cases hc16 : a1 = 271
                  · have hf := ite_t hc16 hf
                    refine r_lookup (tgt := 175) (off := 174) h dX2_join_1 (by decide) ra1 (by rw [hc16]; rfl) (by decide) ?_
                    refine r_iload_n h dX2_join_175 rfl 1 rfl ?_
                    refine r_if_ne (tgt := 183) h dX2_join_176 (by decide) ra2 (fun hc17 => ?_) (fun hc17 => ?_)
                    · have hf := ite_f hc17 hf
                      refine r_iconst h dX2_join_183 ?_
                      refine r_goto (tgt := 188) h dX2_join_184 (by decide) ?_
                      exact r_ret1 hr dX2_join_188 (rIc rfl) hf
                    · have hf := ite_nf hc17 hf
                      refine r_iload_n h dX2_join_179 rfl 2 rfl ?_
                      refine r_if_eq (tgt := 187) h dX2_join_180 (by decide) ra3 (fun hc18 => ?_) (fun hc18 => ?_)
                      · have hf := ite_t hc18 hf
                        refine r_iconst h dX2_join_187 ?_
                        exact r_ret1 hr dX2_join_188 (rIc rfl) hf
                      · have hf := ite_f hc18 hf
                        refine r_iconst h dX2_join_183 ?_
                        refine r_goto (tgt := 188) h dX2_join_184 (by decide) ?_
                        exact r_ret1 hr dX2_join_188 (rIc rfl) hf
                  · have hf := ite_f hc16 hf
                    by_cases hc19 : a1 = 272
                    · have hf := ite_t hc19 hf
                      refine r_lookup (tgt := 161) (off := 160) h dX2_join_1 (by decide) ra1 (by rw [hc19]; rfl) (by decide) ?_
                      refine r_iload_n h dX2_join_161 rfl 1 rfl ?_
                      refine r_if_eq (tgt := 173) h dX2_join_162 (by decide) ra2 (fun hc20 => ?_) (fun hc20 => ?_)
                      · have hf := ite_t hc20 hf
                        refine r_iconst h dX2_join_173 ?_
                        exact r_ret1 hr dX2_join_174 (rIc rfl) hf
                      · have hf := ite_f hc20 hf
                        refine r_iload_n h dX2_join_165 rfl 2 rfl ?_
                        refine r_if_eq (tgt := 173) h dX2_join_166 (by decide) ra3 (fun hc21 => ?_) (fun hc21 => ?_)
                        · have hf := ite_t hc21 hf
                          refine r_iconst h dX2_join_173 ?_
                          exact r_ret1 hr dX2_join_174 (rIc rfl) hf
                        · have hf := ite_f hc21 hf
                          refine r_iconst h dX2_join_169 ?_
                          refine r_goto (tgt := 174) h dX2_join_170 (by decide) ?_
                          exact r_ret1 hr dX2_join_174 (rIc rfl) hf
                    · have hf := ite_f hc19 hf
                      refine r_lookup (tgt := 189) (off := 188) h dX2_join_1 (by decide) ra1 (by simp only [Op.lookupswitch.offset_cons, Op.lookupswitch.offset_nil]; rw [if_neg (fun z => hc1 z.symm)]; rw [if_neg (fun z => hc4 z.symm)]; rw [if_neg (fun z => hc5 z.symm)]; rw [if_neg (fun z => hc6 z.symm)]; rw [if_neg (fun z => hc7 z.symm)]; rw [if_neg (fun z => hc10 z.symm)]; rw [if_neg (fun z => hc12 z.symm)]; rw [if_neg (fun z => hc14 z.symm)]; rw [if_neg (fun z => hc16 z.symm)]; rw [if_neg (fun z => hc19 z.symm)]) (by decide) ?_
                      refine r_iconst h dX2_join_189 ?_
                      exact r_ret1 hr dX2_join_190 (rIc rfl) hf
set_option maxRecDepth 20000 in
theorem b_Fo_answer_81 {l : Launch} {D : va_G} {cs : Nat → ClassId} {aS aV : Nat} {A : Nat → Prop} {K : KT} {ad : Nat → Nat} {n : Nat} {nl : Nat → Nat → Bool} {out : Int × SS} (h : w_Cl l rm_Fo_answer D cs aS aV A cX2_answer 6 RX2 "answer" K) (hr : w_Rt 1 cX2_answer 0 0 (w_Po ad n nl out) K) (hw : w_WH n nl) {t : Nat} (ht : t < n) (hC : rC t = 2) {u1 : Nat} (pu1 : u1 < n) (pc1 : rC u1 = 14) (x2 : Int) (x3 : Int) (x4 : Int) (z1 : Int) (z2 : Int) (self5 : Int → Int → SS → OO) (hself5 : ∀ (x3 : Int) (x4 : Int) (τ : SS), rI x3 → rI x4 → self5 x3 x4 τ = some out → K ad n nl 0 0 5 [(0, .ref (ad t)), (1, .ref (ad u1)), (2, .int (vI x2)), (3, .int (vI x3)), (4, .int (vI x4))] [] τ) (s0 : SS) (rx2 : rI x2) (rx3 : rI x3) (rx4 : rI x4) (rz1 : rI z1) (rz2 : rI z2) (hf : j_Fo_answer_81 t u1 self5 x2 x3 x4 z1 z2 s0 = some out) : K ad n nl 0 0 81 [(0, .ref (ad t)), (1, .ref (ad u1)), (2, .int (vI x2)), (3, .int (vI x3)), (4, .int (vI x4))] [.int (vI z2), .int (vI z1), .ref (ad (t + 2))] s0 := by
  unfold j_Fo_answer_81 at hf
  have qt_2c := rf_2_1 _ hC
  have qt_2 := w_ref hw ht hC (by decide) (k := 1) (by decide) qt_2c.1
  refine r_rS h (fun hs0 => ?_)
  obtain ⟨hi1, hf⟩ := oc_some hf
  refine r_iast h dX2_answer_81 qt_2.2 qt_2c.2.1 rz1 (N := 32) (by rw [qt_2c.2.2]; rfl) (j := (z1).toNat) rfl hi1 rz2 ?_
  refine r_os hf (fun s2 hf => ?_)
  refine r_rS h (fun hs2 => ?_)
  refine r_iinc h [(3, .int (vI (iw (x3 + 1)))), (0, .ref (ad t)), (1, .ref (ad u1)), (2, .int (vI x2)), (4, .int (vI x4))] dX2_answer_82 3 rfl (by decide) rfl ?_
  refine r_goto (tgt := 168) h dX2_answer_85 (by decide) ?_
  refine r_iinc h [(4, .int (vI (iw (x4 + 1)))), (3, .int (vI (iw (x3 + 1)))), (0, .ref (ad t)), (1, .ref (ad u1)), (2, .int (vI x2))] dX2_answer_168 4 rfl (by decide) rfl ?_
  refine r_goto (tgt := 5) h dX2_answer_171 (by decide) ?_
  refine r_sub h [2, 3, 4, 1, 0] rfl ?_
  exact hself5 (iw (x3 + 1)) (iw (x4 + 1)) s2 (rI_iw _) (rI_iw _) hf
set_option maxRecDepth 20000 in
theorem b_Fo_answer_126 {l : Launch} {D : va_G} {cs : Nat → ClassId} {aS aV : Nat} {A : Nat → Prop} {K : KT} {ad : Nat → Nat} {n : Nat} {nl : Nat → Nat → Bool} {out : Int × SS} (h : w_Cl l rm_Fo_answer D cs aS aV A cX2_answer 6 RX2 "answer" K) (hr : w_Rt 1 cX2_answer 0 0 (w_Po ad n nl out) K) (hw : w_WH n nl) {t : Nat} (ht : t < n) (hC : rC t = 2) {u1 : Nat} (pu1 : u1 < n) (pc1 : rC u1 = 14) (x2 : Int) (x3 : Int) (x4 : Int) (z1 : Int) (z2 : Int) (self5 : Int → Int → SS → OO) (hself5 : ∀ (x3 : Int) (x4 : Int) (τ : SS), rI x3 → rI x4 → self5 x3 x4 τ = some out → K ad n nl 0 0 5 [(0, .ref (ad t)), (1, .ref (ad u1)), (2, .int (vI x2)), (3, .int (vI x3)), (4, .int (vI x4))] [] τ) (s0 : SS) (rx2 : rI x2) (rx3 : rI x3) (rx4 : rI x4) (rz1 : rI z1) (rz2 : rI z2) (hf : j_Fo_answer_126 t u1 self5 x2 x3 x4 z1 z2 s0 = some out) : K ad n nl 0 0 126 [(0, .ref (ad t)), (1, .ref (ad u1)), (2, .int (vI x2)), (3, .int (vI x3)), (4, .int (vI x4))] [.int (vI z2), .int (vI z1), .ref (ad (t + 2))] s0 := by
  unfold j_Fo_answer_126 at hf
  have qt_2c := rf_2_1 _ hC
  have qt_2 := w_ref hw ht hC (by decide) (k := 1) (by decide) qt_2c.1
  refine r_rS h (fun hs0 => ?_)
  obtain ⟨hi1, hf⟩ := oc_some hf
  refine r_iast h dX2_answer_126 qt_2.2 qt_2c.2.1 rz1 (N := 32) (by rw [qt_2c.2.2]; rfl) (j := (z1).toNat) rfl hi1 rz2 ?_
  refine r_os hf (fun s2 hf => ?_)
  refine r_rS h (fun hs2 => ?_)
  refine r_goto (tgt := 168) h dX2_answer_127 (by decide) ?_
  refine r_iinc h [(4, .int (vI (iw (x4 + 1)))), (0, .ref (ad t)), (1, .ref (ad u1)), (2, .int (vI x2)), (3, .int (vI x3))] dX2_answer_168 4 rfl (by decide) rfl ?_
  refine r_goto (tgt := 5) h dX2_answer_171 (by decide) ?_
  refine r_sub h [1, 2, 3, 4, 0] rfl ?_
  exact hself5 x3 (iw (x4 + 1)) s2 rx3 (rI_iw _) hf
set_option maxRecDepth 20000 in
theorem b_Fo_answer_174 {l : Launch} {D : va_G} {cs : Nat → ClassId} {aS aV : Nat} {A : Nat → Prop} {K : KT} {ad : Nat → Nat} {n : Nat} {nl : Nat → Nat → Bool} {out : Int × SS} (h : w_Cl l rm_Fo_answer D cs aS aV A cX2_answer 6 RX2 "answer" K) (hr : w_Rt 1 cX2_answer 0 0 (w_Po ad n nl out) K) (hw : w_WH n nl) {t : Nat} (ht : t < n) (hC : rC t = 2) {u1 : Nat} (pu1 : u1 < n) (pc1 : rC u1 = 14) (x2 : Int) (x3 : Int) (s0 : SS) (rx2 : rI x2) (rx3 : rI x3) (hf : j_Fo_answer_174 t u1 x2 x3 s0 = some out) : K ad n nl 0 0 174 [(0, .ref (ad t)), (2, .int (vI x2)), (3, .int (vI x3))] [] s0 := by
  unfold j_Fo_answer_174 at hf
  refine r_rS h (fun hs0 => ?_)
  refine r_iload_n h dX2_answer_174 rfl 2 rfl ?_
  refine r_iconst h dX2_answer_175 ?_
  refine r_icmp_ne (tgt := 188) h dX2_answer_176 (by decide) rx3 (rIc rfl) (fun hc1 => ?_) (fun hc1 => ?_)
  · have hf := ite_f hc1 hf
    refine r_iload_n h dX2_answer_188 rfl 1 rfl ?_
    exact r_ret1 hr dX2_answer_189 rx2 hf
  · have hf := ite_nf hc1 hf
    refine r_aload_n h dX2_answer_179 rfl 0 rfl ?_
    have hq2c := rf_2_1 _ hC
    have hq2 := w_ref hw ht hC (by decide) (k := 1) (by decide) hq2c.1
    refine g_X2_15 h dX2_answer_180 ht hC hq2.1 ?_
    refine r_iconst h dX2_answer_183 ?_
    refine r_iald h dX2_answer_184 hq2.2 hq2c.2.1 (rIc rfl) (N := 32) (by rw [hq2c.2.2]; rfl) (j := 0) rfl (by decide) ?_
    refine r_goto (tgt := 189) h dX2_answer_185 (by decide) ?_
    exact r_ret1 hr dX2_answer_189 (hs0.1 _ _) hf
set_option maxRecDepth 20000 in
theorem b_Fo_answer_5 {l : Launch} {D : va_G} {cs : Nat → ClassId} {aS aV : Nat} {A : Nat → Prop} {K : KT} {ad : Nat → Nat} {n : Nat} {nl : Nat → Nat → Bool} {out : Int × SS} (h : w_Cl l rm_Fo_answer D cs aS aV A cX2_answer 6 RX2 "answer" K) (hr : w_Rt 1 cX2_answer 0 0 (w_Po ad n nl out) K) (hw : w_WH n nl) {t : Nat} (ht : t < n) (hC : rC t = 2) {u1 : Nat} (pu1 : u1 < n) (pc1 : rC u1 = 14) {y2 : Int} (ry2 : rI y2) : ∀ (fu : Nat) (x3 : Int) (x4 : Int) (s0 : SS), rI x3 → rI x4 → l_Fo_answer_5 t u1 y2 fu x3 x4 s0 = some out → K ad n nl 0 0 5 [(0, .ref (ad t)), (1, .ref (ad u1)), (2, .int (vI y2)), (3, .int (vI x3)), (4, .int (vI x4))] [] s0 := by
  intro fu
  induction fu with
  | zero =>
    intro x3 x4 s0 rx3 rx4 hf
    rw [l_Fo_answer_5] at hf
    cases hf
  | succ fu ih =>
    intro x3 x4 s0 rx3 rx4 hf
    rw [l_Fo_answer_5] at hf
    refine r_rS h (fun hs0 => ?_)
    refine r_iload h dX2_answer_5 4 rfl ?_
    refine r_aload_n h dX2_answer_7 rfl 0 rfl ?_
    refine g_X2_18 h dX2_answer_8 ht hC ?_
    refine r_icmp_ge (tgt := 174) h dX2_answer_11 (by decide) rx4 (hs0.1 _ _) (fun hc1 => ?_) (fun hc1 => ?_)
    · have hf := ite_t hc1 hf
      refine r_sub h [0, 2, 3] rfl ?_
      exact b_Fo_answer_174 h hr hw ht hC pu1 pc1 y2 x3 s0 ry2 rx3 hf
    · have hf := ite_f hc1 hf
      refine r_iload h dX2_answer_14 4 rfl ?_
      refine r_aload_n h dX2_answer_16 rfl 0 rfl ?_
      have hq2c := rf_2_0 _ hC
      have hq2 := w_ref hw ht hC (by decide) (k := 0) (by decide) hq2c.1
      refine g_X2_9 h dX2_answer_17 ht hC hq2.1 ?_
      refine r_alen (N := 320) h dX2_answer_20 hq2.2 hq2c.2.1 (Or.inr (Or.inl rfl)) (by rw [hq2c.2.2]; rfl) ?_
      refine r_icmp_ge (tgt := 174) h dX2_answer_21 (by decide) rx4 (rIc rfl) (fun hc3 => ?_) (fun hc3 => ?_)
      · have hf := ite_t hc3 hf
        refine r_sub h [0, 2, 3] rfl ?_
        exact b_Fo_answer_174 h hr hw ht hC pu1 pc1 y2 x3 s0 ry2 rx3 hf
      · have hf := ite_f hc3 hf
        refine r_aload_n h dX2_answer_24 rfl 0 rfl ?_
        have hq4c := rf_2_0 _ hC
        have hq4 := w_ref hw ht hC (by decide) (k := 0) (by decide) hq4c.1
        refine g_X2_9 h dX2_answer_25 ht hC hq4.1 ?_
        refine r_iload h dX2_answer_28 4 rfl ?_
        obtain ⟨hi5, hf⟩ := oc_some hf
        refine r_iald h dX2_answer_30 hq4.2 hq4c.2.1 rx4 (N := 320) (by rw [hq4c.2.2]; rfl) (j := (x4).toNat) rfl hi5 ?_
        refine r_ol hf (hs0.1 _ _) (fun x6_ rx6_ hf => ?_)
        refine r_istore h [(5, .int (vI x6_)), (0, .ref (ad t)), (1, .ref (ad u1)), (2, .int (vI y2)), (3, .int (vI x3)), (4, .int (vI x4))] dX2_answer_31 (by decide) rfl ?_
        refine r_iload h dX2_answer_33 0 rfl ?_
        refine r_bipush h dX2_answer_35 (by decide) ?_
        refine r_icmp_lt (tgt := 88) h dX2_answer_37 (by decide) rx6_ (rIc rfl) (fun hc7 => ?_) (fun hc7 => ?_)
        · have hf := ite_t hc7 hf
          refine r_iload h dX2_answer_88 0 rfl ?_
          refine r_sipush h dX2_answer_90 (by decide) ?_
          refine r_icmp_ne (tgt := 130) h dX2_answer_93 (by decide) rx6_ (rIc rfl) (fun hc8 => ?_) (fun hc8 => ?_)
          · have hf := ite_f hc8 hf
            refine r_iload_n h dX2_answer_130 rfl 4 rfl ?_
            refine r_iconst h dX2_answer_131 ?_
            refine r_icmp_ge (tgt := 137) h dX2_answer_132 (by decide) rx3 (rIc rfl) (fun hc9 => ?_) (fun hc9 => ?_)
            · have hf := ite_t hc9 hf
              refine r_iinc h [(3, .int (vI (iw (x3 + (-1))))), (5, .int (vI x6_)), (0, .ref (ad t)), (1, .ref (ad u1)), (2, .int (vI y2)), (4, .int (vI x4))] dX2_answer_137 4 rfl (by decide) rfl ?_
              refine r_aload_n h dX2_answer_140 rfl 2 rfl ?_
              have hq10c := rf_2_1 _ hC
              have hq10 := w_ref hw ht hC (by decide) (k := 1) (by decide) hq10c.1
              refine g_X2_15 h dX2_answer_141 ht hC hq10.1 ?_
              refine r_iload_n h dX2_answer_144 rfl 0 rfl ?_
              refine r_iconst h dX2_answer_145 ?_
              refine r_isub h dX2_answer_146 ?_
              refine r_iload h dX2_answer_147 1 rfl ?_
              refine r_ineg h dX2_answer_149 ?_
              refine r_aload_n h dX2_answer_150 rfl 2 rfl ?_
              have hq11c := rf_2_1 _ hC
              have hq11 := w_ref hw ht hC (by decide) (k := 1) (by decide) hq11c.1
              refine g_X2_15 h dX2_answer_151 ht hC hq11.1 ?_
              refine r_iload_n h dX2_answer_154 rfl 0 rfl ?_
              refine r_iconst h dX2_answer_155 ?_
              refine r_isub h dX2_answer_156 ?_
              obtain ⟨hi12, hf⟩ := oc_some hf
              refine r_iald h dX2_answer_157 hq11.2 hq11c.2.1 (rI_iw _) (N := 32) (by rw [hq11c.2.2]; rfl) (j := (iw ((iw (x3 + (-1))) - 1)).toNat) rfl hi12 ?_
              refine r_aload_n h dX2_answer_158 rfl 2 rfl ?_
              have hq13c := rf_2_1 _ hC
              have hq13 := w_ref hw ht hC (by decide) (k := 1) (by decide) hq13c.1
              refine g_X2_15 h dX2_answer_159 ht hC hq13.1 ?_
              refine r_iload_n h dX2_answer_162 rfl 0 rfl ?_
              obtain ⟨hi14, hf⟩ := oc_some hf
              refine r_iald h dX2_answer_163 hq13.2 hq13c.2.1 (rI_iw _) (N := 32) (by rw [hq13c.2.2]; rfl) (j := (iw (x3 + (-1))).toNat) rfl hi14 ?_
              obtain ⟨r15, s15, hq15, hf⟩ := ob_some hf
              refine r_callS1 h [.int (vI (iw (-x6_))), .int (vI (gi s0 (t + 2) ((iw ((iw (x3 + (-1))) - 1)).toNat))), .int (vI (gi s0 (t + 2) ((iw (x3 + (-1))).toNat)))] dX2_answer_164 (fun hs => m_Fo_join hw (rI_iw _) (hs0.1 _ _) (hs0.1 _ _) hs hq15) ml_X2_29 cv_Fo_join rfl ⟨rfl, rfl⟩ ⟨Nat.le_of_ble_eq_true rfl, Nat.le_of_ble_eq_true rfl⟩ ⟨Nat.le_of_ble_eq_true rfl, Nat.le_of_ble_eq_true rfl⟩ (Nat.le_of_ble_eq_true rfl) rfl (fun hr15 hs15 => ?_)
              obtain ⟨hi16, hf⟩ := oc_some hf
              refine r_iast h dX2_answer_167 hq10.2 hq10c.2.1 (rI_iw _) (N := 32) (by rw [hq10c.2.2]; rfl) (j := (iw ((iw (x3 + (-1))) - 1)).toNat) rfl hi16 hr15 ?_
              refine r_os hf (fun s17 hf => ?_)
              refine r_rS h (fun hs17 => ?_)
              refine r_iinc h [(4, .int (vI (iw (x4 + 1)))), (3, .int (vI (iw (x3 + (-1))))), (5, .int (vI x6_)), (0, .ref (ad t)), (1, .ref (ad u1)), (2, .int (vI y2))] dX2_answer_168 5 rfl (by decide) rfl ?_
              refine r_goto (tgt := 5) h dX2_answer_171 (by decide) ?_
              refine r_sub h [3, 4, 5, 1, 0] rfl ?_
              exact ih (iw (x3 + (-1))) (iw (x4 + 1)) s17 (rI_iw _) (rI_iw _) hf
            · have hf := ite_f hc9 hf
              refine r_iload_n h dX2_answer_135 rfl 3 rfl ?_
              exact r_ret1 hr dX2_answer_136 ry2 hf
          · have hf := ite_nf hc8 hf
            refine r_iload_n h dX2_answer_96 rfl 4 rfl ?_
            refine r_iconst h dX2_answer_97 ?_
            refine r_icmp_ge (tgt := 103) h dX2_answer_98 (by decide) rx3 (rIc rfl) (fun hc18 => ?_) (fun hc18 => ?_)
            · have hf := ite_t hc18 hf
              refine r_aload_n h dX2_answer_103 rfl 1 rfl ?_
              have hq19c := rf_2_1 _ hC
              have hq19 := w_ref hw ht hC (by decide) (k := 1) (by decide) hq19c.1
              refine g_X2_15 h dX2_answer_104 ht hC hq19.1 ?_
              refine r_iload_n h dX2_answer_107 rfl 4 rfl ?_
              refine r_iconst h dX2_answer_108 ?_
              refine r_isub h dX2_answer_109 ?_
              refine r_aload_n h dX2_answer_110 rfl 1 rfl ?_
              have hq20c := rf_2_1 _ hC
              have hq20 := w_ref hw ht hC (by decide) (k := 1) (by decide) hq20c.1
              refine g_X2_15 h dX2_answer_111 ht hC hq20.1 ?_
              refine r_iload_n h dX2_answer_114 rfl 4 rfl ?_
              refine r_iconst h dX2_answer_115 ?_
              refine r_isub h dX2_answer_116 ?_
              obtain ⟨hi21, hf⟩ := oc_some hf
              refine r_iald h dX2_answer_117 hq20.2 hq20c.2.1 (rI_iw _) (N := 32) (by rw [hq20c.2.2]; rfl) (j := (iw (x3 - 1)).toNat) rfl hi21 ?_
              refine r_if_ne (tgt := 125) h dX2_answer_118 (by decide) (hs0.1 _ _) (fun hc22 => ?_) (fun hc22 => ?_)
              · have hf := ite_f hc22 hf
                refine r_iconst h dX2_answer_125 ?_
                refine r_sub h [1, 2, 3, 4, 5] rfl ?_
                exact b_Fo_answer_126 h hr hw ht hC pu1 pc1 y2 x3 x4 (iw (x3 - 1)) 0 (l_Fo_answer_5 t u1 y2 fu) ih s0 ry2 rx3 rx4 (rI_iw _) (rIc rfl) hf
              · have hf := ite_nf hc22 hf
                refine r_iconst h dX2_answer_121 ?_
                refine r_goto (tgt := 126) h dX2_answer_122 (by decide) ?_
                refine r_sub h [1, 2, 3, 4, 5] rfl ?_
                exact b_Fo_answer_126 h hr hw ht hC pu1 pc1 y2 x3 x4 (iw (x3 - 1)) 1 (l_Fo_answer_5 t u1 y2 fu) ih s0 ry2 rx3 rx4 (rI_iw _) (rIc rfl) hf
            · have hf := ite_f hc18 hf
              refine r_iload_n h dX2_answer_101 rfl 3 rfl ?_
              exact r_ret1 hr dX2_answer_102 ry2 hf
        · have hf := ite_f hc7 hf
          refine r_iload_n h dX2_answer_40 rfl 4 rfl ?_
          refine r_aload_n h dX2_answer_41 rfl 1 rfl ?_
          have hq23c := rf_2_1 _ hC
          have hq23 := w_ref hw ht hC (by decide) (k := 1) (by decide) hq23c.1
          refine g_X2_15 h dX2_answer_42 ht hC hq23.1 ?_
          refine r_alen (N := 32) h dX2_answer_45 hq23.2 hq23c.2.1 (Or.inr (Or.inl rfl)) (by rw [hq23c.2.2]; rfl) ?_
          refine r_icmp_ge (tgt := 58) h dX2_answer_46 (by decide) rx3 (rIc rfl) (fun hc24 => ?_) (fun hc24 => ?_)
          · have hf := ite_t hc24 hf
            refine r_iload_n h dX2_answer_58 rfl 3 rfl ?_
            exact r_ret1 hr dX2_answer_59 ry2 hf
          · have hf := ite_f hc24 hf
            refine r_iconst h dX2_answer_49 ?_
            refine r_iload h dX2_answer_50 0 rfl ?_
            refine r_isub h dX2_answer_52 ?_
            refine r_aload_n h dX2_answer_53 rfl 2 rfl ?_
            refine r_alen h dX2_answer_54 pu1 pc1 (Or.inr (Or.inl rfl)) rfl ?_
            refine r_icmp_lt (tgt := 60) h dX2_answer_55 (by decide) (rI_iw _) (rI_rN _) (fun hc25 => ?_) (fun hc25 => ?_)
            · have hf := ite_t hc25 hf
              refine r_aload_n h dX2_answer_60 rfl 1 rfl ?_
              have hq26c := rf_2_1 _ hC
              have hq26 := w_ref hw ht hC (by decide) (k := 1) (by decide) hq26c.1
              refine g_X2_15 h dX2_answer_61 ht hC hq26.1 ?_
              refine r_iload_n h dX2_answer_64 rfl 4 rfl ?_
              refine r_iload h dX2_answer_65 0 rfl ?_
              refine r_if_lt (tgt := 75) h dX2_answer_67 (by decide) rx6_ (fun hc27 => ?_) (fun hc27 => ?_)
              · have hf := ite_t hc27 hf
                refine r_aload_n h dX2_answer_75 rfl 2 rfl ?_
                refine r_iconst h dX2_answer_76 ?_
                refine r_iload h dX2_answer_77 0 rfl ?_
                refine r_isub h dX2_answer_79 ?_
                obtain ⟨hi28, hf⟩ := oc_some hf
                refine r_iald h dX2_answer_80 pu1 pc1 (rI_iw _) rfl (j := (iw ((-1) - x6_)).toNat) rfl hi28 ?_
                refine r_sub h [1, 2, 3, 4, 5] rfl ?_
                exact b_Fo_answer_81 h hr hw ht hC pu1 pc1 y2 x3 x4 x3 (gi s0 u1 ((iw ((-1) - x6_)).toNat)) (l_Fo_answer_5 t u1 y2 fu) ih s0 ry2 rx3 rx4 rx3 (hs0.1 _ _) hf
              · have hf := ite_f hc27 hf
                refine r_iload h dX2_answer_70 0 rfl ?_
                refine r_goto (tgt := 81) h dX2_answer_72 (by decide) ?_
                refine r_sub h [1, 2, 3, 4, 5] rfl ?_
                exact b_Fo_answer_81 h hr hw ht hC pu1 pc1 y2 x3 x4 x3 x6_ (l_Fo_answer_5 t u1 y2 fu) ih s0 ry2 rx3 rx4 rx3 rx6_ hf
            · have hf := ite_f hc25 hf
              refine r_iload_n h dX2_answer_58 rfl 3 rfl ?_
              exact r_ret1 hr dX2_answer_59 ry2 hf
set_option maxRecDepth 20000 in
theorem m_Fo_answer {l : Launch} {D : va_G} {cs : Nat → ClassId} {aS aV : Nat} {A : Nat → Prop} {ad : Nat → Nat} {n : Nat} {nl : Nat → Nat → Bool} {out : Int × SS} (hw : w_WH n nl) {t : Nat} (ht : t < n) (hC : rC t = 2) {u1 : Nat} (pu1 : u1 < n) (pc1 : rC u1 = 14) {a2 : Int} (ra2 : rI a2) {s0 : SS} (hs0 : rS s0) (hf : f_Fo_answer t u1 a2 s0 = some out) : w_MC l D cs aS aV A yX2_answer cX2_answer 6 1 rm_Fo_answer ad n nl [.ref (ad t), .ref (ad u1), .int (vI a2)] s0 (w_Po ad n nl out) := by
  refine w_MC_of (by decide +kernel) (by decide) hs0 (Nat.le_of_ble_eq_true rfl) (fun K h hr => ?_)
  refine r_lv (lv' := [(0, .ref (ad t)), (1, .ref (ad u1)), (2, .int (vI a2))]) rfl ?_
  unfold f_Fo_answer at hf
  refine r_rS h (fun hs0 => ?_)
  refine r_iconst h dX2_answer_0 ?_
  refine r_istore_n h [(3, .int (vI 0)), (0, .ref (ad t)), (1, .ref (ad u1)), (2, .int (vI a2))] dX2_answer_1 rfl (by decide) rfl ?_
  refine r_iconst h dX2_answer_2 ?_
  refine r_istore h [(4, .int (vI 0)), (3, .int (vI 0)), (0, .ref (ad t)), (1, .ref (ad u1)), (2, .int (vI a2))] dX2_answer_3 (by decide) rfl ?_
  refine r_sub h [2, 3, 4, 1, 0] rfl ?_
  exact b_Fo_answer_5 h hr hw ht hC pu1 pc1 ra2 FU 0 0 s0 (rIc rfl) (rIc rfl) hf
set_option maxRecDepth 20000 in
theorem m_Qu_within {l : Launch} {D : va_G} {cs : Nat → ClassId} {aS aV : Nat} {A : Nat → Prop} {ad : Nat → Nat} {n : Nat} {nl : Nat → Nat → Bool} {out : Int × SS} (hw : w_WH n nl) {a1 : Int} (ra1 : rI a1) {a2 : Int} (ra2 : rI a2) {a3 : Int} (ra3 : rI a3) {s0 : SS} (hs0 : rS s0) (hf : f_Qu_within a1 a2 a3 s0 = some out) : w_MC l D cs aS aV A yX11_within cX11_within 3 1 rm_Qu_within ad n nl [.int (vI a1), .int (vI a2), .int (vI a3)] s0 (w_Po ad n nl out) := by
  refine w_MC_of (by decide +kernel) (by decide) hs0 (Nat.le_of_ble_eq_true rfl) (fun K h hr => ?_)
  refine r_lv (lv' := [(0, .int (vI a1)), (1, .int (vI a2)), (2, .int (vI a3))]) rfl ?_
  unfold f_Qu_within at hf
  refine r_rS h (fun hs0 => ?_)
  refine r_iload_n h dX11_within_0 rfl 1 rfl ?_
  refine r_iload_n h dX11_within_1 rfl 0 rfl ?_
  refine r_icmp_ge (tgt := 7) h dX11_within_2 (by decide) ra2 ra1 (fun hc1 => ?_) (fun hc1 => ?_)
  · have hf := ite_t hc1 hf
    refine r_iload_n h dX11_within_7 rfl 1 rfl ?_
    refine r_iload_n h dX11_within_8 rfl 2 rfl ?_
    refine r_icmp_le (tgt := 16) h dX11_within_9 (by decide) ra2 ra3 (fun hc2 => ?_) (fun hc2 => ?_)
    · have hf := ite_t hc2 hf
      refine r_iload_n h dX11_within_16 rfl 1 rfl ?_
      exact r_ret1 hr dX11_within_17 ra2 hf
    · have hf := ite_f hc2 hf
      refine r_iload_n h dX11_within_12 rfl 2 rfl ?_
      refine r_goto (tgt := 17) h dX11_within_13 (by decide) ?_
      exact r_ret1 hr dX11_within_17 ra3 hf
  · have hf := ite_f hc1 hf
    refine r_iload_n h dX11_within_5 rfl 0 rfl ?_
    exact r_ret1 hr dX11_within_6 ra1 hf
