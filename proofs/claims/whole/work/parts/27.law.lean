/-! the law: the script is an array of its own -/
def w_LR (b L : Nat) (xs : Nat → Int32) (K : KT) : Prop :=
  (∀ (ad : Nat → Nat) (n : Nat) (nl : Nat → Nat → Bool) (ce sl pc : Nat) (lv : List (Nat × Value)) (st : List Value) (σ : SS) (i : Int), decode cL_law pc = .ok (.iaload, 1) → rI i → 0 ≤ i ∧ i < (L : Int) → K ad n nl ce sl (pc + 1) lv (.int (vI (xs i.toNat).toInt) :: st) σ → K ad n nl ce sl pc lv (.int (vI i) :: .ref b :: st) σ) ∧
  (∀ (ad : Nat → Nat) (n : Nat) (nl : Nat → Nat → Bool) (ce sl pc : Nat) (lv : List (Nat × Value)) (st : List Value) (σ : SS), decode cL_law pc = .ok (.arraylength, 1) → K ad n nl ce sl (pc + 1) lv (.int (vI (L : Int)) :: st) σ → K ad n nl ce sl pc lv (.ref b :: st) σ) ∧
  ∀ (ad : Nat → Nat) (n : Nat) (nl : Nat → Nat → Bool) (pc : Nat) (lv : List (Nat × Value)) (σ : SS), decode cL_law pc = .ok (.ireturn, 1) → K ad n nl 138 14691 pc lv [.int (vI 1)] σ
theorem rI_L {L : Nat} (h : L ≤ 3584) : rI (L : Int) := by unfold rI; omega
noncomputable def j_Law_877 (xs : Nat → Int32) (L : Nat) (self18 : Int → SS → OO) (x3 : Int) (z0 : Int) (z2 : Int) (z3 : Int) (z4 : Int) (z5 : Int) (z6 : Int) (s0 : SS) : OO :=
  oc (z6 = 0 ∨ z6 = 1) <|
  ob (f_Mo_measure z2 z3 z4 z5 z6 s0) fun r2 s2 =>
  if z0 = r2 then (
    self18 (iw (x3 + 7)) s2)
  else (
    some (0, s2))
noncomputable def j_Law_840 (xs : Nat → Int32) (L : Nat) (self18 : Int → SS → OO) (x3 : Int) (z1 : Int) (z2 : Int) (z3 : Int) (z4 : Int) (z5 : Int) (s0 : SS) : OO :=
  oc (z5 = 0 ∨ z5 = 1) <|
  ob (f_Qu_measure z1 z2 z3 z4 z5 s0) fun r2 s2 =>
  oc (0 ≤ iw (x3 + 1) ∧ iw (x3 + 1) < (L : Int)) <|
  oc (0 ≤ iw (x3 + 2) ∧ iw (x3 + 2) < (L : Int)) <|
  oc (0 ≤ iw (x3 + 3) ∧ iw (x3 + 3) < (L : Int)) <|
  oc (0 ≤ iw (x3 + 4) ∧ iw (x3 + 4) < (L : Int)) <|
  oc (0 ≤ iw (x3 + 5) ∧ iw (x3 + 5) < (L : Int)) <|
  if ((xs (iw (x3 + 5)).toNat).toInt) = 0 then (
    j_Law_877 xs L self18 x3 r2 ((xs (iw (x3 + 1)).toNat).toInt) ((xs (iw (x3 + 2)).toNat).toInt) ((xs (iw (x3 + 3)).toNat).toInt) ((xs (iw (x3 + 4)).toNat).toInt) 0 s2)
  else (
    j_Law_877 xs L self18 x3 r2 ((xs (iw (x3 + 1)).toNat).toInt) ((xs (iw (x3 + 2)).toNat).toInt) ((xs (iw (x3 + 3)).toNat).toInt) ((xs (iw (x3 + 4)).toNat).toInt) 1 s2)
noncomputable def c_Law_196_f (xs : Nat → Int32) (L : Nat) (self18 : Int → SS → OO) (x3 : Int) (s0 : SS) : OO :=
  oc (0 ≤ iw (x3 + 1) ∧ iw (x3 + 1) < (L : Int)) <|
  oc (0 ≤ iw (x3 + 2) ∧ iw (x3 + 2) < (L : Int)) <|
  oc (0 ≤ iw (x3 + 3) ∧ iw (x3 + 3) < (L : Int)) <|
  oc (0 ≤ iw (x3 + 4) ∧ iw (x3 + 4) < (L : Int)) <|
  oc (0 ≤ iw (x3 + 5) ∧ iw (x3 + 5) < (L : Int)) <|
  ob (f_Qu_feed ((xs (iw (x3 + 1)).toNat).toInt) ((xs (iw (x3 + 2)).toNat).toInt) ((xs (iw (x3 + 3)).toNat).toInt) ((xs (iw (x3 + 4)).toNat).toInt) ((xs (iw (x3 + 5)).toNat).toInt) s0) fun r10 s10 =>
  oc (0 ≤ iw (x3 + 1) ∧ iw (x3 + 1) < (L : Int)) <|
  oc (0 ≤ iw (x3 + 2) ∧ iw (x3 + 2) < (L : Int)) <|
  oc (0 ≤ iw (x3 + 3) ∧ iw (x3 + 3) < (L : Int)) <|
  oc (0 ≤ iw (x3 + 4) ∧ iw (x3 + 4) < (L : Int)) <|
  oc (0 ≤ iw (x3 + 5) ∧ iw (x3 + 5) < (L : Int)) <|
  ob (f_Mo_feed ((xs (iw (x3 + 1)).toNat).toInt) ((xs (iw (x3 + 2)).toNat).toInt) ((xs (iw (x3 + 3)).toNat).toInt) ((xs (iw (x3 + 4)).toNat).toInt) ((xs (iw (x3 + 5)).toNat).toInt) s10) fun r16 s16 =>
  if r10 = r16 then (
    self18 (iw (x3 + 7)) s16)
  else (
    some (0, s16))
noncomputable def c_Law_259_f (xs : Nat → Int32) (L : Nat) (self18 : Int → SS → OO) (x3 : Int) (s0 : SS) : OO :=
  oc (0 ≤ iw (x3 + 1) ∧ iw (x3 + 1) < (L : Int)) <|
  ob (f_Qu_end ((xs (iw (x3 + 1)).toNat).toInt) s0) fun r20 s20 =>
  oc (0 ≤ iw (x3 + 1) ∧ iw (x3 + 1) < (L : Int)) <|
  ob (f_Mo_end ((xs (iw (x3 + 1)).toNat).toInt) s20) fun r22 s22 =>
  if r20 = r22 then (
    self18 (iw (x3 + 7)) s22)
  else (
    some (0, s22))
noncomputable def c_Law_282_f (xs : Nat → Int32) (L : Nat) (self18 : Int → SS → OO) (x3 : Int) (s0 : SS) : OO :=
  ob (f_Qu_land s0) fun r25 s25 =>
  ob (f_Mo_land s25) fun r26 s26 =>
  if r25 = r26 then (
    self18 (iw (x3 + 7)) s26)
  else (
    some (0, s26))
noncomputable def c_Law_295_f (xs : Nat → Int32) (L : Nat) (self18 : Int → SS → OO) (x3 : Int) (s0 : SS) : OO :=
  oc (0 ≤ iw (x3 + 1) ∧ iw (x3 + 1) < (L : Int)) <|
  ob (f_Qu_fault ((xs (iw (x3 + 1)).toNat).toInt) s0) fun r30 s30 =>
  oc (0 ≤ iw (x3 + 1) ∧ iw (x3 + 1) < (L : Int)) <|
  ob (f_Mo_fault ((xs (iw (x3 + 1)).toNat).toInt) s30) fun r32 s32 =>
  if r30 = r32 then (
    self18 (iw (x3 + 7)) s32)
  else (
    some (0, s32))
noncomputable def c_Law_318_f (xs : Nat → Int32) (L : Nat) (self18 : Int → SS → OO) (x3 : Int) (s0 : SS) : OO :=
  oc (0 ≤ iw (x3 + 1) ∧ iw (x3 + 1) < (L : Int)) <|
  oc (0 ≤ iw (x3 + 2) ∧ iw (x3 + 2) < (L : Int)) <|
  ob (f_Qu_soul ((xs (iw (x3 + 1)).toNat).toInt) ((xs (iw (x3 + 2)).toNat).toInt) s0) fun r37 s37 =>
  oc (0 ≤ iw (x3 + 1) ∧ iw (x3 + 1) < (L : Int)) <|
  oc (0 ≤ iw (x3 + 2) ∧ iw (x3 + 2) < (L : Int)) <|
  ob (f_Mo_soul ((xs (iw (x3 + 1)).toNat).toInt) ((xs (iw (x3 + 2)).toNat).toInt) s37) fun r40 s40 =>
  if r37 = r40 then (
    self18 (iw (x3 + 7)) s40)
  else (
    some (0, s40))
noncomputable def c_Law_351_f (xs : Nat → Int32) (L : Nat) (self18 : Int → SS → OO) (x3 : Int) (s0 : SS) : OO :=
  oc (0 ≤ iw (x3 + 1) ∧ iw (x3 + 1) < (L : Int)) <|
  oc (0 ≤ iw (x3 + 2) ∧ iw (x3 + 2) < (L : Int)) <|
  ob (f_Qu_way ((xs (iw (x3 + 1)).toNat).toInt) ((xs (iw (x3 + 2)).toNat).toInt) s0) fun r45 s45 =>
  oc (0 ≤ iw (x3 + 1) ∧ iw (x3 + 1) < (L : Int)) <|
  oc (0 ≤ iw (x3 + 2) ∧ iw (x3 + 2) < (L : Int)) <|
  ob (f_Mo_way ((xs (iw (x3 + 1)).toNat).toInt) ((xs (iw (x3 + 2)).toNat).toInt) s45) fun r48 s48 =>
  if r45 = r48 then (
    self18 (iw (x3 + 7)) s48)
  else (
    some (0, s48))
noncomputable def c_Law_384_f (xs : Nat → Int32) (L : Nat) (self18 : Int → SS → OO) (x3 : Int) (s0 : SS) : OO :=
  oc (0 ≤ iw (x3 + 1) ∧ iw (x3 + 1) < (L : Int)) <|
  oc (0 ≤ iw (x3 + 2) ∧ iw (x3 + 2) < (L : Int)) <|
  oc (0 ≤ iw (x3 + 3) ∧ iw (x3 + 3) < (L : Int)) <|
  ob (f_Qu_quarrel ((xs (iw (x3 + 1)).toNat).toInt) ((xs (iw (x3 + 2)).toNat).toInt) ((xs (iw (x3 + 3)).toNat).toInt) s0) fun r54 s54 =>
  oc (0 ≤ iw (x3 + 1) ∧ iw (x3 + 1) < (L : Int)) <|
  oc (0 ≤ iw (x3 + 2) ∧ iw (x3 + 2) < (L : Int)) <|
  oc (0 ≤ iw (x3 + 3) ∧ iw (x3 + 3) < (L : Int)) <|
  ob (f_Mo_quarrel ((xs (iw (x3 + 1)).toNat).toInt) ((xs (iw (x3 + 2)).toNat).toInt) ((xs (iw (x3 + 3)).toNat).toInt) s54) fun r58 s58 =>
  if r54 = r58 then (
    self18 (iw (x3 + 7)) s58)
  else (
    some (0, s58))
noncomputable def c_Law_427_f (xs : Nat → Int32) (L : Nat) (self18 : Int → SS → OO) (x3 : Int) (s0 : SS) : OO :=
  oc (0 ≤ iw (x3 + 1) ∧ iw (x3 + 1) < (L : Int)) <|
  oc (0 ≤ iw (x3 + 2) ∧ iw (x3 + 2) < (L : Int)) <|
  oc (0 ≤ iw (x3 + 3) ∧ iw (x3 + 3) < (L : Int)) <|
  oc (0 ≤ iw (x3 + 4) ∧ iw (x3 + 4) < (L : Int)) <|
  ob (f_Qu_heat ((xs (iw (x3 + 1)).toNat).toInt) ((xs (iw (x3 + 2)).toNat).toInt) ((xs (iw (x3 + 3)).toNat).toInt) ((xs (iw (x3 + 4)).toNat).toInt) s0) fun r65 s65 =>
  oc (0 ≤ iw (x3 + 1) ∧ iw (x3 + 1) < (L : Int)) <|
  oc (0 ≤ iw (x3 + 2) ∧ iw (x3 + 2) < (L : Int)) <|
  oc (0 ≤ iw (x3 + 3) ∧ iw (x3 + 3) < (L : Int)) <|
  oc (0 ≤ iw (x3 + 4) ∧ iw (x3 + 4) < (L : Int)) <|
  ob (f_Mo_heat ((xs (iw (x3 + 1)).toNat).toInt) ((xs (iw (x3 + 2)).toNat).toInt) ((xs (iw (x3 + 3)).toNat).toInt) ((xs (iw (x3 + 4)).toNat).toInt) s65) fun r70 s70 =>
  if r65 = r70 then (
    self18 (iw (x3 + 7)) s70)
  else (
    some (0, s70))
noncomputable def c_Law_480_f (xs : Nat → Int32) (L : Nat) (self18 : Int → SS → OO) (x3 : Int) (s0 : SS) : OO :=
  oc (0 ≤ iw (x3 + 1) ∧ iw (x3 + 1) < (L : Int)) <|
  oc (0 ≤ iw (x3 + 2) ∧ iw (x3 + 2) < (L : Int)) <|
  oc (0 ≤ iw (x3 + 3) ∧ iw (x3 + 3) < (L : Int)) <|
  oc (0 ≤ iw (x3 + 4) ∧ iw (x3 + 4) < (L : Int)) <|
  ob (f_Qu_setOut ((xs (iw (x3 + 1)).toNat).toInt) ((xs (iw (x3 + 2)).toNat).toInt) ((xs (iw (x3 + 3)).toNat).toInt) ((xs (iw (x3 + 4)).toNat).toInt) s0) fun r77 s77 =>
  oc (0 ≤ iw (x3 + 1) ∧ iw (x3 + 1) < (L : Int)) <|
  oc (0 ≤ iw (x3 + 2) ∧ iw (x3 + 2) < (L : Int)) <|
  oc (0 ≤ iw (x3 + 3) ∧ iw (x3 + 3) < (L : Int)) <|
  oc (0 ≤ iw (x3 + 4) ∧ iw (x3 + 4) < (L : Int)) <|
  ob (f_Mo_setOut ((xs (iw (x3 + 1)).toNat).toInt) ((xs (iw (x3 + 2)).toNat).toInt) ((xs (iw (x3 + 3)).toNat).toInt) ((xs (iw (x3 + 4)).toNat).toInt) s77) fun r82 s82 =>
  if r77 = r82 then (
    self18 (iw (x3 + 7)) s82)
  else (
    some (0, s82))
noncomputable def c_Law_533_f (xs : Nat → Int32) (L : Nat) (self18 : Int → SS → OO) (x3 : Int) (s0 : SS) : OO :=
  oc (0 ≤ iw (x3 + 1) ∧ iw (x3 + 1) < (L : Int)) <|
  ob (f_Qu_take ((xs (iw (x3 + 1)).toNat).toInt) s0) fun r86 s86 =>
  oc (0 ≤ iw (x3 + 1) ∧ iw (x3 + 1) < (L : Int)) <|
  ob (f_Mo_take ((xs (iw (x3 + 1)).toNat).toInt) s86) fun r88 s88 =>
  if r86 = r88 then (
    self18 (iw (x3 + 7)) s88)
  else (
    some (0, s88))
noncomputable def c_Law_556_f (xs : Nat → Int32) (L : Nat) (self18 : Int → SS → OO) (x3 : Int) (s0 : SS) : OO :=
  oc (0 ≤ iw (x3 + 1) ∧ iw (x3 + 1) < (L : Int)) <|
  ob (f_Qu_words ((xs (iw (x3 + 1)).toNat).toInt) s0) fun r92 s92 =>
  oc (0 ≤ iw (x3 + 1) ∧ iw (x3 + 1) < (L : Int)) <|
  ob (f_Mo_words ((xs (iw (x3 + 1)).toNat).toInt) s92) fun r94 s94 =>
  if r92 = r94 then (
    self18 (iw (x3 + 7)) s94)
  else (
    some (0, s94))
noncomputable def c_Law_579_f (xs : Nat → Int32) (L : Nat) (self18 : Int → SS → OO) (x3 : Int) (s0 : SS) : OO :=
  ob (f_Qu_year s0) fun r97 s97 =>
  ob (f_Mo_year s97) fun r98 s98 =>
  if r97 = r98 then (
    self18 (iw (x3 + 7)) s98)
  else (
    some (0, s98))
noncomputable def c_Law_592_f (xs : Nat → Int32) (L : Nat) (self18 : Int → SS → OO) (x3 : Int) (s0 : SS) : OO :=
  oc (0 ≤ iw (x3 + 1) ∧ iw (x3 + 1) < (L : Int)) <|
  ob (f_Qu_walk ((xs (iw (x3 + 1)).toNat).toInt) s0) fun r102 s102 =>
  oc (0 ≤ iw (x3 + 1) ∧ iw (x3 + 1) < (L : Int)) <|
  ob (f_Mo_walk ((xs (iw (x3 + 1)).toNat).toInt) s102) fun r104 s104 =>
  if r102 = r104 then (
    self18 (iw (x3 + 7)) s104)
  else (
    some (0, s104))
noncomputable def c_Law_615_f (xs : Nat → Int32) (L : Nat) (self18 : Int → SS → OO) (x3 : Int) (s0 : SS) : OO :=
  ob (f_Qu_undo s0) fun r107 s107 =>
  ob (f_Mo_undo s107) fun r108 s108 =>
  if r107 = r108 then (
    self18 (iw (x3 + 7)) s108)
  else (
    some (0, s108))
noncomputable def c_Law_628_f (xs : Nat → Int32) (L : Nat) (self18 : Int → SS → OO) (x3 : Int) (s0 : SS) : OO :=
  ob (f_Qu_redo s0) fun r111 s111 =>
  ob (f_Mo_redo s111) fun r112 s112 =>
  if r111 = r112 then (
    self18 (iw (x3 + 7)) s112)
  else (
    some (0, s112))
noncomputable def c_Law_641_f (xs : Nat → Int32) (L : Nat) (self18 : Int → SS → OO) (x3 : Int) (s0 : SS) : OO :=
  oc (0 ≤ iw (x3 + 1) ∧ iw (x3 + 1) < (L : Int)) <|
  ob (f_Qu_start ((xs (iw (x3 + 1)).toNat).toInt) s0) fun r116 s116 =>
  oc (0 ≤ iw (x3 + 1) ∧ iw (x3 + 1) < (L : Int)) <|
  ob (f_Mo_start ((xs (iw (x3 + 1)).toNat).toInt) s116) fun r118 s118 =>
  if r116 = r118 then (
    self18 (iw (x3 + 7)) s118)
  else (
    some (0, s118))
noncomputable def c_Law_664_f (xs : Nat → Int32) (L : Nat) (self18 : Int → SS → OO) (x3 : Int) (s0 : SS) : OO :=
  oc (0 ≤ iw (x3 + 1) ∧ iw (x3 + 1) < (L : Int)) <|
  ob (f_Qu_step ((xs (iw (x3 + 1)).toNat).toInt) s0) fun r122 s122 =>
  oc (0 ≤ iw (x3 + 1) ∧ iw (x3 + 1) < (L : Int)) <|
  ob (f_Mo_step ((xs (iw (x3 + 1)).toNat).toInt) s122) fun r124 s124 =>
  if r122 = r124 then (
    self18 (iw (x3 + 7)) s124)
  else (
    some (0, s124))
noncomputable def c_Law_687_f (xs : Nat → Int32) (L : Nat) (self18 : Int → SS → OO) (x3 : Int) (s0 : SS) : OO :=
  oc (0 ≤ iw (x3 + 1) ∧ iw (x3 + 1) < (L : Int)) <|
  oc (0 ≤ iw (x3 + 2) ∧ iw (x3 + 2) < (L : Int)) <|
  oc (0 ≤ iw (x3 + 3) ∧ iw (x3 + 3) < (L : Int)) <|
  oc (0 ≤ iw (x3 + 4) ∧ iw (x3 + 4) < (L : Int)) <|
  ob (f_Qu_walked ((xs (iw (x3 + 1)).toNat).toInt) ((xs (iw (x3 + 2)).toNat).toInt) ((xs (iw (x3 + 3)).toNat).toInt) ((xs (iw (x3 + 4)).toNat).toInt) s0) fun r131 s131 =>
  oc (0 ≤ iw (x3 + 1) ∧ iw (x3 + 1) < (L : Int)) <|
  oc (0 ≤ iw (x3 + 2) ∧ iw (x3 + 2) < (L : Int)) <|
  oc (0 ≤ iw (x3 + 3) ∧ iw (x3 + 3) < (L : Int)) <|
  oc (0 ≤ iw (x3 + 4) ∧ iw (x3 + 4) < (L : Int)) <|
  ob (f_Mo_walked ((xs (iw (x3 + 1)).toNat).toInt) ((xs (iw (x3 + 2)).toNat).toInt) ((xs (iw (x3 + 3)).toNat).toInt) ((xs (iw (x3 + 4)).toNat).toInt) s131) fun r136 s136 =>
  if r131 = r136 then (
    self18 (iw (x3 + 7)) s136)
  else (
    some (0, s136))
noncomputable def c_Law_740_f (xs : Nat → Int32) (L : Nat) (self18 : Int → SS → OO) (x3 : Int) (s0 : SS) : OO :=
  oc (0 ≤ iw (x3 + 1) ∧ iw (x3 + 1) < (L : Int)) <|
  oc (0 ≤ iw (x3 + 2) ∧ iw (x3 + 2) < (L : Int)) <|
  ob (f_Qu_shortest ((xs (iw (x3 + 1)).toNat).toInt) ((xs (iw (x3 + 2)).toNat).toInt) s0) fun r141 s141 =>
  oc (0 ≤ iw (x3 + 1) ∧ iw (x3 + 1) < (L : Int)) <|
  oc (0 ≤ iw (x3 + 2) ∧ iw (x3 + 2) < (L : Int)) <|
  ob (f_Mo_shortest ((xs (iw (x3 + 1)).toNat).toInt) ((xs (iw (x3 + 2)).toNat).toInt) s141) fun r144 s144 =>
  if r141 = r144 then (
    self18 (iw (x3 + 7)) s144)
  else (
    some (0, s144))
noncomputable def c_Law_773_f (xs : Nat → Int32) (L : Nat) (self18 : Int → SS → OO) (x3 : Int) (s0 : SS) : OO :=
  oc (0 ≤ iw (x3 + 1) ∧ iw (x3 + 1) < (L : Int)) <|
  oc (0 ≤ iw (x3 + 2) ∧ iw (x3 + 2) < (L : Int)) <|
  ob (f_Qu_send ((xs (iw (x3 + 1)).toNat).toInt) ((xs (iw (x3 + 2)).toNat).toInt) s0) fun r149 s149 =>
  oc (0 ≤ iw (x3 + 1) ∧ iw (x3 + 1) < (L : Int)) <|
  oc (0 ≤ iw (x3 + 2) ∧ iw (x3 + 2) < (L : Int)) <|
  ob (f_Mo_send ((xs (iw (x3 + 1)).toNat).toInt) ((xs (iw (x3 + 2)).toNat).toInt) s149) fun r152 s152 =>
  if r149 = r152 then (
    self18 (iw (x3 + 7)) s152)
  else (
    some (0, s152))
noncomputable def c_Law_806_f (xs : Nat → Int32) (L : Nat) (self18 : Int → SS → OO) (x3 : Int) (s0 : SS) : OO :=
  oc (0 ≤ iw (x3 + 1) ∧ iw (x3 + 1) < (L : Int)) <|
  oc (0 ≤ iw (x3 + 2) ∧ iw (x3 + 2) < (L : Int)) <|
  oc (0 ≤ iw (x3 + 3) ∧ iw (x3 + 3) < (L : Int)) <|
  oc (0 ≤ iw (x3 + 4) ∧ iw (x3 + 4) < (L : Int)) <|
  oc (0 ≤ iw (x3 + 5) ∧ iw (x3 + 5) < (L : Int)) <|
  if ((xs (iw (x3 + 5)).toNat).toInt) = 0 then (
    j_Law_840 xs L self18 x3 ((xs (iw (x3 + 1)).toNat).toInt) ((xs (iw (x3 + 2)).toNat).toInt) ((xs (iw (x3 + 3)).toNat).toInt) ((xs (iw (x3 + 4)).toNat).toInt) 0 s0)
  else (
    j_Law_840 xs L self18 x3 ((xs (iw (x3 + 1)).toNat).toInt) ((xs (iw (x3 + 2)).toNat).toInt) ((xs (iw (x3 + 3)).toNat).toInt) ((xs (iw (x3 + 4)).toNat).toInt) 1 s0)
noncomputable def c_Law_885_f (xs : Nat → Int32) (L : Nat) (self18 : Int → SS → OO) (x3 : Int) (s0 : SS) : OO :=
  oc (0 ≤ iw (x3 + 1) ∧ iw (x3 + 1) < (L : Int)) <|
  oc (0 ≤ iw (x3 + 2) ∧ iw (x3 + 2) < (L : Int)) <|
  ob (f_Qu_adds ((xs (iw (x3 + 1)).toNat).toInt) ((xs (iw (x3 + 2)).toNat).toInt) s0) fun r164 s164 =>
  oc (0 ≤ iw (x3 + 1) ∧ iw (x3 + 1) < (L : Int)) <|
  oc (0 ≤ iw (x3 + 2) ∧ iw (x3 + 2) < (L : Int)) <|
  ob (f_Mo_adds ((xs (iw (x3 + 1)).toNat).toInt) ((xs (iw (x3 + 2)).toNat).toInt) s164) fun r167 s167 =>
  if r164 = r167 then (
    self18 (iw (x3 + 7)) s167)
  else (
    some (0, s167))
noncomputable def c_Law_918_f (xs : Nat → Int32) (L : Nat) (self18 : Int → SS → OO) (x3 : Int) (s0 : SS) : OO :=
  ob (f_Qu_fair s0) fun r170 s170 =>
  ob (f_Mo_fair s170) fun r171 s171 =>
  if r170 = r171 then (
    self18 (iw (x3 + 7)) s171)
  else (
    some (0, s171))
noncomputable def c_Law_931_f (xs : Nat → Int32) (L : Nat) (self18 : Int → SS → OO) (x3 : Int) (s0 : SS) : OO :=
  ob (f_Qu_cover s0) fun r174 s174 =>
  ob (f_Mo_cover s174) fun r175 s175 =>
  if r174 = r175 then (
    self18 (iw (x3 + 7)) s175)
  else (
    some (0, s175))
noncomputable def c_Law_944_f (xs : Nat → Int32) (L : Nat) (self18 : Int → SS → OO) (x3 : Int) (s0 : SS) : OO :=
  ob (f_Qu_turned s0) fun r178 s178 =>
  ob (f_Mo_turned s178) fun r179 s179 =>
  if r178 = r179 then (
    self18 (iw (x3 + 7)) s179)
  else (
    some (0, s179))
noncomputable def c_Law_957_f (xs : Nat → Int32) (L : Nat) (self18 : Int → SS → OO) (x3 : Int) (s0 : SS) : OO :=
  oc (0 ≤ iw (x3 + 1) ∧ iw (x3 + 1) < (L : Int)) <|
  oc (0 ≤ iw (x3 + 2) ∧ iw (x3 + 2) < (L : Int)) <|
  oc (0 ≤ iw (x3 + 3) ∧ iw (x3 + 3) < (L : Int)) <|
  oc (0 ≤ iw (x3 + 4) ∧ iw (x3 + 4) < (L : Int)) <|
  ob (f_Qu_loud ((xs (iw (x3 + 1)).toNat).toInt) ((xs (iw (x3 + 2)).toNat).toInt) ((xs (iw (x3 + 3)).toNat).toInt) ((xs (iw (x3 + 4)).toNat).toInt) s0) fun r186 s186 =>
  oc (0 ≤ iw (x3 + 1) ∧ iw (x3 + 1) < (L : Int)) <|
  oc (0 ≤ iw (x3 + 2) ∧ iw (x3 + 2) < (L : Int)) <|
  oc (0 ≤ iw (x3 + 3) ∧ iw (x3 + 3) < (L : Int)) <|
  oc (0 ≤ iw (x3 + 4) ∧ iw (x3 + 4) < (L : Int)) <|
  ob (f_Mo_loud ((xs (iw (x3 + 1)).toNat).toInt) ((xs (iw (x3 + 2)).toNat).toInt) ((xs (iw (x3 + 3)).toNat).toInt) ((xs (iw (x3 + 4)).toNat).toInt) s186) fun r191 s191 =>
  if r186 = r191 then (
    self18 (iw (x3 + 7)) s191)
  else (
    some (0, s191))
noncomputable def c_Law_1010_f (xs : Nat → Int32) (L : Nat) (self18 : Int → SS → OO) (x3 : Int) (s0 : SS) : OO :=
  oc (0 ≤ iw (x3 + 1) ∧ iw (x3 + 1) < (L : Int)) <|
  oc (0 ≤ iw (x3 + 2) ∧ iw (x3 + 2) < (L : Int)) <|
  oc (0 ≤ iw (x3 + 3) ∧ iw (x3 + 3) < (L : Int)) <|
  oc (0 ≤ iw (x3 + 4) ∧ iw (x3 + 4) < (L : Int)) <|
  oc (0 ≤ iw (x3 + 5) ∧ iw (x3 + 5) < (L : Int)) <|
  oc (0 ≤ iw (x3 + 6) ∧ iw (x3 + 6) < (L : Int)) <|
  ob (f_Qu_home ((xs (iw (x3 + 1)).toNat).toInt) ((xs (iw (x3 + 2)).toNat).toInt) ((xs (iw (x3 + 3)).toNat).toInt) ((xs (iw (x3 + 4)).toNat).toInt) ((xs (iw (x3 + 5)).toNat).toInt) ((xs (iw (x3 + 6)).toNat).toInt) s0) fun r200 s200 =>
  oc (0 ≤ iw (x3 + 1) ∧ iw (x3 + 1) < (L : Int)) <|
  oc (0 ≤ iw (x3 + 2) ∧ iw (x3 + 2) < (L : Int)) <|
  oc (0 ≤ iw (x3 + 3) ∧ iw (x3 + 3) < (L : Int)) <|
  oc (0 ≤ iw (x3 + 4) ∧ iw (x3 + 4) < (L : Int)) <|
  oc (0 ≤ iw (x3 + 5) ∧ iw (x3 + 5) < (L : Int)) <|
  oc (0 ≤ iw (x3 + 6) ∧ iw (x3 + 6) < (L : Int)) <|
  ob (f_Mo_home ((xs (iw (x3 + 1)).toNat).toInt) ((xs (iw (x3 + 2)).toNat).toInt) ((xs (iw (x3 + 3)).toNat).toInt) ((xs (iw (x3 + 4)).toNat).toInt) ((xs (iw (x3 + 5)).toNat).toInt) ((xs (iw (x3 + 6)).toNat).toInt) s200) fun r207 s207 =>
  if r200 = r207 then (
    self18 (iw (x3 + 7)) s207)
  else (
    some (0, s207))
noncomputable def c_Law_1085_f (xs : Nat → Int32) (L : Nat) (self18 : Int → SS → OO) (x3 : Int) (s0 : SS) : OO :=
  oc (0 ≤ iw (x3 + 1) ∧ iw (x3 + 1) < (L : Int)) <|
  oc (0 ≤ iw (x3 + 2) ∧ iw (x3 + 2) < (L : Int)) <|
  oc (0 ≤ iw (x3 + 3) ∧ iw (x3 + 3) < (L : Int)) <|
  oc (0 ≤ iw (x3 + 4) ∧ iw (x3 + 4) < (L : Int)) <|
  ob (f_Qu_temper ((xs (iw (x3 + 1)).toNat).toInt) ((xs (iw (x3 + 2)).toNat).toInt) ((xs (iw (x3 + 3)).toNat).toInt) ((xs (iw (x3 + 4)).toNat).toInt) s0) fun r214 s214 =>
  oc (0 ≤ iw (x3 + 1) ∧ iw (x3 + 1) < (L : Int)) <|
  oc (0 ≤ iw (x3 + 2) ∧ iw (x3 + 2) < (L : Int)) <|
  oc (0 ≤ iw (x3 + 3) ∧ iw (x3 + 3) < (L : Int)) <|
  oc (0 ≤ iw (x3 + 4) ∧ iw (x3 + 4) < (L : Int)) <|
  ob (f_Mo_temper ((xs (iw (x3 + 1)).toNat).toInt) ((xs (iw (x3 + 2)).toNat).toInt) ((xs (iw (x3 + 3)).toNat).toInt) ((xs (iw (x3 + 4)).toNat).toInt) s214) fun r219 s219 =>
  if r214 = r219 then (
    self18 (iw (x3 + 7)) s219)
  else (
    some (0, s219))
noncomputable def c_Law_1138_f (xs : Nat → Int32) (L : Nat) (self18 : Int → SS → OO) (x3 : Int) (s0 : SS) : OO :=
  oc (0 ≤ iw (x3 + 1) ∧ iw (x3 + 1) < (L : Int)) <|
  ob (f_Qu_lies ((xs (iw (x3 + 1)).toNat).toInt) s0) fun r223 s223 =>
  oc (0 ≤ iw (x3 + 1) ∧ iw (x3 + 1) < (L : Int)) <|
  ob (f_Mo_lies ((xs (iw (x3 + 1)).toNat).toInt) s223) fun r225 s225 =>
  if r223 = r225 then (
    self18 (iw (x3 + 7)) s225)
  else (
    some (0, s225))
noncomputable def c_Law_1161_f (xs : Nat → Int32) (L : Nat) (self18 : Int → SS → OO) (x3 : Int) (s0 : SS) : OO :=
  oc (0 ≤ iw (x3 + 1) ∧ iw (x3 + 1) < (L : Int)) <|
  oc (0 ≤ iw (x3 + 2) ∧ iw (x3 + 2) < (L : Int)) <|
  oc (0 ≤ iw (x3 + 3) ∧ iw (x3 + 3) < (L : Int)) <|
  oc (0 ≤ iw (x3 + 4) ∧ iw (x3 + 4) < (L : Int)) <|
  ob (f_Qu_report ((xs (iw (x3 + 1)).toNat).toInt) ((xs (iw (x3 + 2)).toNat).toInt) ((xs (iw (x3 + 3)).toNat).toInt) ((xs (iw (x3 + 4)).toNat).toInt) s0) fun r232 s232 =>
  oc (0 ≤ iw (x3 + 1) ∧ iw (x3 + 1) < (L : Int)) <|
  oc (0 ≤ iw (x3 + 2) ∧ iw (x3 + 2) < (L : Int)) <|
  oc (0 ≤ iw (x3 + 3) ∧ iw (x3 + 3) < (L : Int)) <|
  oc (0 ≤ iw (x3 + 4) ∧ iw (x3 + 4) < (L : Int)) <|
  ob (f_Mo_report ((xs (iw (x3 + 1)).toNat).toInt) ((xs (iw (x3 + 2)).toNat).toInt) ((xs (iw (x3 + 3)).toNat).toInt) ((xs (iw (x3 + 4)).toNat).toInt) s232) fun r237 s237 =>
  if r232 = r237 then (
    self18 (iw (x3 + 7)) s237)
  else (
    some (0, s237))
noncomputable def c_Law_1214_f (xs : Nat → Int32) (L : Nat) (self18 : Int → SS → OO) (x3 : Int) (s0 : SS) : OO :=
  oc (0 ≤ iw (x3 + 1) ∧ iw (x3 + 1) < (L : Int)) <|
  ob (f_Qu_untell ((xs (iw (x3 + 1)).toNat).toInt) s0) fun r241 s241 =>
  oc (0 ≤ iw (x3 + 1) ∧ iw (x3 + 1) < (L : Int)) <|
  ob (f_Mo_untell ((xs (iw (x3 + 1)).toNat).toInt) s241) fun r243 s243 =>
  if r241 = r243 then (
    self18 (iw (x3 + 7)) s243)
  else (
    some (0, s243))
noncomputable def c_Law_1237_f (xs : Nat → Int32) (L : Nat) (self18 : Int → SS → OO) (x3 : Int) (s0 : SS) : OO :=
  oc (0 ≤ iw (x3 + 1) ∧ iw (x3 + 1) < (L : Int)) <|
  ob (f_Qu_later ((xs (iw (x3 + 1)).toNat).toInt) s0) fun r247 s247 =>
  oc (0 ≤ iw (x3 + 1) ∧ iw (x3 + 1) < (L : Int)) <|
  ob (f_Mo_later ((xs (iw (x3 + 1)).toNat).toInt) s247) fun r249 s249 =>
  if r247 = r249 then (
    self18 (iw (x3 + 7)) s249)
  else (
    some (0, s249))
noncomputable def c_Law_1260_f (xs : Nat → Int32) (L : Nat) (self18 : Int → SS → OO) (x3 : Int) (s0 : SS) : OO :=
  oc (0 ≤ iw (x3 + 1) ∧ iw (x3 + 1) < (L : Int)) <|
  ob (f_Qu_miles ((xs (iw (x3 + 1)).toNat).toInt) s0) fun r253 s253 =>
  oc (0 ≤ iw (x3 + 1) ∧ iw (x3 + 1) < (L : Int)) <|
  ob (f_Mo_miles ((xs (iw (x3 + 1)).toNat).toInt) s253) fun r255 s255 =>
  if (ycmp r253 r255) = 0 then (
    self18 (iw (x3 + 7)) s255)
  else (
    some (0, s255))
noncomputable def c_Law_1284_f (xs : Nat → Int32) (L : Nat) (self18 : Int → SS → OO) (x3 : Int) (s0 : SS) : OO :=
  oc (0 ≤ iw (x3 + 1) ∧ iw (x3 + 1) < (L : Int)) <|
  oc (0 ≤ iw (x3 + 2) ∧ iw (x3 + 2) < (L : Int)) <|
  ob (f_Qu_ask ((xs (iw (x3 + 1)).toNat).toInt) ((xs (iw (x3 + 2)).toNat).toInt) s0) fun r260 s260 =>
  oc (0 ≤ iw (x3 + 1) ∧ iw (x3 + 1) < (L : Int)) <|
  oc (0 ≤ iw (x3 + 2) ∧ iw (x3 + 2) < (L : Int)) <|
  ob (f_Mo_ask ((xs (iw (x3 + 1)).toNat).toInt) ((xs (iw (x3 + 2)).toNat).toInt) s260) fun r263 s263 =>
  if r260 = r263 then (
    self18 (iw (x3 + 7)) s263)
  else (
    some (0, s263))
noncomputable def c_Law_1317_f (xs : Nat → Int32) (L : Nat) (self18 : Int → SS → OO) (x3 : Int) (s0 : SS) : OO :=
  oc (0 ≤ iw (x3 + 1) ∧ iw (x3 + 1) < (L : Int)) <|
  ob (f_Qu_image ((xs (iw (x3 + 1)).toNat).toInt) s0) fun r267 s267 =>
  oc (0 ≤ iw (x3 + 1) ∧ iw (x3 + 1) < (L : Int)) <|
  ob (f_Mo_image ((xs (iw (x3 + 1)).toNat).toInt) s267) fun r269 s269 =>
  if r267 = r269 then (
    self18 (iw (x3 + 7)) s269)
  else (
    some (0, s269))
noncomputable def c_Law_1340_f (xs : Nat → Int32) (L : Nat) (self18 : Int → SS → OO) (x3 : Int) (s0 : SS) : OO :=
  oc (0 ≤ iw (x3 + 1) ∧ iw (x3 + 1) < (L : Int)) <|
  ob (f_Qu_back ((xs (iw (x3 + 1)).toNat).toInt) s0) fun r273 s273 =>
  oc (0 ≤ iw (x3 + 1) ∧ iw (x3 + 1) < (L : Int)) <|
  ob (f_Mo_back ((xs (iw (x3 + 1)).toNat).toInt) s273) fun r275 s275 =>
  if r273 = r275 then (
    self18 (iw (x3 + 7)) s275)
  else (
    some (0, s275))
noncomputable def c_Law_1363_f (xs : Nat → Int32) (L : Nat) (self18 : Int → SS → OO) (x3 : Int) (s0 : SS) : OO :=
  oc (0 ≤ iw (x3 + 1) ∧ iw (x3 + 1) < (L : Int)) <|
  ob (f_Qu_about ((xs (iw (x3 + 1)).toNat).toInt) s0) fun r279 s279 =>
  oc (0 ≤ iw (x3 + 1) ∧ iw (x3 + 1) < (L : Int)) <|
  ob (f_Mo_about ((xs (iw (x3 + 1)).toNat).toInt) s279) fun r281 s281 =>
  if r279 = r281 then (
    self18 (iw (x3 + 7)) s281)
  else (
    some (0, s281))
noncomputable def l_Law_18 (xs : Nat → Int32) (L : Nat) : Nat → Int → SS → OO
  | 0, _, _ => none
  | fu + 1, x3, s0 =>
    if (iw ((L : Int) - 7)) < x3 then (
      some (1, s0))
    else (
      oc (0 ≤ x3 ∧ x3 < (L : Int)) <|
      ol (zand ((xs (x3).toNat).toInt) 63) fun x3_ =>
      if x3_ = 0 then c_Law_196_f xs L (l_Law_18 xs L fu) x3 s0
      else       if x3_ = 1 then c_Law_259_f xs L (l_Law_18 xs L fu) x3 s0
      else       if x3_ = 2 then c_Law_282_f xs L (l_Law_18 xs L fu) x3 s0
      else       if x3_ = 3 then c_Law_295_f xs L (l_Law_18 xs L fu) x3 s0
      else       if x3_ = 4 then c_Law_318_f xs L (l_Law_18 xs L fu) x3 s0
      else       if x3_ = 5 then c_Law_351_f xs L (l_Law_18 xs L fu) x3 s0
      else       if x3_ = 6 then c_Law_384_f xs L (l_Law_18 xs L fu) x3 s0
      else       if x3_ = 7 then c_Law_427_f xs L (l_Law_18 xs L fu) x3 s0
      else       if x3_ = 8 then c_Law_480_f xs L (l_Law_18 xs L fu) x3 s0
      else       if x3_ = 9 then c_Law_533_f xs L (l_Law_18 xs L fu) x3 s0
      else       if x3_ = 10 then c_Law_556_f xs L (l_Law_18 xs L fu) x3 s0
      else       if x3_ = 11 then c_Law_579_f xs L (l_Law_18 xs L fu) x3 s0
      else       if x3_ = 12 then c_Law_592_f xs L (l_Law_18 xs L fu) x3 s0
      else       if x3_ = 13 then c_Law_615_f xs L (l_Law_18 xs L fu) x3 s0
      else       if x3_ = 14 then c_Law_628_f xs L (l_Law_18 xs L fu) x3 s0
      else       if x3_ = 15 then c_Law_641_f xs L (l_Law_18 xs L fu) x3 s0
      else       if x3_ = 16 then c_Law_664_f xs L (l_Law_18 xs L fu) x3 s0
      else       if x3_ = 17 then c_Law_687_f xs L (l_Law_18 xs L fu) x3 s0
      else       if x3_ = 18 then c_Law_740_f xs L (l_Law_18 xs L fu) x3 s0
      else       if x3_ = 19 then c_Law_773_f xs L (l_Law_18 xs L fu) x3 s0
      else       if x3_ = 20 then c_Law_806_f xs L (l_Law_18 xs L fu) x3 s0
      else       if x3_ = 21 then c_Law_885_f xs L (l_Law_18 xs L fu) x3 s0
      else       if x3_ = 22 then c_Law_918_f xs L (l_Law_18 xs L fu) x3 s0
      else       if x3_ = 23 then c_Law_931_f xs L (l_Law_18 xs L fu) x3 s0
      else       if x3_ = 24 then c_Law_944_f xs L (l_Law_18 xs L fu) x3 s0
      else       if x3_ = 25 then c_Law_957_f xs L (l_Law_18 xs L fu) x3 s0
      else       if x3_ = 26 then c_Law_1010_f xs L (l_Law_18 xs L fu) x3 s0
      else       if x3_ = 27 then c_Law_1085_f xs L (l_Law_18 xs L fu) x3 s0
      else       if x3_ = 28 then c_Law_1138_f xs L (l_Law_18 xs L fu) x3 s0
      else       if x3_ = 29 then c_Law_1161_f xs L (l_Law_18 xs L fu) x3 s0
      else       if x3_ = 30 then c_Law_1214_f xs L (l_Law_18 xs L fu) x3 s0
      else       if x3_ = 31 then c_Law_1237_f xs L (l_Law_18 xs L fu) x3 s0
      else       if x3_ = 32 then c_Law_1260_f xs L (l_Law_18 xs L fu) x3 s0
      else       if x3_ = 33 then c_Law_1284_f xs L (l_Law_18 xs L fu) x3 s0
      else       if x3_ = 34 then c_Law_1317_f xs L (l_Law_18 xs L fu) x3 s0
      else       if x3_ = 35 then c_Law_1340_f xs L (l_Law_18 xs L fu) x3 s0
      else       if x3_ = 36 then c_Law_1363_f xs L (l_Law_18 xs L fu) x3 s0
      else (
                                                                                (l_Law_18 xs L fu) (iw (x3 + 7)) s0))
set_option maxRecDepth 20000 in
theorem b_Law_877 {l : Launch} {D : va_G} {cs : Nat → ClassId} {aS aV : Nat} {A : Nat → Prop} {K : KT} {ad : Nat → Nat} {nm : String} {out : Int × SS} (hout : out.1 = 1) {b L : Nat} {xs : Nat → Int32} (hL : L ≤ 3584) (h : w_Cl l room_1 D cs aS aV A cL_law 4 RL nm K) (hr : w_LR b L xs K) (hw : w_W0 138 (nlE 148))  (x3 : Int) (z0 : Int) (z2 : Int) (z3 : Int) (z4 : Int) (z5 : Int) (z6 : Int) (self18 : Int → SS → OO) (hself18 : ∀ (x3 : Int) (τ : SS), rI x3 → self18 x3 τ = some out → K ad 138 (nlE 148) 138 14691 18 [(0, .ref b), (1, .ref (ad 0)), (2, .ref (ad 86)), (3, .int (vI x3))] [] τ) (s0 : SS) (rx3 : rI x3) (rz0 : rI z0) (rz2 : rI z2) (rz3 : rI z3) (rz4 : rI z4) (rz5 : rI z5) (rz6 : rI z6) (hf : j_Law_877 xs L self18 x3 z0 z2 z3 z4 z5 z6 s0 = some out) : K ad 138 (nlE 148) 138 14691 877 [(0, .ref b), (1, .ref (ad 0)), (2, .ref (ad 86)), (3, .int (vI x3))] [.int (vI z6), .int (vI z5), .int (vI z4), .int (vI z3), .int (vI z2), .ref (ad 86), .int (vI z0)] s0 := by
  unfold j_Law_877 at hf
  refine r_rS h (fun hs0 => ?_)
  obtain ⟨hb1, hf⟩ := oc_some hf
  obtain ⟨r2, s2, hq2, hf⟩ := ob_some hf
  refine r_callV1 h [.int (vI z2), .int (vI z3), .int (vI z4), .int (vI z5), .int (vI z6)] dL_law_877 (fun hs => m_Mo_measure hw.1 (by decide) rz2 rz3 rz4 rz5 hb1 hs hq2) ml_L_104 cv_Mo_measure rfl (co := 12) rfl (by decide) (by decide) rC_86 ⟨rfl, rfl⟩ ⟨Nat.le_of_ble_eq_true rfl, Nat.le_of_ble_eq_true rfl⟩ ⟨Nat.le_of_ble_eq_true rfl, Nat.le_of_ble_eq_true rfl⟩ (Nat.le_of_ble_eq_true rfl) rfl (fun hr2 hs2 => ?_)
  refine r_icmp_eq (tgt := 1386) h dL_law_880 (by decide) rz0 hr2 (fun hc3 => ?_) (fun hc3 => ?_)
  · have hf := ite_t hc3 hf
    refine r_iinc h [(3, .int (vI (iw (x3 + 7)))), (0, .ref b), (1, .ref (ad 0)), (2, .ref (ad 86))] dL_law_1386 3 rfl (by decide) rfl ?_
    refine r_goto (tgt := 18) h dL_law_1389 (by decide) ?_
    refine r_sub h [1, 2, 3, 0] rfl ?_
    exact hself18 (iw (x3 + 7)) s2 (rI_iw _) hf
  · have hf := ite_f hc3 hf
    refine r_iconst h dL_law_883 ?_
    cases hf
    exact absurd hout (by show ¬ (0 : Int) = 1; decide)
set_option maxRecDepth 20000 in
theorem b_Law_840 {l : Launch} {D : va_G} {cs : Nat → ClassId} {aS aV : Nat} {A : Nat → Prop} {K : KT} {ad : Nat → Nat} {nm : String} {out : Int × SS} (hout : out.1 = 1) {b L : Nat} {xs : Nat → Int32} (hL : L ≤ 3584) (h : w_Cl l room_1 D cs aS aV A cL_law 4 RL nm K) (hr : w_LR b L xs K) (hw : w_W0 138 (nlE 148))  (x3 : Int) (z1 : Int) (z2 : Int) (z3 : Int) (z4 : Int) (z5 : Int) (self18 : Int → SS → OO) (hself18 : ∀ (x3 : Int) (τ : SS), rI x3 → self18 x3 τ = some out → K ad 138 (nlE 148) 138 14691 18 [(0, .ref b), (1, .ref (ad 0)), (2, .ref (ad 86)), (3, .int (vI x3))] [] τ) (s0 : SS) (rx3 : rI x3) (rz1 : rI z1) (rz2 : rI z2) (rz3 : rI z3) (rz4 : rI z4) (rz5 : rI z5) (hf : j_Law_840 xs L self18 x3 z1 z2 z3 z4 z5 s0 = some out) : K ad 138 (nlE 148) 138 14691 840 [(0, .ref b), (1, .ref (ad 0)), (2, .ref (ad 86)), (3, .int (vI x3))] [.int (vI z5), .int (vI z4), .int (vI z3), .int (vI z2), .int (vI z1), .ref (ad 0)] s0 := by
  unfold j_Law_840 at hf
  refine r_rS h (fun hs0 => ?_)
  obtain ⟨hb1, hf⟩ := oc_some hf
  obtain ⟨r2, s2, hq2, hf⟩ := ob_some hf
  refine r_callV1 h [.int (vI z1), .int (vI z2), .int (vI z3), .int (vI z4), .int (vI z5)] dL_law_840 (fun hs => m_Qu_measure hw (by decide) rz1 rz2 rz3 rz4 hb1 hs hq2) ml_L_100 cv_Qu_measure rfl (co := 11) rfl (by decide) (by decide) rC_0 ⟨rfl, rfl⟩ ⟨Nat.le_of_ble_eq_true rfl, Nat.le_of_ble_eq_true rfl⟩ ⟨Nat.le_of_ble_eq_true rfl, Nat.le_of_ble_eq_true rfl⟩ (Nat.le_of_ble_eq_true rfl) rfl (fun hr2 hs2 => ?_)
  refine r_aload_n h dL_law_843 rfl 2 rfl ?_
  refine r_aload_n h dL_law_844 rfl 0 rfl ?_
  refine r_iload_n h dL_law_845 rfl 3 rfl ?_
  refine r_iconst h dL_law_846 ?_
  refine r_iadd h dL_law_847 ?_
  obtain ⟨hi3, hf⟩ := oc_some hf
  refine hr.1 _ _ _ _ _ _ _ _ _ _ dL_law_848 (rI_iw _) hi3 ?_
  refine r_aload_n h dL_law_849 rfl 0 rfl ?_
  refine r_iload_n h dL_law_850 rfl 3 rfl ?_
  refine r_iconst h dL_law_851 ?_
  refine r_iadd h dL_law_852 ?_
  obtain ⟨hi4, hf⟩ := oc_some hf
  refine hr.1 _ _ _ _ _ _ _ _ _ _ dL_law_853 (rI_iw _) hi4 ?_
  refine r_aload_n h dL_law_854 rfl 0 rfl ?_
  refine r_iload_n h dL_law_855 rfl 3 rfl ?_
  refine r_iconst h dL_law_856 ?_
  refine r_iadd h dL_law_857 ?_
  obtain ⟨hi5, hf⟩ := oc_some hf
  refine hr.1 _ _ _ _ _ _ _ _ _ _ dL_law_858 (rI_iw _) hi5 ?_
  refine r_aload_n h dL_law_859 rfl 0 rfl ?_
  refine r_iload_n h dL_law_860 rfl 3 rfl ?_
  refine r_iconst h dL_law_861 ?_
  refine r_iadd h dL_law_862 ?_
  obtain ⟨hi6, hf⟩ := oc_some hf
  refine hr.1 _ _ _ _ _ _ _ _ _ _ dL_law_863 (rI_iw _) hi6 ?_
  refine r_aload_n h dL_law_864 rfl 0 rfl ?_
  refine r_iload_n h dL_law_865 rfl 3 rfl ?_
  refine r_iconst h dL_law_866 ?_
  refine r_iadd h dL_law_867 ?_
  obtain ⟨hi7, hf⟩ := oc_some hf
  refine hr.1 _ _ _ _ _ _ _ _ _ _ dL_law_868 (rI_iw _) hi7 ?_
  refine r_if_eq (tgt := 876) h dL_law_869 (by decide) (rI_to _) (fun hc8 => ?_) (fun hc8 => ?_)
  · have hf := ite_t hc8 hf
    refine r_iconst h dL_law_876 ?_
    exact b_Law_877 hout hL h hr hw x3 r2 ((xs (iw (x3 + 1)).toNat).toInt) ((xs (iw (x3 + 2)).toNat).toInt) ((xs (iw (x3 + 3)).toNat).toInt) ((xs (iw (x3 + 4)).toNat).toInt) 0 self18 hself18 s2 rx3 hr2 (rI_to _) (rI_to _) (rI_to _) (rI_to _) (rIc rfl) hf
  · have hf := ite_f hc8 hf
    refine r_iconst h dL_law_872 ?_
    refine r_goto (tgt := 877) h dL_law_873 (by decide) ?_
    exact b_Law_877 hout hL h hr hw x3 r2 ((xs (iw (x3 + 1)).toNat).toInt) ((xs (iw (x3 + 2)).toNat).toInt) ((xs (iw (x3 + 3)).toNat).toInt) ((xs (iw (x3 + 4)).toNat).toInt) 1 self18 hself18 s2 rx3 hr2 (rI_to _) (rI_to _) (rI_to _) (rI_to _) (rIc rfl) hf
set_option maxRecDepth 20000 in
theorem c_Law_196 {l : Launch} {D : va_G} {cs : Nat → ClassId} {aS aV : Nat} {A : Nat → Prop} {K : KT} {ad : Nat → Nat} {nm : String} {out : Int × SS} (hout : out.1 = 1) {b L : Nat} {xs : Nat → Int32} (hL : L ≤ 3584) (h : w_Cl l room_1 D cs aS aV A cL_law 4 RL nm K) (hr : w_LR b L xs K) (hw : w_W0 138 (nlE 148)) (x3 : Int) (self18 : Int → SS → OO) (hself18 : ∀ (x3 : Int) (τ : SS), rI x3 → self18 x3 τ = some out → K ad 138 (nlE 148) 138 14691 18 [(0, .ref b), (1, .ref (ad 0)), (2, .ref (ad 86)), (3, .int (vI x3))] [] τ) (s0 : SS) (rx3 : rI x3) (hf : c_Law_196_f xs L self18 x3 s0 = some out) : K ad 138 (nlE 148) 138 14691 196 [(0, .ref b), (1, .ref (ad 0)), (2, .ref (ad 86)), (3, .int (vI x3))] [] s0 := by
  unfold c_Law_196_f at hf
  refine r_rS h (fun hs0 => ?_)
  refine r_aload_n h dL_law_196 rfl 1 rfl ?_
  refine r_aload_n h dL_law_197 rfl 0 rfl ?_
  refine r_iload_n h dL_law_198 rfl 3 rfl ?_
  refine r_iconst h dL_law_199 ?_
  refine r_iadd h dL_law_200 ?_
  obtain ⟨hi5, hf⟩ := oc_some hf
  refine hr.1 _ _ _ _ _ _ _ _ _ _ dL_law_201 (rI_iw _) hi5 ?_
  refine r_aload_n h dL_law_202 rfl 0 rfl ?_
  refine r_iload_n h dL_law_203 rfl 3 rfl ?_
  refine r_iconst h dL_law_204 ?_
  refine r_iadd h dL_law_205 ?_
  obtain ⟨hi6, hf⟩ := oc_some hf
  refine hr.1 _ _ _ _ _ _ _ _ _ _ dL_law_206 (rI_iw _) hi6 ?_
  refine r_aload_n h dL_law_207 rfl 0 rfl ?_
  refine r_iload_n h dL_law_208 rfl 3 rfl ?_
  refine r_iconst h dL_law_209 ?_
  refine r_iadd h dL_law_210 ?_
  obtain ⟨hi7, hf⟩ := oc_some hf
  refine hr.1 _ _ _ _ _ _ _ _ _ _ dL_law_211 (rI_iw _) hi7 ?_
  refine r_aload_n h dL_law_212 rfl 0 rfl ?_
  refine r_iload_n h dL_law_213 rfl 3 rfl ?_
  refine r_iconst h dL_law_214 ?_
  refine r_iadd h dL_law_215 ?_
  obtain ⟨hi8, hf⟩ := oc_some hf
  refine hr.1 _ _ _ _ _ _ _ _ _ _ dL_law_216 (rI_iw _) hi8 ?_
  refine r_aload_n h dL_law_217 rfl 0 rfl ?_
  refine r_iload_n h dL_law_218 rfl 3 rfl ?_
  refine r_iconst h dL_law_219 ?_
  refine r_iadd h dL_law_220 ?_
  obtain ⟨hi9, hf⟩ := oc_some hf
  refine hr.1 _ _ _ _ _ _ _ _ _ _ dL_law_221 (rI_iw _) hi9 ?_
  obtain ⟨r10, s10, hq10, hf⟩ := ob_some hf
  refine r_callV1 h [.int (vI ((xs (iw (x3 + 1)).toNat).toInt)), .int (vI ((xs (iw (x3 + 2)).toNat).toInt)), .int (vI ((xs (iw (x3 + 3)).toNat).toInt)), .int (vI ((xs (iw (x3 + 4)).toNat).toInt)), .int (vI ((xs (iw (x3 + 5)).toNat).toInt))] dL_law_222 (fun hs => m_Qu_feed hw (by decide) (rI_to _) (rI_to _) (rI_to _) (rI_to _) (rI_to _) hs hq10) ml_L_13 cv_Qu_feed rfl (co := 11) rfl (by decide) (by decide) rC_0 ⟨rfl, rfl⟩ ⟨Nat.le_of_ble_eq_true rfl, Nat.le_of_ble_eq_true rfl⟩ ⟨Nat.le_of_ble_eq_true rfl, Nat.le_of_ble_eq_true rfl⟩ (Nat.le_of_ble_eq_true rfl) rfl (fun hr10 hs10 => ?_)
  refine r_aload_n h dL_law_225 rfl 2 rfl ?_
  refine r_aload_n h dL_law_226 rfl 0 rfl ?_
  refine r_iload_n h dL_law_227 rfl 3 rfl ?_
  refine r_iconst h dL_law_228 ?_
  refine r_iadd h dL_law_229 ?_
  obtain ⟨hi11, hf⟩ := oc_some hf
  refine hr.1 _ _ _ _ _ _ _ _ _ _ dL_law_230 (rI_iw _) hi11 ?_
  refine r_aload_n h dL_law_231 rfl 0 rfl ?_
  refine r_iload_n h dL_law_232 rfl 3 rfl ?_
  refine r_iconst h dL_law_233 ?_
  refine r_iadd h dL_law_234 ?_
  obtain ⟨hi12, hf⟩ := oc_some hf
  refine hr.1 _ _ _ _ _ _ _ _ _ _ dL_law_235 (rI_iw _) hi12 ?_
  refine r_aload_n h dL_law_236 rfl 0 rfl ?_
  refine r_iload_n h dL_law_237 rfl 3 rfl ?_
  refine r_iconst h dL_law_238 ?_
  refine r_iadd h dL_law_239 ?_
  obtain ⟨hi13, hf⟩ := oc_some hf
  refine hr.1 _ _ _ _ _ _ _ _ _ _ dL_law_240 (rI_iw _) hi13 ?_
  refine r_aload_n h dL_law_241 rfl 0 rfl ?_
  refine r_iload_n h dL_law_242 rfl 3 rfl ?_
  refine r_iconst h dL_law_243 ?_
  refine r_iadd h dL_law_244 ?_
  obtain ⟨hi14, hf⟩ := oc_some hf
  refine hr.1 _ _ _ _ _ _ _ _ _ _ dL_law_245 (rI_iw _) hi14 ?_
  refine r_aload_n h dL_law_246 rfl 0 rfl ?_
  refine r_iload_n h dL_law_247 rfl 3 rfl ?_
  refine r_iconst h dL_law_248 ?_
  refine r_iadd h dL_law_249 ?_
  obtain ⟨hi15, hf⟩ := oc_some hf
  refine hr.1 _ _ _ _ _ _ _ _ _ _ dL_law_250 (rI_iw _) hi15 ?_
  obtain ⟨r16, s16, hq16, hf⟩ := ob_some hf
  refine r_callV1 h [.int (vI ((xs (iw (x3 + 1)).toNat).toInt)), .int (vI ((xs (iw (x3 + 2)).toNat).toInt)), .int (vI ((xs (iw (x3 + 3)).toNat).toInt)), .int (vI ((xs (iw (x3 + 4)).toNat).toInt)), .int (vI ((xs (iw (x3 + 5)).toNat).toInt))] dL_law_251 (fun hs => m_Mo_feed hw.1 (by decide) (rI_to _) (rI_to _) (rI_to _) (rI_to _) (rI_to _) hs hq16) ml_L_17 cv_Mo_feed rfl (co := 12) rfl (by decide) (by decide) rC_86 ⟨rfl, rfl⟩ ⟨Nat.le_of_ble_eq_true rfl, Nat.le_of_ble_eq_true rfl⟩ ⟨Nat.le_of_ble_eq_true rfl, Nat.le_of_ble_eq_true rfl⟩ (Nat.le_of_ble_eq_true rfl) rfl (fun hr16 hs16 => ?_)
  refine r_icmp_eq (tgt := 1386) h dL_law_254 (by decide) hr10 hr16 (fun hc17 => ?_) (fun hc17 => ?_)
  · have hf := ite_t hc17 hf
    refine r_iinc h [(3, .int (vI (iw (x3 + 7)))), (0, .ref b), (1, .ref (ad 0)), (2, .ref (ad 86))] dL_law_1386 3 rfl (by decide) rfl ?_
    refine r_goto (tgt := 18) h dL_law_1389 (by decide) ?_
    refine r_sub h [1, 2, 3, 0] rfl ?_
    exact hself18 (iw (x3 + 7)) s16 (rI_iw _) hf
  · have hf := ite_f hc17 hf
    refine r_iconst h dL_law_257 ?_
    cases hf
    exact absurd hout (by show ¬ (0 : Int) = 1; decide)
set_option maxRecDepth 20000 in
theorem c_Law_259 {l : Launch} {D : va_G} {cs : Nat → ClassId} {aS aV : Nat} {A : Nat → Prop} {K : KT} {ad : Nat → Nat} {nm : String} {out : Int × SS} (hout : out.1 = 1) {b L : Nat} {xs : Nat → Int32} (hL : L ≤ 3584) (h : w_Cl l room_1 D cs aS aV A cL_law 4 RL nm K) (hr : w_LR b L xs K) (hw : w_W0 138 (nlE 148)) (x3 : Int) (self18 : Int → SS → OO) (hself18 : ∀ (x3 : Int) (τ : SS), rI x3 → self18 x3 τ = some out → K ad 138 (nlE 148) 138 14691 18 [(0, .ref b), (1, .ref (ad 0)), (2, .ref (ad 86)), (3, .int (vI x3))] [] τ) (s0 : SS) (rx3 : rI x3) (hf : c_Law_259_f xs L self18 x3 s0 = some out) : K ad 138 (nlE 148) 138 14691 259 [(0, .ref b), (1, .ref (ad 0)), (2, .ref (ad 86)), (3, .int (vI x3))] [] s0 := by
  unfold c_Law_259_f at hf
  refine r_rS h (fun hs0 => ?_)
  refine r_aload_n h dL_law_259 rfl 1 rfl ?_
  refine r_aload_n h dL_law_260 rfl 0 rfl ?_
  refine r_iload_n h dL_law_261 rfl 3 rfl ?_
  refine r_iconst h dL_law_262 ?_
  refine r_iadd h dL_law_263 ?_
  obtain ⟨hi19, hf⟩ := oc_some hf
  refine hr.1 _ _ _ _ _ _ _ _ _ _ dL_law_264 (rI_iw _) hi19 ?_
  obtain ⟨r20, s20, hq20, hf⟩ := ob_some hf
  refine r_callV1 h [.int (vI ((xs (iw (x3 + 1)).toNat).toInt))] dL_law_265 (fun hs => m_Qu_end hw (by decide) (rI_to _) hs hq20) ml_L_18 cv_Qu_end rfl (co := 11) rfl (by decide) (by decide) rC_0 ⟨rfl, rfl⟩ ⟨Nat.le_of_ble_eq_true rfl, Nat.le_of_ble_eq_true rfl⟩ ⟨Nat.le_of_ble_eq_true rfl, Nat.le_of_ble_eq_true rfl⟩ (Nat.le_of_ble_eq_true rfl) rfl (fun hr20 hs20 => ?_)
  refine r_aload_n h dL_law_268 rfl 2 rfl ?_
  refine r_aload_n h dL_law_269 rfl 0 rfl ?_
  refine r_iload_n h dL_law_270 rfl 3 rfl ?_
  refine r_iconst h dL_law_271 ?_
  refine r_iadd h dL_law_272 ?_
  obtain ⟨hi21, hf⟩ := oc_some hf
  refine hr.1 _ _ _ _ _ _ _ _ _ _ dL_law_273 (rI_iw _) hi21 ?_
  obtain ⟨r22, s22, hq22, hf⟩ := ob_some hf
  refine r_callV1 h [.int (vI ((xs (iw (x3 + 1)).toNat).toInt))] dL_law_274 (fun hs => m_Mo_end hw.1 (by decide) (rI_to _) hs hq22) ml_L_22 cv_Mo_end rfl (co := 12) rfl (by decide) (by decide) rC_86 ⟨rfl, rfl⟩ ⟨Nat.le_of_ble_eq_true rfl, Nat.le_of_ble_eq_true rfl⟩ ⟨Nat.le_of_ble_eq_true rfl, Nat.le_of_ble_eq_true rfl⟩ (Nat.le_of_ble_eq_true rfl) rfl (fun hr22 hs22 => ?_)
  refine r_icmp_eq (tgt := 1386) h dL_law_277 (by decide) hr20 hr22 (fun hc23 => ?_) (fun hc23 => ?_)
  · have hf := ite_t hc23 hf
    refine r_iinc h [(3, .int (vI (iw (x3 + 7)))), (0, .ref b), (1, .ref (ad 0)), (2, .ref (ad 86))] dL_law_1386 3 rfl (by decide) rfl ?_
    refine r_goto (tgt := 18) h dL_law_1389 (by decide) ?_
    refine r_sub h [1, 2, 3, 0] rfl ?_
    exact hself18 (iw (x3 + 7)) s22 (rI_iw _) hf
  · have hf := ite_f hc23 hf
    refine r_iconst h dL_law_280 ?_
    cases hf
    exact absurd hout (by show ¬ (0 : Int) = 1; decide)
set_option maxRecDepth 20000 in
theorem c_Law_282 {l : Launch} {D : va_G} {cs : Nat → ClassId} {aS aV : Nat} {A : Nat → Prop} {K : KT} {ad : Nat → Nat} {nm : String} {out : Int × SS} (hout : out.1 = 1) {b L : Nat} {xs : Nat → Int32} (hL : L ≤ 3584) (h : w_Cl l room_1 D cs aS aV A cL_law 4 RL nm K) (hr : w_LR b L xs K) (hw : w_W0 138 (nlE 148)) (x3 : Int) (self18 : Int → SS → OO) (hself18 : ∀ (x3 : Int) (τ : SS), rI x3 → self18 x3 τ = some out → K ad 138 (nlE 148) 138 14691 18 [(0, .ref b), (1, .ref (ad 0)), (2, .ref (ad 86)), (3, .int (vI x3))] [] τ) (s0 : SS) (rx3 : rI x3) (hf : c_Law_282_f xs L self18 x3 s0 = some out) : K ad 138 (nlE 148) 138 14691 282 [(0, .ref b), (1, .ref (ad 0)), (2, .ref (ad 86)), (3, .int (vI x3))] [] s0 := by
  unfold c_Law_282_f at hf
  refine r_rS h (fun hs0 => ?_)
  refine r_aload_n h dL_law_282 rfl 1 rfl ?_
  obtain ⟨r25, s25, hq25, hf⟩ := ob_some hf
  refine r_callV1 h [] dL_law_283 (fun hs => m_Qu_land hw (by decide) hs hq25) ml_L_23 cv_Qu_land rfl (co := 11) rfl (by decide) (by decide) rC_0 ⟨rfl, rfl⟩ ⟨Nat.le_of_ble_eq_true rfl, Nat.le_of_ble_eq_true rfl⟩ ⟨Nat.le_of_ble_eq_true rfl, Nat.le_of_ble_eq_true rfl⟩ (Nat.le_of_ble_eq_true rfl) rfl (fun hr25 hs25 => ?_)
  refine r_aload_n h dL_law_286 rfl 2 rfl ?_
  obtain ⟨r26, s26, hq26, hf⟩ := ob_some hf
  refine r_callV1 h [] dL_law_287 (fun hs => m_Mo_land hw.1 (by decide) hs hq26) ml_L_27 cv_Mo_land rfl (co := 12) rfl (by decide) (by decide) rC_86 ⟨rfl, rfl⟩ ⟨Nat.le_of_ble_eq_true rfl, Nat.le_of_ble_eq_true rfl⟩ ⟨Nat.le_of_ble_eq_true rfl, Nat.le_of_ble_eq_true rfl⟩ (Nat.le_of_ble_eq_true rfl) rfl (fun hr26 hs26 => ?_)
  refine r_icmp_eq (tgt := 1386) h dL_law_290 (by decide) hr25 hr26 (fun hc27 => ?_) (fun hc27 => ?_)
  · have hf := ite_t hc27 hf
    refine r_iinc h [(3, .int (vI (iw (x3 + 7)))), (0, .ref b), (1, .ref (ad 0)), (2, .ref (ad 86))] dL_law_1386 3 rfl (by decide) rfl ?_
    refine r_goto (tgt := 18) h dL_law_1389 (by decide) ?_
    refine r_sub h [1, 2, 3, 0] rfl ?_
    exact hself18 (iw (x3 + 7)) s26 (rI_iw _) hf
  · have hf := ite_f hc27 hf
    refine r_iconst h dL_law_293 ?_
    cases hf
    exact absurd hout (by show ¬ (0 : Int) = 1; decide)
set_option maxRecDepth 20000 in
theorem c_Law_295 {l : Launch} {D : va_G} {cs : Nat → ClassId} {aS aV : Nat} {A : Nat → Prop} {K : KT} {ad : Nat → Nat} {nm : String} {out : Int × SS} (hout : out.1 = 1) {b L : Nat} {xs : Nat → Int32} (hL : L ≤ 3584) (h : w_Cl l room_1 D cs aS aV A cL_law 4 RL nm K) (hr : w_LR b L xs K) (hw : w_W0 138 (nlE 148)) (x3 : Int) (self18 : Int → SS → OO) (hself18 : ∀ (x3 : Int) (τ : SS), rI x3 → self18 x3 τ = some out → K ad 138 (nlE 148) 138 14691 18 [(0, .ref b), (1, .ref (ad 0)), (2, .ref (ad 86)), (3, .int (vI x3))] [] τ) (s0 : SS) (rx3 : rI x3) (hf : c_Law_295_f xs L self18 x3 s0 = some out) : K ad 138 (nlE 148) 138 14691 295 [(0, .ref b), (1, .ref (ad 0)), (2, .ref (ad 86)), (3, .int (vI x3))] [] s0 := by
  unfold c_Law_295_f at hf
  refine r_rS h (fun hs0 => ?_)
  refine r_aload_n h dL_law_295 rfl 1 rfl ?_
  refine r_aload_n h dL_law_296 rfl 0 rfl ?_
  refine r_iload_n h dL_law_297 rfl 3 rfl ?_
  refine r_iconst h dL_law_298 ?_
  refine r_iadd h dL_law_299 ?_
  obtain ⟨hi29, hf⟩ := oc_some hf
  refine hr.1 _ _ _ _ _ _ _ _ _ _ dL_law_300 (rI_iw _) hi29 ?_
  obtain ⟨r30, s30, hq30, hf⟩ := ob_some hf
  refine r_callV1 h [.int (vI ((xs (iw (x3 + 1)).toNat).toInt))] dL_law_301 (fun hs => m_Qu_fault hw (by decide) (rI_to _) hs hq30) ml_L_28 cv_Qu_fault rfl (co := 11) rfl (by decide) (by decide) rC_0 ⟨rfl, rfl⟩ ⟨Nat.le_of_ble_eq_true rfl, Nat.le_of_ble_eq_true rfl⟩ ⟨Nat.le_of_ble_eq_true rfl, Nat.le_of_ble_eq_true rfl⟩ (Nat.le_of_ble_eq_true rfl) rfl (fun hr30 hs30 => ?_)
  refine r_aload_n h dL_law_304 rfl 2 rfl ?_
  refine r_aload_n h dL_law_305 rfl 0 rfl ?_
  refine r_iload_n h dL_law_306 rfl 3 rfl ?_
  refine r_iconst h dL_law_307 ?_
  refine r_iadd h dL_law_308 ?_
  obtain ⟨hi31, hf⟩ := oc_some hf
  refine hr.1 _ _ _ _ _ _ _ _ _ _ dL_law_309 (rI_iw _) hi31 ?_
  obtain ⟨r32, s32, hq32, hf⟩ := ob_some hf
  refine r_callV1 h [.int (vI ((xs (iw (x3 + 1)).toNat).toInt))] dL_law_310 (fun hs => m_Mo_fault hw.1 (by decide) (rI_to _) hs hq32) ml_L_31 cv_Mo_fault rfl (co := 12) rfl (by decide) (by decide) rC_86 ⟨rfl, rfl⟩ ⟨Nat.le_of_ble_eq_true rfl, Nat.le_of_ble_eq_true rfl⟩ ⟨Nat.le_of_ble_eq_true rfl, Nat.le_of_ble_eq_true rfl⟩ (Nat.le_of_ble_eq_true rfl) rfl (fun hr32 hs32 => ?_)
  refine r_icmp_eq (tgt := 1386) h dL_law_313 (by decide) hr30 hr32 (fun hc33 => ?_) (fun hc33 => ?_)
  · have hf := ite_t hc33 hf
    refine r_iinc h [(3, .int (vI (iw (x3 + 7)))), (0, .ref b), (1, .ref (ad 0)), (2, .ref (ad 86))] dL_law_1386 3 rfl (by decide) rfl ?_
    refine r_goto (tgt := 18) h dL_law_1389 (by decide) ?_
    refine r_sub h [1, 2, 3, 0] rfl ?_
    exact hself18 (iw (x3 + 7)) s32 (rI_iw _) hf
  · have hf := ite_f hc33 hf
    refine r_iconst h dL_law_316 ?_
    cases hf
    exact absurd hout (by show ¬ (0 : Int) = 1; decide)
set_option maxRecDepth 20000 in
theorem c_Law_318 {l : Launch} {D : va_G} {cs : Nat → ClassId} {aS aV : Nat} {A : Nat → Prop} {K : KT} {ad : Nat → Nat} {nm : String} {out : Int × SS} (hout : out.1 = 1) {b L : Nat} {xs : Nat → Int32} (hL : L ≤ 3584) (h : w_Cl l room_1 D cs aS aV A cL_law 4 RL nm K) (hr : w_LR b L xs K) (hw : w_W0 138 (nlE 148)) (x3 : Int) (self18 : Int → SS → OO) (hself18 : ∀ (x3 : Int) (τ : SS), rI x3 → self18 x3 τ = some out → K ad 138 (nlE 148) 138 14691 18 [(0, .ref b), (1, .ref (ad 0)), (2, .ref (ad 86)), (3, .int (vI x3))] [] τ) (s0 : SS) (rx3 : rI x3) (hf : c_Law_318_f xs L self18 x3 s0 = some out) : K ad 138 (nlE 148) 138 14691 318 [(0, .ref b), (1, .ref (ad 0)), (2, .ref (ad 86)), (3, .int (vI x3))] [] s0 := by
  unfold c_Law_318_f at hf
  refine r_rS h (fun hs0 => ?_)
  refine r_aload_n h dL_law_318 rfl 1 rfl ?_
  refine r_aload_n h dL_law_319 rfl 0 rfl ?_
  refine r_iload_n h dL_law_320 rfl 3 rfl ?_
  refine r_iconst h dL_law_321 ?_
  refine r_iadd h dL_law_322 ?_
  obtain ⟨hi35, hf⟩ := oc_some hf
  refine hr.1 _ _ _ _ _ _ _ _ _ _ dL_law_323 (rI_iw _) hi35 ?_
  refine r_aload_n h dL_law_324 rfl 0 rfl ?_
  refine r_iload_n h dL_law_325 rfl 3 rfl ?_
  refine r_iconst h dL_law_326 ?_
  refine r_iadd h dL_law_327 ?_
  obtain ⟨hi36, hf⟩ := oc_some hf
  refine hr.1 _ _ _ _ _ _ _ _ _ _ dL_law_328 (rI_iw _) hi36 ?_
  obtain ⟨r37, s37, hq37, hf⟩ := ob_some hf
  refine r_callV1 h [.int (vI ((xs (iw (x3 + 1)).toNat).toInt)), .int (vI ((xs (iw (x3 + 2)).toNat).toInt))] dL_law_329 (fun hs => m_Qu_soul hw (by decide) (rI_to _) (rI_to _) hs hq37) ml_L_32 cv_Qu_soul rfl (co := 11) rfl (by decide) (by decide) rC_0 ⟨rfl, rfl⟩ ⟨Nat.le_of_ble_eq_true rfl, Nat.le_of_ble_eq_true rfl⟩ ⟨Nat.le_of_ble_eq_true rfl, Nat.le_of_ble_eq_true rfl⟩ (Nat.le_of_ble_eq_true rfl) rfl (fun hr37 hs37 => ?_)
  refine r_aload_n h dL_law_332 rfl 2 rfl ?_
  refine r_aload_n h dL_law_333 rfl 0 rfl ?_
  refine r_iload_n h dL_law_334 rfl 3 rfl ?_
  refine r_iconst h dL_law_335 ?_
  refine r_iadd h dL_law_336 ?_
  obtain ⟨hi38, hf⟩ := oc_some hf
  refine hr.1 _ _ _ _ _ _ _ _ _ _ dL_law_337 (rI_iw _) hi38 ?_
  refine r_aload_n h dL_law_338 rfl 0 rfl ?_
  refine r_iload_n h dL_law_339 rfl 3 rfl ?_
  refine r_iconst h dL_law_340 ?_
  refine r_iadd h dL_law_341 ?_
  obtain ⟨hi39, hf⟩ := oc_some hf
  refine hr.1 _ _ _ _ _ _ _ _ _ _ dL_law_342 (rI_iw _) hi39 ?_
  obtain ⟨r40, s40, hq40, hf⟩ := ob_some hf
  refine r_callV1 h [.int (vI ((xs (iw (x3 + 1)).toNat).toInt)), .int (vI ((xs (iw (x3 + 2)).toNat).toInt))] dL_law_343 (fun hs => m_Mo_soul hw.1 (by decide) (rI_to _) (rI_to _) hs hq40) ml_L_36 cv_Mo_soul rfl (co := 12) rfl (by decide) (by decide) rC_86 ⟨rfl, rfl⟩ ⟨Nat.le_of_ble_eq_true rfl, Nat.le_of_ble_eq_true rfl⟩ ⟨Nat.le_of_ble_eq_true rfl, Nat.le_of_ble_eq_true rfl⟩ (Nat.le_of_ble_eq_true rfl) rfl (fun hr40 hs40 => ?_)
  refine r_icmp_eq (tgt := 1386) h dL_law_346 (by decide) hr37 hr40 (fun hc41 => ?_) (fun hc41 => ?_)
  · have hf := ite_t hc41 hf
    refine r_iinc h [(3, .int (vI (iw (x3 + 7)))), (0, .ref b), (1, .ref (ad 0)), (2, .ref (ad 86))] dL_law_1386 3 rfl (by decide) rfl ?_
    refine r_goto (tgt := 18) h dL_law_1389 (by decide) ?_
    refine r_sub h [1, 2, 3, 0] rfl ?_
    exact hself18 (iw (x3 + 7)) s40 (rI_iw _) hf
  · have hf := ite_f hc41 hf
    refine r_iconst h dL_law_349 ?_
    cases hf
    exact absurd hout (by show ¬ (0 : Int) = 1; decide)
set_option maxRecDepth 20000 in
theorem c_Law_351 {l : Launch} {D : va_G} {cs : Nat → ClassId} {aS aV : Nat} {A : Nat → Prop} {K : KT} {ad : Nat → Nat} {nm : String} {out : Int × SS} (hout : out.1 = 1) {b L : Nat} {xs : Nat → Int32} (hL : L ≤ 3584) (h : w_Cl l room_1 D cs aS aV A cL_law 4 RL nm K) (hr : w_LR b L xs K) (hw : w_W0 138 (nlE 148)) (x3 : Int) (self18 : Int → SS → OO) (hself18 : ∀ (x3 : Int) (τ : SS), rI x3 → self18 x3 τ = some out → K ad 138 (nlE 148) 138 14691 18 [(0, .ref b), (1, .ref (ad 0)), (2, .ref (ad 86)), (3, .int (vI x3))] [] τ) (s0 : SS) (rx3 : rI x3) (hf : c_Law_351_f xs L self18 x3 s0 = some out) : K ad 138 (nlE 148) 138 14691 351 [(0, .ref b), (1, .ref (ad 0)), (2, .ref (ad 86)), (3, .int (vI x3))] [] s0 := by
  unfold c_Law_351_f at hf
  refine r_rS h (fun hs0 => ?_)
  refine r_aload_n h dL_law_351 rfl 1 rfl ?_
  refine r_aload_n h dL_law_352 rfl 0 rfl ?_
  refine r_iload_n h dL_law_353 rfl 3 rfl ?_
  refine r_iconst h dL_law_354 ?_
  refine r_iadd h dL_law_355 ?_
  obtain ⟨hi43, hf⟩ := oc_some hf
  refine hr.1 _ _ _ _ _ _ _ _ _ _ dL_law_356 (rI_iw _) hi43 ?_
  refine r_aload_n h dL_law_357 rfl 0 rfl ?_
  refine r_iload_n h dL_law_358 rfl 3 rfl ?_
  refine r_iconst h dL_law_359 ?_
  refine r_iadd h dL_law_360 ?_
  obtain ⟨hi44, hf⟩ := oc_some hf
  refine hr.1 _ _ _ _ _ _ _ _ _ _ dL_law_361 (rI_iw _) hi44 ?_
  obtain ⟨r45, s45, hq45, hf⟩ := ob_some hf
  refine r_callV1 h [.int (vI ((xs (iw (x3 + 1)).toNat).toInt)), .int (vI ((xs (iw (x3 + 2)).toNat).toInt))] dL_law_362 (fun hs => m_Qu_way hw (by decide) (rI_to _) (rI_to _) hs hq45) ml_L_37 cv_Qu_way rfl (co := 11) rfl (by decide) (by decide) rC_0 ⟨rfl, rfl⟩ ⟨Nat.le_of_ble_eq_true rfl, Nat.le_of_ble_eq_true rfl⟩ ⟨Nat.le_of_ble_eq_true rfl, Nat.le_of_ble_eq_true rfl⟩ (Nat.le_of_ble_eq_true rfl) rfl (fun hr45 hs45 => ?_)
  refine r_aload_n h dL_law_365 rfl 2 rfl ?_
  refine r_aload_n h dL_law_366 rfl 0 rfl ?_
  refine r_iload_n h dL_law_367 rfl 3 rfl ?_
  refine r_iconst h dL_law_368 ?_
  refine r_iadd h dL_law_369 ?_
  obtain ⟨hi46, hf⟩ := oc_some hf
  refine hr.1 _ _ _ _ _ _ _ _ _ _ dL_law_370 (rI_iw _) hi46 ?_
  refine r_aload_n h dL_law_371 rfl 0 rfl ?_
  refine r_iload_n h dL_law_372 rfl 3 rfl ?_
  refine r_iconst h dL_law_373 ?_
  refine r_iadd h dL_law_374 ?_
  obtain ⟨hi47, hf⟩ := oc_some hf
  refine hr.1 _ _ _ _ _ _ _ _ _ _ dL_law_375 (rI_iw _) hi47 ?_
  obtain ⟨r48, s48, hq48, hf⟩ := ob_some hf
  refine r_callV1 h [.int (vI ((xs (iw (x3 + 1)).toNat).toInt)), .int (vI ((xs (iw (x3 + 2)).toNat).toInt))] dL_law_376 (fun hs => m_Mo_way hw.1 (by decide) (rI_to _) (rI_to _) hs hq48) ml_L_40 cv_Mo_way rfl (co := 12) rfl (by decide) (by decide) rC_86 ⟨rfl, rfl⟩ ⟨Nat.le_of_ble_eq_true rfl, Nat.le_of_ble_eq_true rfl⟩ ⟨Nat.le_of_ble_eq_true rfl, Nat.le_of_ble_eq_true rfl⟩ (Nat.le_of_ble_eq_true rfl) rfl (fun hr48 hs48 => ?_)
  refine r_icmp_eq (tgt := 1386) h dL_law_379 (by decide) hr45 hr48 (fun hc49 => ?_) (fun hc49 => ?_)
  · have hf := ite_t hc49 hf
    refine r_iinc h [(3, .int (vI (iw (x3 + 7)))), (0, .ref b), (1, .ref (ad 0)), (2, .ref (ad 86))] dL_law_1386 3 rfl (by decide) rfl ?_
    refine r_goto (tgt := 18) h dL_law_1389 (by decide) ?_
    refine r_sub h [1, 2, 3, 0] rfl ?_
    exact hself18 (iw (x3 + 7)) s48 (rI_iw _) hf
  · have hf := ite_f hc49 hf
    refine r_iconst h dL_law_382 ?_
    cases hf
    exact absurd hout (by show ¬ (0 : Int) = 1; decide)
set_option maxRecDepth 20000 in
theorem c_Law_384 {l : Launch} {D : va_G} {cs : Nat → ClassId} {aS aV : Nat} {A : Nat → Prop} {K : KT} {ad : Nat → Nat} {nm : String} {out : Int × SS} (hout : out.1 = 1) {b L : Nat} {xs : Nat → Int32} (hL : L ≤ 3584) (h : w_Cl l room_1 D cs aS aV A cL_law 4 RL nm K) (hr : w_LR b L xs K) (hw : w_W0 138 (nlE 148)) (x3 : Int) (self18 : Int → SS → OO) (hself18 : ∀ (x3 : Int) (τ : SS), rI x3 → self18 x3 τ = some out → K ad 138 (nlE 148) 138 14691 18 [(0, .ref b), (1, .ref (ad 0)), (2, .ref (ad 86)), (3, .int (vI x3))] [] τ) (s0 : SS) (rx3 : rI x3) (hf : c_Law_384_f xs L self18 x3 s0 = some out) : K ad 138 (nlE 148) 138 14691 384 [(0, .ref b), (1, .ref (ad 0)), (2, .ref (ad 86)), (3, .int (vI x3))] [] s0 := by
  unfold c_Law_384_f at hf
  refine r_rS h (fun hs0 => ?_)
  refine r_aload_n h dL_law_384 rfl 1 rfl ?_
  refine r_aload_n h dL_law_385 rfl 0 rfl ?_
  refine r_iload_n h dL_law_386 rfl 3 rfl ?_
  refine r_iconst h dL_law_387 ?_
  refine r_iadd h dL_law_388 ?_
  obtain ⟨hi51, hf⟩ := oc_some hf
  refine hr.1 _ _ _ _ _ _ _ _ _ _ dL_law_389 (rI_iw _) hi51 ?_
  refine r_aload_n h dL_law_390 rfl 0 rfl ?_
  refine r_iload_n h dL_law_391 rfl 3 rfl ?_
  refine r_iconst h dL_law_392 ?_
  refine r_iadd h dL_law_393 ?_
  obtain ⟨hi52, hf⟩ := oc_some hf
  refine hr.1 _ _ _ _ _ _ _ _ _ _ dL_law_394 (rI_iw _) hi52 ?_
  refine r_aload_n h dL_law_395 rfl 0 rfl ?_
  refine r_iload_n h dL_law_396 rfl 3 rfl ?_
  refine r_iconst h dL_law_397 ?_
  refine r_iadd h dL_law_398 ?_
  obtain ⟨hi53, hf⟩ := oc_some hf
  refine hr.1 _ _ _ _ _ _ _ _ _ _ dL_law_399 (rI_iw _) hi53 ?_
  obtain ⟨r54, s54, hq54, hf⟩ := ob_some hf
  refine r_callV1 h [.int (vI ((xs (iw (x3 + 1)).toNat).toInt)), .int (vI ((xs (iw (x3 + 2)).toNat).toInt)), .int (vI ((xs (iw (x3 + 3)).toNat).toInt))] dL_law_400 (fun hs => m_Qu_quarrel hw (by decide) (rI_to _) (rI_to _) (rI_to _) hs hq54) ml_L_41 cv_Qu_quarrel rfl (co := 11) rfl (by decide) (by decide) rC_0 ⟨rfl, rfl⟩ ⟨Nat.le_of_ble_eq_true rfl, Nat.le_of_ble_eq_true rfl⟩ ⟨Nat.le_of_ble_eq_true rfl, Nat.le_of_ble_eq_true rfl⟩ (Nat.le_of_ble_eq_true rfl) rfl (fun hr54 hs54 => ?_)
  refine r_aload_n h dL_law_403 rfl 2 rfl ?_
  refine r_aload_n h dL_law_404 rfl 0 rfl ?_
  refine r_iload_n h dL_law_405 rfl 3 rfl ?_
  refine r_iconst h dL_law_406 ?_
  refine r_iadd h dL_law_407 ?_
  obtain ⟨hi55, hf⟩ := oc_some hf
  refine hr.1 _ _ _ _ _ _ _ _ _ _ dL_law_408 (rI_iw _) hi55 ?_
  refine r_aload_n h dL_law_409 rfl 0 rfl ?_
  refine r_iload_n h dL_law_410 rfl 3 rfl ?_
  refine r_iconst h dL_law_411 ?_
  refine r_iadd h dL_law_412 ?_
  obtain ⟨hi56, hf⟩ := oc_some hf
  refine hr.1 _ _ _ _ _ _ _ _ _ _ dL_law_413 (rI_iw _) hi56 ?_
  refine r_aload_n h dL_law_414 rfl 0 rfl ?_
  refine r_iload_n h dL_law_415 rfl 3 rfl ?_
  refine r_iconst h dL_law_416 ?_
  refine r_iadd h dL_law_417 ?_
  obtain ⟨hi57, hf⟩ := oc_some hf
  refine hr.1 _ _ _ _ _ _ _ _ _ _ dL_law_418 (rI_iw _) hi57 ?_
  obtain ⟨r58, s58, hq58, hf⟩ := ob_some hf
  refine r_callV1 h [.int (vI ((xs (iw (x3 + 1)).toNat).toInt)), .int (vI ((xs (iw (x3 + 2)).toNat).toInt)), .int (vI ((xs (iw (x3 + 3)).toNat).toInt))] dL_law_419 (fun hs => m_Mo_quarrel hw.1 (by decide) (rI_to _) (rI_to _) (rI_to _) hs hq58) ml_L_45 cv_Mo_quarrel rfl (co := 12) rfl (by decide) (by decide) rC_86 ⟨rfl, rfl⟩ ⟨Nat.le_of_ble_eq_true rfl, Nat.le_of_ble_eq_true rfl⟩ ⟨Nat.le_of_ble_eq_true rfl, Nat.le_of_ble_eq_true rfl⟩ (Nat.le_of_ble_eq_true rfl) rfl (fun hr58 hs58 => ?_)
  refine r_icmp_eq (tgt := 1386) h dL_law_422 (by decide) hr54 hr58 (fun hc59 => ?_) (fun hc59 => ?_)
  · have hf := ite_t hc59 hf
    refine r_iinc h [(3, .int (vI (iw (x3 + 7)))), (0, .ref b), (1, .ref (ad 0)), (2, .ref (ad 86))] dL_law_1386 3 rfl (by decide) rfl ?_
    refine r_goto (tgt := 18) h dL_law_1389 (by decide) ?_
    refine r_sub h [1, 2, 3, 0] rfl ?_
    exact hself18 (iw (x3 + 7)) s58 (rI_iw _) hf
  · have hf := ite_f hc59 hf
    refine r_iconst h dL_law_425 ?_
    cases hf
    exact absurd hout (by show ¬ (0 : Int) = 1; decide)
set_option maxRecDepth 20000 in
theorem c_Law_427 {l : Launch} {D : va_G} {cs : Nat → ClassId} {aS aV : Nat} {A : Nat → Prop} {K : KT} {ad : Nat → Nat} {nm : String} {out : Int × SS} (hout : out.1 = 1) {b L : Nat} {xs : Nat → Int32} (hL : L ≤ 3584) (h : w_Cl l room_1 D cs aS aV A cL_law 4 RL nm K) (hr : w_LR b L xs K) (hw : w_W0 138 (nlE 148)) (x3 : Int) (self18 : Int → SS → OO) (hself18 : ∀ (x3 : Int) (τ : SS), rI x3 → self18 x3 τ = some out → K ad 138 (nlE 148) 138 14691 18 [(0, .ref b), (1, .ref (ad 0)), (2, .ref (ad 86)), (3, .int (vI x3))] [] τ) (s0 : SS) (rx3 : rI x3) (hf : c_Law_427_f xs L self18 x3 s0 = some out) : K ad 138 (nlE 148) 138 14691 427 [(0, .ref b), (1, .ref (ad 0)), (2, .ref (ad 86)), (3, .int (vI x3))] [] s0 := by
  unfold c_Law_427_f at hf
  refine r_rS h (fun hs0 => ?_)
  refine r_aload_n h dL_law_427 rfl 1 rfl ?_
  refine r_aload_n h dL_law_428 rfl 0 rfl ?_
  refine r_iload_n h dL_law_429 rfl 3 rfl ?_
  refine r_iconst h dL_law_430 ?_
  refine r_iadd h dL_law_431 ?_
  obtain ⟨hi61, hf⟩ := oc_some hf
  refine hr.1 _ _ _ _ _ _ _ _ _ _ dL_law_432 (rI_iw _) hi61 ?_
  refine r_aload_n h dL_law_433 rfl 0 rfl ?_
  refine r_iload_n h dL_law_434 rfl 3 rfl ?_
  refine r_iconst h dL_law_435 ?_
  refine r_iadd h dL_law_436 ?_
  obtain ⟨hi62, hf⟩ := oc_some hf
  refine hr.1 _ _ _ _ _ _ _ _ _ _ dL_law_437 (rI_iw _) hi62 ?_
  refine r_aload_n h dL_law_438 rfl 0 rfl ?_
  refine r_iload_n h dL_law_439 rfl 3 rfl ?_
  refine r_iconst h dL_law_440 ?_
  refine r_iadd h dL_law_441 ?_
  obtain ⟨hi63, hf⟩ := oc_some hf
  refine hr.1 _ _ _ _ _ _ _ _ _ _ dL_law_442 (rI_iw _) hi63 ?_
  refine r_aload_n h dL_law_443 rfl 0 rfl ?_
  refine r_iload_n h dL_law_444 rfl 3 rfl ?_
  refine r_iconst h dL_law_445 ?_
  refine r_iadd h dL_law_446 ?_
  obtain ⟨hi64, hf⟩ := oc_some hf
  refine hr.1 _ _ _ _ _ _ _ _ _ _ dL_law_447 (rI_iw _) hi64 ?_
  obtain ⟨r65, s65, hq65, hf⟩ := ob_some hf
  refine r_callV1 h [.int (vI ((xs (iw (x3 + 1)).toNat).toInt)), .int (vI ((xs (iw (x3 + 2)).toNat).toInt)), .int (vI ((xs (iw (x3 + 3)).toNat).toInt)), .int (vI ((xs (iw (x3 + 4)).toNat).toInt))] dL_law_448 (fun hs => m_Qu_heat hw (by decide) (rI_to _) (rI_to _) (rI_to _) (rI_to _) hs hq65) ml_L_46 cv_Qu_heat rfl (co := 11) rfl (by decide) (by decide) rC_0 ⟨rfl, rfl⟩ ⟨Nat.le_of_ble_eq_true rfl, Nat.le_of_ble_eq_true rfl⟩ ⟨Nat.le_of_ble_eq_true rfl, Nat.le_of_ble_eq_true rfl⟩ (Nat.le_of_ble_eq_true rfl) rfl (fun hr65 hs65 => ?_)
  refine r_aload_n h dL_law_451 rfl 2 rfl ?_
  refine r_aload_n h dL_law_452 rfl 0 rfl ?_
  refine r_iload_n h dL_law_453 rfl 3 rfl ?_
  refine r_iconst h dL_law_454 ?_
  refine r_iadd h dL_law_455 ?_
  obtain ⟨hi66, hf⟩ := oc_some hf
  refine hr.1 _ _ _ _ _ _ _ _ _ _ dL_law_456 (rI_iw _) hi66 ?_
  refine r_aload_n h dL_law_457 rfl 0 rfl ?_
  refine r_iload_n h dL_law_458 rfl 3 rfl ?_
  refine r_iconst h dL_law_459 ?_
  refine r_iadd h dL_law_460 ?_
  obtain ⟨hi67, hf⟩ := oc_some hf
  refine hr.1 _ _ _ _ _ _ _ _ _ _ dL_law_461 (rI_iw _) hi67 ?_
  refine r_aload_n h dL_law_462 rfl 0 rfl ?_
  refine r_iload_n h dL_law_463 rfl 3 rfl ?_
  refine r_iconst h dL_law_464 ?_
  refine r_iadd h dL_law_465 ?_
  obtain ⟨hi68, hf⟩ := oc_some hf
  refine hr.1 _ _ _ _ _ _ _ _ _ _ dL_law_466 (rI_iw _) hi68 ?_
  refine r_aload_n h dL_law_467 rfl 0 rfl ?_
  refine r_iload_n h dL_law_468 rfl 3 rfl ?_
  refine r_iconst h dL_law_469 ?_
  refine r_iadd h dL_law_470 ?_
  obtain ⟨hi69, hf⟩ := oc_some hf
  refine hr.1 _ _ _ _ _ _ _ _ _ _ dL_law_471 (rI_iw _) hi69 ?_
  obtain ⟨r70, s70, hq70, hf⟩ := ob_some hf
  refine r_callV1 h [.int (vI ((xs (iw (x3 + 1)).toNat).toInt)), .int (vI ((xs (iw (x3 + 2)).toNat).toInt)), .int (vI ((xs (iw (x3 + 3)).toNat).toInt)), .int (vI ((xs (iw (x3 + 4)).toNat).toInt))] dL_law_472 (fun hs => m_Mo_heat hw.1 (by decide) (rI_to _) (rI_to _) (rI_to _) (rI_to _) hs hq70) ml_L_50 cv_Mo_heat rfl (co := 12) rfl (by decide) (by decide) rC_86 ⟨rfl, rfl⟩ ⟨Nat.le_of_ble_eq_true rfl, Nat.le_of_ble_eq_true rfl⟩ ⟨Nat.le_of_ble_eq_true rfl, Nat.le_of_ble_eq_true rfl⟩ (Nat.le_of_ble_eq_true rfl) rfl (fun hr70 hs70 => ?_)
  refine r_icmp_eq (tgt := 1386) h dL_law_475 (by decide) hr65 hr70 (fun hc71 => ?_) (fun hc71 => ?_)
  · have hf := ite_t hc71 hf
    refine r_iinc h [(3, .int (vI (iw (x3 + 7)))), (0, .ref b), (1, .ref (ad 0)), (2, .ref (ad 86))] dL_law_1386 3 rfl (by decide) rfl ?_
    refine r_goto (tgt := 18) h dL_law_1389 (by decide) ?_
    refine r_sub h [1, 2, 3, 0] rfl ?_
    exact hself18 (iw (x3 + 7)) s70 (rI_iw _) hf
  · have hf := ite_f hc71 hf
    refine r_iconst h dL_law_478 ?_
    cases hf
    exact absurd hout (by show ¬ (0 : Int) = 1; decide)
set_option maxRecDepth 20000 in
theorem c_Law_480 {l : Launch} {D : va_G} {cs : Nat → ClassId} {aS aV : Nat} {A : Nat → Prop} {K : KT} {ad : Nat → Nat} {nm : String} {out : Int × SS} (hout : out.1 = 1) {b L : Nat} {xs : Nat → Int32} (hL : L ≤ 3584) (h : w_Cl l room_1 D cs aS aV A cL_law 4 RL nm K) (hr : w_LR b L xs K) (hw : w_W0 138 (nlE 148)) (x3 : Int) (self18 : Int → SS → OO) (hself18 : ∀ (x3 : Int) (τ : SS), rI x3 → self18 x3 τ = some out → K ad 138 (nlE 148) 138 14691 18 [(0, .ref b), (1, .ref (ad 0)), (2, .ref (ad 86)), (3, .int (vI x3))] [] τ) (s0 : SS) (rx3 : rI x3) (hf : c_Law_480_f xs L self18 x3 s0 = some out) : K ad 138 (nlE 148) 138 14691 480 [(0, .ref b), (1, .ref (ad 0)), (2, .ref (ad 86)), (3, .int (vI x3))] [] s0 := by
  unfold c_Law_480_f at hf
  refine r_rS h (fun hs0 => ?_)
  refine r_aload_n h dL_law_480 rfl 1 rfl ?_
  refine r_aload_n h dL_law_481 rfl 0 rfl ?_
  refine r_iload_n h dL_law_482 rfl 3 rfl ?_
  refine r_iconst h dL_law_483 ?_
  refine r_iadd h dL_law_484 ?_
  obtain ⟨hi73, hf⟩ := oc_some hf
  refine hr.1 _ _ _ _ _ _ _ _ _ _ dL_law_485 (rI_iw _) hi73 ?_
  refine r_aload_n h dL_law_486 rfl 0 rfl ?_
  refine r_iload_n h dL_law_487 rfl 3 rfl ?_
  refine r_iconst h dL_law_488 ?_
  refine r_iadd h dL_law_489 ?_
  obtain ⟨hi74, hf⟩ := oc_some hf
  refine hr.1 _ _ _ _ _ _ _ _ _ _ dL_law_490 (rI_iw _) hi74 ?_
  refine r_aload_n h dL_law_491 rfl 0 rfl ?_
  refine r_iload_n h dL_law_492 rfl 3 rfl ?_
  refine r_iconst h dL_law_493 ?_
  refine r_iadd h dL_law_494 ?_
  obtain ⟨hi75, hf⟩ := oc_some hf
  refine hr.1 _ _ _ _ _ _ _ _ _ _ dL_law_495 (rI_iw _) hi75 ?_
  refine r_aload_n h dL_law_496 rfl 0 rfl ?_
  refine r_iload_n h dL_law_497 rfl 3 rfl ?_
  refine r_iconst h dL_law_498 ?_
  refine r_iadd h dL_law_499 ?_
  obtain ⟨hi76, hf⟩ := oc_some hf
  refine hr.1 _ _ _ _ _ _ _ _ _ _ dL_law_500 (rI_iw _) hi76 ?_
  obtain ⟨r77, s77, hq77, hf⟩ := ob_some hf
  refine r_callV1 h [.int (vI ((xs (iw (x3 + 1)).toNat).toInt)), .int (vI ((xs (iw (x3 + 2)).toNat).toInt)), .int (vI ((xs (iw (x3 + 3)).toNat).toInt)), .int (vI ((xs (iw (x3 + 4)).toNat).toInt))] dL_law_501 (fun hs => m_Qu_setOut hw (by decide) (rI_to _) (rI_to _) (rI_to _) (rI_to _) hs hq77) ml_L_51 cv_Qu_setOut rfl (co := 11) rfl (by decide) (by decide) rC_0 ⟨rfl, rfl⟩ ⟨Nat.le_of_ble_eq_true rfl, Nat.le_of_ble_eq_true rfl⟩ ⟨Nat.le_of_ble_eq_true rfl, Nat.le_of_ble_eq_true rfl⟩ (Nat.le_of_ble_eq_true rfl) rfl (fun hr77 hs77 => ?_)
  refine r_aload_n h dL_law_504 rfl 2 rfl ?_
  refine r_aload_n h dL_law_505 rfl 0 rfl ?_
  refine r_iload_n h dL_law_506 rfl 3 rfl ?_
  refine r_iconst h dL_law_507 ?_
  refine r_iadd h dL_law_508 ?_
  obtain ⟨hi78, hf⟩ := oc_some hf
  refine hr.1 _ _ _ _ _ _ _ _ _ _ dL_law_509 (rI_iw _) hi78 ?_
  refine r_aload_n h dL_law_510 rfl 0 rfl ?_
  refine r_iload_n h dL_law_511 rfl 3 rfl ?_
  refine r_iconst h dL_law_512 ?_
  refine r_iadd h dL_law_513 ?_
  obtain ⟨hi79, hf⟩ := oc_some hf
  refine hr.1 _ _ _ _ _ _ _ _ _ _ dL_law_514 (rI_iw _) hi79 ?_
  refine r_aload_n h dL_law_515 rfl 0 rfl ?_
  refine r_iload_n h dL_law_516 rfl 3 rfl ?_
  refine r_iconst h dL_law_517 ?_
  refine r_iadd h dL_law_518 ?_
  obtain ⟨hi80, hf⟩ := oc_some hf
  refine hr.1 _ _ _ _ _ _ _ _ _ _ dL_law_519 (rI_iw _) hi80 ?_
  refine r_aload_n h dL_law_520 rfl 0 rfl ?_
  refine r_iload_n h dL_law_521 rfl 3 rfl ?_
  refine r_iconst h dL_law_522 ?_
  refine r_iadd h dL_law_523 ?_
  obtain ⟨hi81, hf⟩ := oc_some hf
  refine hr.1 _ _ _ _ _ _ _ _ _ _ dL_law_524 (rI_iw _) hi81 ?_
  obtain ⟨r82, s82, hq82, hf⟩ := ob_some hf
  refine r_callV1 h [.int (vI ((xs (iw (x3 + 1)).toNat).toInt)), .int (vI ((xs (iw (x3 + 2)).toNat).toInt)), .int (vI ((xs (iw (x3 + 3)).toNat).toInt)), .int (vI ((xs (iw (x3 + 4)).toNat).toInt))] dL_law_525 (fun hs => m_Mo_setOut hw.1 (by decide) (rI_to _) (rI_to _) (rI_to _) (rI_to _) hs hq82) ml_L_54 cv_Mo_setOut rfl (co := 12) rfl (by decide) (by decide) rC_86 ⟨rfl, rfl⟩ ⟨Nat.le_of_ble_eq_true rfl, Nat.le_of_ble_eq_true rfl⟩ ⟨Nat.le_of_ble_eq_true rfl, Nat.le_of_ble_eq_true rfl⟩ (Nat.le_of_ble_eq_true rfl) rfl (fun hr82 hs82 => ?_)
  refine r_icmp_eq (tgt := 1386) h dL_law_528 (by decide) hr77 hr82 (fun hc83 => ?_) (fun hc83 => ?_)
  · have hf := ite_t hc83 hf
    refine r_iinc h [(3, .int (vI (iw (x3 + 7)))), (0, .ref b), (1, .ref (ad 0)), (2, .ref (ad 86))] dL_law_1386 3 rfl (by decide) rfl ?_
    refine r_goto (tgt := 18) h dL_law_1389 (by decide) ?_
    refine r_sub h [1, 2, 3, 0] rfl ?_
    exact hself18 (iw (x3 + 7)) s82 (rI_iw _) hf
  · have hf := ite_f hc83 hf
    refine r_iconst h dL_law_531 ?_
    cases hf
    exact absurd hout (by show ¬ (0 : Int) = 1; decide)
set_option maxRecDepth 20000 in
theorem c_Law_533 {l : Launch} {D : va_G} {cs : Nat → ClassId} {aS aV : Nat} {A : Nat → Prop} {K : KT} {ad : Nat → Nat} {nm : String} {out : Int × SS} (hout : out.1 = 1) {b L : Nat} {xs : Nat → Int32} (hL : L ≤ 3584) (h : w_Cl l room_1 D cs aS aV A cL_law 4 RL nm K) (hr : w_LR b L xs K) (hw : w_W0 138 (nlE 148)) (x3 : Int) (self18 : Int → SS → OO) (hself18 : ∀ (x3 : Int) (τ : SS), rI x3 → self18 x3 τ = some out → K ad 138 (nlE 148) 138 14691 18 [(0, .ref b), (1, .ref (ad 0)), (2, .ref (ad 86)), (3, .int (vI x3))] [] τ) (s0 : SS) (rx3 : rI x3) (hf : c_Law_533_f xs L self18 x3 s0 = some out) : K ad 138 (nlE 148) 138 14691 533 [(0, .ref b), (1, .ref (ad 0)), (2, .ref (ad 86)), (3, .int (vI x3))] [] s0 := by
  unfold c_Law_533_f at hf
  refine r_rS h (fun hs0 => ?_)
  refine r_aload_n h dL_law_533 rfl 1 rfl ?_
  refine r_aload_n h dL_law_534 rfl 0 rfl ?_
  refine r_iload_n h dL_law_535 rfl 3 rfl ?_
  refine r_iconst h dL_law_536 ?_
  refine r_iadd h dL_law_537 ?_
  obtain ⟨hi85, hf⟩ := oc_some hf
  refine hr.1 _ _ _ _ _ _ _ _ _ _ dL_law_538 (rI_iw _) hi85 ?_
  obtain ⟨r86, s86, hq86, hf⟩ := ob_some hf
  refine r_callV1 h [.int (vI ((xs (iw (x3 + 1)).toNat).toInt))] dL_law_539 (fun hs => m_Qu_take hw (by decide) (rI_to _) hs hq86) ml_L_55 cv_Qu_take rfl (co := 11) rfl (by decide) (by decide) rC_0 ⟨rfl, rfl⟩ ⟨Nat.le_of_ble_eq_true rfl, Nat.le_of_ble_eq_true rfl⟩ ⟨Nat.le_of_ble_eq_true rfl, Nat.le_of_ble_eq_true rfl⟩ (Nat.le_of_ble_eq_true rfl) rfl (fun hr86 hs86 => ?_)
  refine r_aload_n h dL_law_542 rfl 2 rfl ?_
  refine r_aload_n h dL_law_543 rfl 0 rfl ?_
  refine r_iload_n h dL_law_544 rfl 3 rfl ?_
  refine r_iconst h dL_law_545 ?_
  refine r_iadd h dL_law_546 ?_
  obtain ⟨hi87, hf⟩ := oc_some hf
  refine hr.1 _ _ _ _ _ _ _ _ _ _ dL_law_547 (rI_iw _) hi87 ?_
  obtain ⟨r88, s88, hq88, hf⟩ := ob_some hf
  refine r_callV1 h [.int (vI ((xs (iw (x3 + 1)).toNat).toInt))] dL_law_548 (fun hs => m_Mo_take hw.1 (by decide) (rI_to _) hs hq88) ml_L_58 cv_Mo_take rfl (co := 12) rfl (by decide) (by decide) rC_86 ⟨rfl, rfl⟩ ⟨Nat.le_of_ble_eq_true rfl, Nat.le_of_ble_eq_true rfl⟩ ⟨Nat.le_of_ble_eq_true rfl, Nat.le_of_ble_eq_true rfl⟩ (Nat.le_of_ble_eq_true rfl) rfl (fun hr88 hs88 => ?_)
  refine r_icmp_eq (tgt := 1386) h dL_law_551 (by decide) hr86 hr88 (fun hc89 => ?_) (fun hc89 => ?_)
  · have hf := ite_t hc89 hf
    refine r_iinc h [(3, .int (vI (iw (x3 + 7)))), (0, .ref b), (1, .ref (ad 0)), (2, .ref (ad 86))] dL_law_1386 3 rfl (by decide) rfl ?_
    refine r_goto (tgt := 18) h dL_law_1389 (by decide) ?_
    refine r_sub h [1, 2, 3, 0] rfl ?_
    exact hself18 (iw (x3 + 7)) s88 (rI_iw _) hf
  · have hf := ite_f hc89 hf
    refine r_iconst h dL_law_554 ?_
    cases hf
    exact absurd hout (by show ¬ (0 : Int) = 1; decide)
set_option maxRecDepth 20000 in
theorem c_Law_556 {l : Launch} {D : va_G} {cs : Nat → ClassId} {aS aV : Nat} {A : Nat → Prop} {K : KT} {ad : Nat → Nat} {nm : String} {out : Int × SS} (hout : out.1 = 1) {b L : Nat} {xs : Nat → Int32} (hL : L ≤ 3584) (h : w_Cl l room_1 D cs aS aV A cL_law 4 RL nm K) (hr : w_LR b L xs K) (hw : w_W0 138 (nlE 148)) (x3 : Int) (self18 : Int → SS → OO) (hself18 : ∀ (x3 : Int) (τ : SS), rI x3 → self18 x3 τ = some out → K ad 138 (nlE 148) 138 14691 18 [(0, .ref b), (1, .ref (ad 0)), (2, .ref (ad 86)), (3, .int (vI x3))] [] τ) (s0 : SS) (rx3 : rI x3) (hf : c_Law_556_f xs L self18 x3 s0 = some out) : K ad 138 (nlE 148) 138 14691 556 [(0, .ref b), (1, .ref (ad 0)), (2, .ref (ad 86)), (3, .int (vI x3))] [] s0 := by
  unfold c_Law_556_f at hf
  refine r_rS h (fun hs0 => ?_)
  refine r_aload_n h dL_law_556 rfl 1 rfl ?_
  refine r_aload_n h dL_law_557 rfl 0 rfl ?_
  refine r_iload_n h dL_law_558 rfl 3 rfl ?_
  refine r_iconst h dL_law_559 ?_
  refine r_iadd h dL_law_560 ?_
  obtain ⟨hi91, hf⟩ := oc_some hf
  refine hr.1 _ _ _ _ _ _ _ _ _ _ dL_law_561 (rI_iw _) hi91 ?_
  obtain ⟨r92, s92, hq92, hf⟩ := ob_some hf
  refine r_callV1 h [.int (vI ((xs (iw (x3 + 1)).toNat).toInt))] dL_law_562 (fun hs => m_Qu_words hw (by decide) (rI_to _) hs hq92) ml_L_59 cv_Qu_words rfl (co := 11) rfl (by decide) (by decide) rC_0 ⟨rfl, rfl⟩ ⟨Nat.le_of_ble_eq_true rfl, Nat.le_of_ble_eq_true rfl⟩ ⟨Nat.le_of_ble_eq_true rfl, Nat.le_of_ble_eq_true rfl⟩ (Nat.le_of_ble_eq_true rfl) rfl (fun hr92 hs92 => ?_)
  refine r_aload_n h dL_law_565 rfl 2 rfl ?_
  refine r_aload_n h dL_law_566 rfl 0 rfl ?_
  refine r_iload_n h dL_law_567 rfl 3 rfl ?_
  refine r_iconst h dL_law_568 ?_
  refine r_iadd h dL_law_569 ?_
  obtain ⟨hi93, hf⟩ := oc_some hf
  refine hr.1 _ _ _ _ _ _ _ _ _ _ dL_law_570 (rI_iw _) hi93 ?_
  obtain ⟨r94, s94, hq94, hf⟩ := ob_some hf
  refine r_callV1 h [.int (vI ((xs (iw (x3 + 1)).toNat).toInt))] dL_law_571 (fun hs => m_Mo_words hw.1 (by decide) (rI_to _) hs hq94) ml_L_62 cv_Mo_words rfl (co := 12) rfl (by decide) (by decide) rC_86 ⟨rfl, rfl⟩ ⟨Nat.le_of_ble_eq_true rfl, Nat.le_of_ble_eq_true rfl⟩ ⟨Nat.le_of_ble_eq_true rfl, Nat.le_of_ble_eq_true rfl⟩ (Nat.le_of_ble_eq_true rfl) rfl (fun hr94 hs94 => ?_)
  refine r_icmp_eq (tgt := 1386) h dL_law_574 (by decide) hr92 hr94 (fun hc95 => ?_) (fun hc95 => ?_)
  · have hf := ite_t hc95 hf
    refine r_iinc h [(3, .int (vI (iw (x3 + 7)))), (0, .ref b), (1, .ref (ad 0)), (2, .ref (ad 86))] dL_law_1386 3 rfl (by decide) rfl ?_
    refine r_goto (tgt := 18) h dL_law_1389 (by decide) ?_
    refine r_sub h [1, 2, 3, 0] rfl ?_
    exact hself18 (iw (x3 + 7)) s94 (rI_iw _) hf
  · have hf := ite_f hc95 hf
    refine r_iconst h dL_law_577 ?_
    cases hf
    exact absurd hout (by show ¬ (0 : Int) = 1; decide)
set_option maxRecDepth 20000 in
theorem c_Law_579 {l : Launch} {D : va_G} {cs : Nat → ClassId} {aS aV : Nat} {A : Nat → Prop} {K : KT} {ad : Nat → Nat} {nm : String} {out : Int × SS} (hout : out.1 = 1) {b L : Nat} {xs : Nat → Int32} (hL : L ≤ 3584) (h : w_Cl l room_1 D cs aS aV A cL_law 4 RL nm K) (hr : w_LR b L xs K) (hw : w_W0 138 (nlE 148)) (x3 : Int) (self18 : Int → SS → OO) (hself18 : ∀ (x3 : Int) (τ : SS), rI x3 → self18 x3 τ = some out → K ad 138 (nlE 148) 138 14691 18 [(0, .ref b), (1, .ref (ad 0)), (2, .ref (ad 86)), (3, .int (vI x3))] [] τ) (s0 : SS) (rx3 : rI x3) (hf : c_Law_579_f xs L self18 x3 s0 = some out) : K ad 138 (nlE 148) 138 14691 579 [(0, .ref b), (1, .ref (ad 0)), (2, .ref (ad 86)), (3, .int (vI x3))] [] s0 := by
  unfold c_Law_579_f at hf
  refine r_rS h (fun hs0 => ?_)
  refine r_aload_n h dL_law_579 rfl 1 rfl ?_
  obtain ⟨r97, s97, hq97, hf⟩ := ob_some hf
  refine r_callV1 h [] dL_law_580 (fun hs => m_Qu_year hw (by decide) hs hq97) ml_L_63 cv_Qu_year rfl (co := 11) rfl (by decide) (by decide) rC_0 ⟨rfl, rfl⟩ ⟨Nat.le_of_ble_eq_true rfl, Nat.le_of_ble_eq_true rfl⟩ ⟨Nat.le_of_ble_eq_true rfl, Nat.le_of_ble_eq_true rfl⟩ (Nat.le_of_ble_eq_true rfl) rfl (fun hr97 hs97 => ?_)
  refine r_aload_n h dL_law_583 rfl 2 rfl ?_
  obtain ⟨r98, s98, hq98, hf⟩ := ob_some hf
  refine r_callV1 h [] dL_law_584 (fun hs => m_Mo_year hw.1 (by decide) hs hq98) ml_L_66 cv_Mo_year rfl (co := 12) rfl (by decide) (by decide) rC_86 ⟨rfl, rfl⟩ ⟨Nat.le_of_ble_eq_true rfl, Nat.le_of_ble_eq_true rfl⟩ ⟨Nat.le_of_ble_eq_true rfl, Nat.le_of_ble_eq_true rfl⟩ (Nat.le_of_ble_eq_true rfl) rfl (fun hr98 hs98 => ?_)
  refine r_icmp_eq (tgt := 1386) h dL_law_587 (by decide) hr97 hr98 (fun hc99 => ?_) (fun hc99 => ?_)
  · have hf := ite_t hc99 hf
    refine r_iinc h [(3, .int (vI (iw (x3 + 7)))), (0, .ref b), (1, .ref (ad 0)), (2, .ref (ad 86))] dL_law_1386 3 rfl (by decide) rfl ?_
    refine r_goto (tgt := 18) h dL_law_1389 (by decide) ?_
    refine r_sub h [1, 2, 3, 0] rfl ?_
    exact hself18 (iw (x3 + 7)) s98 (rI_iw _) hf
  · have hf := ite_f hc99 hf
    refine r_iconst h dL_law_590 ?_
    cases hf
    exact absurd hout (by show ¬ (0 : Int) = 1; decide)
set_option maxRecDepth 20000 in
theorem c_Law_592 {l : Launch} {D : va_G} {cs : Nat → ClassId} {aS aV : Nat} {A : Nat → Prop} {K : KT} {ad : Nat → Nat} {nm : String} {out : Int × SS} (hout : out.1 = 1) {b L : Nat} {xs : Nat → Int32} (hL : L ≤ 3584) (h : w_Cl l room_1 D cs aS aV A cL_law 4 RL nm K) (hr : w_LR b L xs K) (hw : w_W0 138 (nlE 148)) (x3 : Int) (self18 : Int → SS → OO) (hself18 : ∀ (x3 : Int) (τ : SS), rI x3 → self18 x3 τ = some out → K ad 138 (nlE 148) 138 14691 18 [(0, .ref b), (1, .ref (ad 0)), (2, .ref (ad 86)), (3, .int (vI x3))] [] τ) (s0 : SS) (rx3 : rI x3) (hf : c_Law_592_f xs L self18 x3 s0 = some out) : K ad 138 (nlE 148) 138 14691 592 [(0, .ref b), (1, .ref (ad 0)), (2, .ref (ad 86)), (3, .int (vI x3))] [] s0 := by
  unfold c_Law_592_f at hf
  refine r_rS h (fun hs0 => ?_)
  refine r_aload_n h dL_law_592 rfl 1 rfl ?_
  refine r_aload_n h dL_law_593 rfl 0 rfl ?_
  refine r_iload_n h dL_law_594 rfl 3 rfl ?_
  refine r_iconst h dL_law_595 ?_
  refine r_iadd h dL_law_596 ?_
  obtain ⟨hi101, hf⟩ := oc_some hf
  refine hr.1 _ _ _ _ _ _ _ _ _ _ dL_law_597 (rI_iw _) hi101 ?_
  obtain ⟨r102, s102, hq102, hf⟩ := ob_some hf
  refine r_callV1 h [.int (vI ((xs (iw (x3 + 1)).toNat).toInt))] dL_law_598 (fun hs => m_Qu_walk hw (by decide) (rI_to _) hs hq102) ml_L_67 cv_Qu_walk rfl (co := 11) rfl (by decide) (by decide) rC_0 ⟨rfl, rfl⟩ ⟨Nat.le_of_ble_eq_true rfl, Nat.le_of_ble_eq_true rfl⟩ ⟨Nat.le_of_ble_eq_true rfl, Nat.le_of_ble_eq_true rfl⟩ (Nat.le_of_ble_eq_true rfl) rfl (fun hr102 hs102 => ?_)
  refine r_aload_n h dL_law_601 rfl 2 rfl ?_
  refine r_aload_n h dL_law_602 rfl 0 rfl ?_
  refine r_iload_n h dL_law_603 rfl 3 rfl ?_
  refine r_iconst h dL_law_604 ?_
  refine r_iadd h dL_law_605 ?_
  obtain ⟨hi103, hf⟩ := oc_some hf
  refine hr.1 _ _ _ _ _ _ _ _ _ _ dL_law_606 (rI_iw _) hi103 ?_
  obtain ⟨r104, s104, hq104, hf⟩ := ob_some hf
  refine r_callV1 h [.int (vI ((xs (iw (x3 + 1)).toNat).toInt))] dL_law_607 (fun hs => m_Mo_walk hw.1 (by decide) (rI_to _) hs hq104) ml_L_70 cv_Mo_walk rfl (co := 12) rfl (by decide) (by decide) rC_86 ⟨rfl, rfl⟩ ⟨Nat.le_of_ble_eq_true rfl, Nat.le_of_ble_eq_true rfl⟩ ⟨Nat.le_of_ble_eq_true rfl, Nat.le_of_ble_eq_true rfl⟩ (Nat.le_of_ble_eq_true rfl) rfl (fun hr104 hs104 => ?_)
  refine r_icmp_eq (tgt := 1386) h dL_law_610 (by decide) hr102 hr104 (fun hc105 => ?_) (fun hc105 => ?_)
  · have hf := ite_t hc105 hf
    refine r_iinc h [(3, .int (vI (iw (x3 + 7)))), (0, .ref b), (1, .ref (ad 0)), (2, .ref (ad 86))] dL_law_1386 3 rfl (by decide) rfl ?_
    refine r_goto (tgt := 18) h dL_law_1389 (by decide) ?_
    refine r_sub h [1, 2, 3, 0] rfl ?_
    exact hself18 (iw (x3 + 7)) s104 (rI_iw _) hf
  · have hf := ite_f hc105 hf
    refine r_iconst h dL_law_613 ?_
    cases hf
    exact absurd hout (by show ¬ (0 : Int) = 1; decide)
set_option maxRecDepth 20000 in
theorem c_Law_615 {l : Launch} {D : va_G} {cs : Nat → ClassId} {aS aV : Nat} {A : Nat → Prop} {K : KT} {ad : Nat → Nat} {nm : String} {out : Int × SS} (hout : out.1 = 1) {b L : Nat} {xs : Nat → Int32} (hL : L ≤ 3584) (h : w_Cl l room_1 D cs aS aV A cL_law 4 RL nm K) (hr : w_LR b L xs K) (hw : w_W0 138 (nlE 148)) (x3 : Int) (self18 : Int → SS → OO) (hself18 : ∀ (x3 : Int) (τ : SS), rI x3 → self18 x3 τ = some out → K ad 138 (nlE 148) 138 14691 18 [(0, .ref b), (1, .ref (ad 0)), (2, .ref (ad 86)), (3, .int (vI x3))] [] τ) (s0 : SS) (rx3 : rI x3) (hf : c_Law_615_f xs L self18 x3 s0 = some out) : K ad 138 (nlE 148) 138 14691 615 [(0, .ref b), (1, .ref (ad 0)), (2, .ref (ad 86)), (3, .int (vI x3))] [] s0 := by
  unfold c_Law_615_f at hf
  refine r_rS h (fun hs0 => ?_)
  refine r_aload_n h dL_law_615 rfl 1 rfl ?_
  obtain ⟨r107, s107, hq107, hf⟩ := ob_some hf
  refine r_callV2 h [] dL_law_616 (fun hs => m_Qu_undo hw (by decide) hs hq107) ml_L_71 cv_Qu_undo rfl (co := 11) rfl (by decide) (by decide) rC_0 ⟨rfl, rfl⟩ ⟨Nat.le_of_ble_eq_true rfl, Nat.le_of_ble_eq_true rfl⟩ ⟨Nat.le_of_ble_eq_true rfl, Nat.le_of_ble_eq_true rfl⟩ (Nat.le_of_ble_eq_true rfl) rfl (fun hr107 hs107 => ?_)
  refine r_aload_n h dL_law_619 rfl 2 rfl ?_
  obtain ⟨r108, s108, hq108, hf⟩ := ob_some hf
  refine r_callV2 h [] dL_law_620 (fun hs => m_Mo_undo hw.1 (by decide) hs hq108) ml_L_75 cv_Mo_undo rfl (co := 12) rfl (by decide) (by decide) rC_86 ⟨rfl, rfl⟩ ⟨Nat.le_of_ble_eq_true rfl, Nat.le_of_ble_eq_true rfl⟩ ⟨Nat.le_of_ble_eq_true rfl, Nat.le_of_ble_eq_true rfl⟩ (Nat.le_of_ble_eq_true rfl) rfl (fun hr108 hs108 => ?_)
  refine r_icmp_eq (tgt := 1386) h dL_law_623 (by decide) (rI_b hr107) (rI_b hr108) (fun hc109 => ?_) (fun hc109 => ?_)
  · have hf := ite_t hc109 hf
    refine r_iinc h [(3, .int (vI (iw (x3 + 7)))), (0, .ref b), (1, .ref (ad 0)), (2, .ref (ad 86))] dL_law_1386 3 rfl (by decide) rfl ?_
    refine r_goto (tgt := 18) h dL_law_1389 (by decide) ?_
    refine r_sub h [1, 2, 3, 0] rfl ?_
    exact hself18 (iw (x3 + 7)) s108 (rI_iw _) hf
  · have hf := ite_f hc109 hf
    refine r_iconst h dL_law_626 ?_
    cases hf
    exact absurd hout (by show ¬ (0 : Int) = 1; decide)
set_option maxRecDepth 20000 in
theorem c_Law_628 {l : Launch} {D : va_G} {cs : Nat → ClassId} {aS aV : Nat} {A : Nat → Prop} {K : KT} {ad : Nat → Nat} {nm : String} {out : Int × SS} (hout : out.1 = 1) {b L : Nat} {xs : Nat → Int32} (hL : L ≤ 3584) (h : w_Cl l room_1 D cs aS aV A cL_law 4 RL nm K) (hr : w_LR b L xs K) (hw : w_W0 138 (nlE 148)) (x3 : Int) (self18 : Int → SS → OO) (hself18 : ∀ (x3 : Int) (τ : SS), rI x3 → self18 x3 τ = some out → K ad 138 (nlE 148) 138 14691 18 [(0, .ref b), (1, .ref (ad 0)), (2, .ref (ad 86)), (3, .int (vI x3))] [] τ) (s0 : SS) (rx3 : rI x3) (hf : c_Law_628_f xs L self18 x3 s0 = some out) : K ad 138 (nlE 148) 138 14691 628 [(0, .ref b), (1, .ref (ad 0)), (2, .ref (ad 86)), (3, .int (vI x3))] [] s0 := by
  unfold c_Law_628_f at hf
  refine r_rS h (fun hs0 => ?_)
  refine r_aload_n h dL_law_628 rfl 1 rfl ?_
  obtain ⟨r111, s111, hq111, hf⟩ := ob_some hf
  refine r_callV2 h [] dL_law_629 (fun hs => m_Qu_redo hw (by decide) hs hq111) ml_L_76 cv_Qu_redo rfl (co := 11) rfl (by decide) (by decide) rC_0 ⟨rfl, rfl⟩ ⟨Nat.le_of_ble_eq_true rfl, Nat.le_of_ble_eq_true rfl⟩ ⟨Nat.le_of_ble_eq_true rfl, Nat.le_of_ble_eq_true rfl⟩ (Nat.le_of_ble_eq_true rfl) rfl (fun hr111 hs111 => ?_)
  refine r_aload_n h dL_law_632 rfl 2 rfl ?_
  obtain ⟨r112, s112, hq112, hf⟩ := ob_some hf
  refine r_callV2 h [] dL_law_633 (fun hs => m_Mo_redo hw.1 (by decide) hs hq112) ml_L_79 cv_Mo_redo rfl (co := 12) rfl (by decide) (by decide) rC_86 ⟨rfl, rfl⟩ ⟨Nat.le_of_ble_eq_true rfl, Nat.le_of_ble_eq_true rfl⟩ ⟨Nat.le_of_ble_eq_true rfl, Nat.le_of_ble_eq_true rfl⟩ (Nat.le_of_ble_eq_true rfl) rfl (fun hr112 hs112 => ?_)
  refine r_icmp_eq (tgt := 1386) h dL_law_636 (by decide) (rI_b hr111) (rI_b hr112) (fun hc113 => ?_) (fun hc113 => ?_)
  · have hf := ite_t hc113 hf
    refine r_iinc h [(3, .int (vI (iw (x3 + 7)))), (0, .ref b), (1, .ref (ad 0)), (2, .ref (ad 86))] dL_law_1386 3 rfl (by decide) rfl ?_
    refine r_goto (tgt := 18) h dL_law_1389 (by decide) ?_
    refine r_sub h [1, 2, 3, 0] rfl ?_
    exact hself18 (iw (x3 + 7)) s112 (rI_iw _) hf
  · have hf := ite_f hc113 hf
    refine r_iconst h dL_law_639 ?_
    cases hf
    exact absurd hout (by show ¬ (0 : Int) = 1; decide)
set_option maxRecDepth 20000 in
theorem c_Law_641 {l : Launch} {D : va_G} {cs : Nat → ClassId} {aS aV : Nat} {A : Nat → Prop} {K : KT} {ad : Nat → Nat} {nm : String} {out : Int × SS} (hout : out.1 = 1) {b L : Nat} {xs : Nat → Int32} (hL : L ≤ 3584) (h : w_Cl l room_1 D cs aS aV A cL_law 4 RL nm K) (hr : w_LR b L xs K) (hw : w_W0 138 (nlE 148)) (x3 : Int) (self18 : Int → SS → OO) (hself18 : ∀ (x3 : Int) (τ : SS), rI x3 → self18 x3 τ = some out → K ad 138 (nlE 148) 138 14691 18 [(0, .ref b), (1, .ref (ad 0)), (2, .ref (ad 86)), (3, .int (vI x3))] [] τ) (s0 : SS) (rx3 : rI x3) (hf : c_Law_641_f xs L self18 x3 s0 = some out) : K ad 138 (nlE 148) 138 14691 641 [(0, .ref b), (1, .ref (ad 0)), (2, .ref (ad 86)), (3, .int (vI x3))] [] s0 := by
  unfold c_Law_641_f at hf
  refine r_rS h (fun hs0 => ?_)
  refine r_aload_n h dL_law_641 rfl 1 rfl ?_
  refine r_aload_n h dL_law_642 rfl 0 rfl ?_
  refine r_iload_n h dL_law_643 rfl 3 rfl ?_
  refine r_iconst h dL_law_644 ?_
  refine r_iadd h dL_law_645 ?_
  obtain ⟨hi115, hf⟩ := oc_some hf
  refine hr.1 _ _ _ _ _ _ _ _ _ _ dL_law_646 (rI_iw _) hi115 ?_
  obtain ⟨r116, s116, hq116, hf⟩ := ob_some hf
  refine r_callV1 h [.int (vI ((xs (iw (x3 + 1)).toNat).toInt))] dL_law_647 (fun hs => m_Qu_start hw (by decide) (rI_to _) hs hq116) ml_L_80 cv_Qu_start rfl (co := 11) rfl (by decide) (by decide) rC_0 ⟨rfl, rfl⟩ ⟨Nat.le_of_ble_eq_true rfl, Nat.le_of_ble_eq_true rfl⟩ ⟨Nat.le_of_ble_eq_true rfl, Nat.le_of_ble_eq_true rfl⟩ (Nat.le_of_ble_eq_true rfl) rfl (fun hr116 hs116 => ?_)
  refine r_aload_n h dL_law_650 rfl 2 rfl ?_
  refine r_aload_n h dL_law_651 rfl 0 rfl ?_
  refine r_iload_n h dL_law_652 rfl 3 rfl ?_
  refine r_iconst h dL_law_653 ?_
  refine r_iadd h dL_law_654 ?_
  obtain ⟨hi117, hf⟩ := oc_some hf
  refine hr.1 _ _ _ _ _ _ _ _ _ _ dL_law_655 (rI_iw _) hi117 ?_
  obtain ⟨r118, s118, hq118, hf⟩ := ob_some hf
  refine r_callV1 h [.int (vI ((xs (iw (x3 + 1)).toNat).toInt))] dL_law_656 (fun hs => m_Mo_start hw.1 (by decide) (rI_to _) hs hq118) ml_L_83 cv_Mo_start rfl (co := 12) rfl (by decide) (by decide) rC_86 ⟨rfl, rfl⟩ ⟨Nat.le_of_ble_eq_true rfl, Nat.le_of_ble_eq_true rfl⟩ ⟨Nat.le_of_ble_eq_true rfl, Nat.le_of_ble_eq_true rfl⟩ (Nat.le_of_ble_eq_true rfl) rfl (fun hr118 hs118 => ?_)
  refine r_icmp_eq (tgt := 1386) h dL_law_659 (by decide) hr116 hr118 (fun hc119 => ?_) (fun hc119 => ?_)
  · have hf := ite_t hc119 hf
    refine r_iinc h [(3, .int (vI (iw (x3 + 7)))), (0, .ref b), (1, .ref (ad 0)), (2, .ref (ad 86))] dL_law_1386 3 rfl (by decide) rfl ?_
    refine r_goto (tgt := 18) h dL_law_1389 (by decide) ?_
    refine r_sub h [1, 2, 3, 0] rfl ?_
    exact hself18 (iw (x3 + 7)) s118 (rI_iw _) hf
  · have hf := ite_f hc119 hf
    refine r_iconst h dL_law_662 ?_
    cases hf
    exact absurd hout (by show ¬ (0 : Int) = 1; decide)
set_option maxRecDepth 20000 in
theorem c_Law_664 {l : Launch} {D : va_G} {cs : Nat → ClassId} {aS aV : Nat} {A : Nat → Prop} {K : KT} {ad : Nat → Nat} {nm : String} {out : Int × SS} (hout : out.1 = 1) {b L : Nat} {xs : Nat → Int32} (hL : L ≤ 3584) (h : w_Cl l room_1 D cs aS aV A cL_law 4 RL nm K) (hr : w_LR b L xs K) (hw : w_W0 138 (nlE 148)) (x3 : Int) (self18 : Int → SS → OO) (hself18 : ∀ (x3 : Int) (τ : SS), rI x3 → self18 x3 τ = some out → K ad 138 (nlE 148) 138 14691 18 [(0, .ref b), (1, .ref (ad 0)), (2, .ref (ad 86)), (3, .int (vI x3))] [] τ) (s0 : SS) (rx3 : rI x3) (hf : c_Law_664_f xs L self18 x3 s0 = some out) : K ad 138 (nlE 148) 138 14691 664 [(0, .ref b), (1, .ref (ad 0)), (2, .ref (ad 86)), (3, .int (vI x3))] [] s0 := by
  unfold c_Law_664_f at hf
  refine r_rS h (fun hs0 => ?_)
  refine r_aload_n h dL_law_664 rfl 1 rfl ?_
  refine r_aload_n h dL_law_665 rfl 0 rfl ?_
  refine r_iload_n h dL_law_666 rfl 3 rfl ?_
  refine r_iconst h dL_law_667 ?_
  refine r_iadd h dL_law_668 ?_
  obtain ⟨hi121, hf⟩ := oc_some hf
  refine hr.1 _ _ _ _ _ _ _ _ _ _ dL_law_669 (rI_iw _) hi121 ?_
  obtain ⟨r122, s122, hq122, hf⟩ := ob_some hf
  refine r_callV1 h [.int (vI ((xs (iw (x3 + 1)).toNat).toInt))] dL_law_670 (fun hs => m_Qu_step hw (by decide) (rI_to _) hs hq122) ml_L_84 cv_Qu_step rfl (co := 11) rfl (by decide) (by decide) rC_0 ⟨rfl, rfl⟩ ⟨Nat.le_of_ble_eq_true rfl, Nat.le_of_ble_eq_true rfl⟩ ⟨Nat.le_of_ble_eq_true rfl, Nat.le_of_ble_eq_true rfl⟩ (Nat.le_of_ble_eq_true rfl) rfl (fun hr122 hs122 => ?_)
  refine r_aload_n h dL_law_673 rfl 2 rfl ?_
  refine r_aload_n h dL_law_674 rfl 0 rfl ?_
  refine r_iload_n h dL_law_675 rfl 3 rfl ?_
  refine r_iconst h dL_law_676 ?_
  refine r_iadd h dL_law_677 ?_
  obtain ⟨hi123, hf⟩ := oc_some hf
  refine hr.1 _ _ _ _ _ _ _ _ _ _ dL_law_678 (rI_iw _) hi123 ?_
  obtain ⟨r124, s124, hq124, hf⟩ := ob_some hf
  refine r_callV1 h [.int (vI ((xs (iw (x3 + 1)).toNat).toInt))] dL_law_679 (fun hs => m_Mo_step hw.1 (by decide) (rI_to _) hs hq124) ml_L_87 cv_Mo_step rfl (co := 12) rfl (by decide) (by decide) rC_86 ⟨rfl, rfl⟩ ⟨Nat.le_of_ble_eq_true rfl, Nat.le_of_ble_eq_true rfl⟩ ⟨Nat.le_of_ble_eq_true rfl, Nat.le_of_ble_eq_true rfl⟩ (Nat.le_of_ble_eq_true rfl) rfl (fun hr124 hs124 => ?_)
  refine r_icmp_eq (tgt := 1386) h dL_law_682 (by decide) hr122 hr124 (fun hc125 => ?_) (fun hc125 => ?_)
  · have hf := ite_t hc125 hf
    refine r_iinc h [(3, .int (vI (iw (x3 + 7)))), (0, .ref b), (1, .ref (ad 0)), (2, .ref (ad 86))] dL_law_1386 3 rfl (by decide) rfl ?_
    refine r_goto (tgt := 18) h dL_law_1389 (by decide) ?_
    refine r_sub h [1, 2, 3, 0] rfl ?_
    exact hself18 (iw (x3 + 7)) s124 (rI_iw _) hf
  · have hf := ite_f hc125 hf
    refine r_iconst h dL_law_685 ?_
    cases hf
    exact absurd hout (by show ¬ (0 : Int) = 1; decide)
set_option maxRecDepth 20000 in
theorem c_Law_687 {l : Launch} {D : va_G} {cs : Nat → ClassId} {aS aV : Nat} {A : Nat → Prop} {K : KT} {ad : Nat → Nat} {nm : String} {out : Int × SS} (hout : out.1 = 1) {b L : Nat} {xs : Nat → Int32} (hL : L ≤ 3584) (h : w_Cl l room_1 D cs aS aV A cL_law 4 RL nm K) (hr : w_LR b L xs K) (hw : w_W0 138 (nlE 148)) (x3 : Int) (self18 : Int → SS → OO) (hself18 : ∀ (x3 : Int) (τ : SS), rI x3 → self18 x3 τ = some out → K ad 138 (nlE 148) 138 14691 18 [(0, .ref b), (1, .ref (ad 0)), (2, .ref (ad 86)), (3, .int (vI x3))] [] τ) (s0 : SS) (rx3 : rI x3) (hf : c_Law_687_f xs L self18 x3 s0 = some out) : K ad 138 (nlE 148) 138 14691 687 [(0, .ref b), (1, .ref (ad 0)), (2, .ref (ad 86)), (3, .int (vI x3))] [] s0 := by
  unfold c_Law_687_f at hf
  refine r_rS h (fun hs0 => ?_)
  refine r_aload_n h dL_law_687 rfl 1 rfl ?_
  refine r_aload_n h dL_law_688 rfl 0 rfl ?_
  refine r_iload_n h dL_law_689 rfl 3 rfl ?_
  refine r_iconst h dL_law_690 ?_
  refine r_iadd h dL_law_691 ?_
  obtain ⟨hi127, hf⟩ := oc_some hf
  refine hr.1 _ _ _ _ _ _ _ _ _ _ dL_law_692 (rI_iw _) hi127 ?_
  refine r_aload_n h dL_law_693 rfl 0 rfl ?_
  refine r_iload_n h dL_law_694 rfl 3 rfl ?_
  refine r_iconst h dL_law_695 ?_
  refine r_iadd h dL_law_696 ?_
  obtain ⟨hi128, hf⟩ := oc_some hf
  refine hr.1 _ _ _ _ _ _ _ _ _ _ dL_law_697 (rI_iw _) hi128 ?_
  refine r_aload_n h dL_law_698 rfl 0 rfl ?_
  refine r_iload_n h dL_law_699 rfl 3 rfl ?_
  refine r_iconst h dL_law_700 ?_
  refine r_iadd h dL_law_701 ?_
  obtain ⟨hi129, hf⟩ := oc_some hf
  refine hr.1 _ _ _ _ _ _ _ _ _ _ dL_law_702 (rI_iw _) hi129 ?_
  refine r_aload_n h dL_law_703 rfl 0 rfl ?_
  refine r_iload_n h dL_law_704 rfl 3 rfl ?_
  refine r_iconst h dL_law_705 ?_
  refine r_iadd h dL_law_706 ?_
  obtain ⟨hi130, hf⟩ := oc_some hf
  refine hr.1 _ _ _ _ _ _ _ _ _ _ dL_law_707 (rI_iw _) hi130 ?_
  obtain ⟨r131, s131, hq131, hf⟩ := ob_some hf
  refine r_callV1 h [.int (vI ((xs (iw (x3 + 1)).toNat).toInt)), .int (vI ((xs (iw (x3 + 2)).toNat).toInt)), .int (vI ((xs (iw (x3 + 3)).toNat).toInt)), .int (vI ((xs (iw (x3 + 4)).toNat).toInt))] dL_law_708 (fun hs => m_Qu_walked hw (by decide) (rI_to _) (rI_to _) (rI_to _) (rI_to _) hs hq131) ml_L_88 cv_Qu_walked rfl (co := 11) rfl (by decide) (by decide) rC_0 ⟨rfl, rfl⟩ ⟨Nat.le_of_ble_eq_true rfl, Nat.le_of_ble_eq_true rfl⟩ ⟨Nat.le_of_ble_eq_true rfl, Nat.le_of_ble_eq_true rfl⟩ (Nat.le_of_ble_eq_true rfl) rfl (fun hr131 hs131 => ?_)
  refine r_aload_n h dL_law_711 rfl 2 rfl ?_
  refine r_aload_n h dL_law_712 rfl 0 rfl ?_
  refine r_iload_n h dL_law_713 rfl 3 rfl ?_
  refine r_iconst h dL_law_714 ?_
  refine r_iadd h dL_law_715 ?_
  obtain ⟨hi132, hf⟩ := oc_some hf
  refine hr.1 _ _ _ _ _ _ _ _ _ _ dL_law_716 (rI_iw _) hi132 ?_
  refine r_aload_n h dL_law_717 rfl 0 rfl ?_
  refine r_iload_n h dL_law_718 rfl 3 rfl ?_
  refine r_iconst h dL_law_719 ?_
  refine r_iadd h dL_law_720 ?_
  obtain ⟨hi133, hf⟩ := oc_some hf
  refine hr.1 _ _ _ _ _ _ _ _ _ _ dL_law_721 (rI_iw _) hi133 ?_
  refine r_aload_n h dL_law_722 rfl 0 rfl ?_
  refine r_iload_n h dL_law_723 rfl 3 rfl ?_
  refine r_iconst h dL_law_724 ?_
  refine r_iadd h dL_law_725 ?_
  obtain ⟨hi134, hf⟩ := oc_some hf
  refine hr.1 _ _ _ _ _ _ _ _ _ _ dL_law_726 (rI_iw _) hi134 ?_
  refine r_aload_n h dL_law_727 rfl 0 rfl ?_
  refine r_iload_n h dL_law_728 rfl 3 rfl ?_
  refine r_iconst h dL_law_729 ?_
  refine r_iadd h dL_law_730 ?_
  obtain ⟨hi135, hf⟩ := oc_some hf
  refine hr.1 _ _ _ _ _ _ _ _ _ _ dL_law_731 (rI_iw _) hi135 ?_
  obtain ⟨r136, s136, hq136, hf⟩ := ob_some hf
  refine r_callV1 h [.int (vI ((xs (iw (x3 + 1)).toNat).toInt)), .int (vI ((xs (iw (x3 + 2)).toNat).toInt)), .int (vI ((xs (iw (x3 + 3)).toNat).toInt)), .int (vI ((xs (iw (x3 + 4)).toNat).toInt))] dL_law_732 (fun hs => m_Mo_walked hw.1 (by decide) (rI_to _) (rI_to _) (rI_to _) (rI_to _) hs hq136) ml_L_91 cv_Mo_walked rfl (co := 12) rfl (by decide) (by decide) rC_86 ⟨rfl, rfl⟩ ⟨Nat.le_of_ble_eq_true rfl, Nat.le_of_ble_eq_true rfl⟩ ⟨Nat.le_of_ble_eq_true rfl, Nat.le_of_ble_eq_true rfl⟩ (Nat.le_of_ble_eq_true rfl) rfl (fun hr136 hs136 => ?_)
  refine r_icmp_eq (tgt := 1386) h dL_law_735 (by decide) hr131 hr136 (fun hc137 => ?_) (fun hc137 => ?_)
  · have hf := ite_t hc137 hf
    refine r_iinc h [(3, .int (vI (iw (x3 + 7)))), (0, .ref b), (1, .ref (ad 0)), (2, .ref (ad 86))] dL_law_1386 3 rfl (by decide) rfl ?_
    refine r_goto (tgt := 18) h dL_law_1389 (by decide) ?_
    refine r_sub h [1, 2, 3, 0] rfl ?_
    exact hself18 (iw (x3 + 7)) s136 (rI_iw _) hf
  · have hf := ite_f hc137 hf
    refine r_iconst h dL_law_738 ?_
    cases hf
    exact absurd hout (by show ¬ (0 : Int) = 1; decide)
set_option maxRecDepth 20000 in
theorem c_Law_740 {l : Launch} {D : va_G} {cs : Nat → ClassId} {aS aV : Nat} {A : Nat → Prop} {K : KT} {ad : Nat → Nat} {nm : String} {out : Int × SS} (hout : out.1 = 1) {b L : Nat} {xs : Nat → Int32} (hL : L ≤ 3584) (h : w_Cl l room_1 D cs aS aV A cL_law 4 RL nm K) (hr : w_LR b L xs K) (hw : w_W0 138 (nlE 148)) (x3 : Int) (self18 : Int → SS → OO) (hself18 : ∀ (x3 : Int) (τ : SS), rI x3 → self18 x3 τ = some out → K ad 138 (nlE 148) 138 14691 18 [(0, .ref b), (1, .ref (ad 0)), (2, .ref (ad 86)), (3, .int (vI x3))] [] τ) (s0 : SS) (rx3 : rI x3) (hf : c_Law_740_f xs L self18 x3 s0 = some out) : K ad 138 (nlE 148) 138 14691 740 [(0, .ref b), (1, .ref (ad 0)), (2, .ref (ad 86)), (3, .int (vI x3))] [] s0 := by
  unfold c_Law_740_f at hf
  refine r_rS h (fun hs0 => ?_)
  refine r_aload_n h dL_law_740 rfl 1 rfl ?_
  refine r_aload_n h dL_law_741 rfl 0 rfl ?_
  refine r_iload_n h dL_law_742 rfl 3 rfl ?_
  refine r_iconst h dL_law_743 ?_
  refine r_iadd h dL_law_744 ?_
  obtain ⟨hi139, hf⟩ := oc_some hf
  refine hr.1 _ _ _ _ _ _ _ _ _ _ dL_law_745 (rI_iw _) hi139 ?_
  refine r_aload_n h dL_law_746 rfl 0 rfl ?_
  refine r_iload_n h dL_law_747 rfl 3 rfl ?_
  refine r_iconst h dL_law_748 ?_
  refine r_iadd h dL_law_749 ?_
  obtain ⟨hi140, hf⟩ := oc_some hf
  refine hr.1 _ _ _ _ _ _ _ _ _ _ dL_law_750 (rI_iw _) hi140 ?_
  obtain ⟨r141, s141, hq141, hf⟩ := ob_some hf
  refine r_callV1 h [.int (vI ((xs (iw (x3 + 1)).toNat).toInt)), .int (vI ((xs (iw (x3 + 2)).toNat).toInt))] dL_law_751 (fun hs => m_Qu_shortest hw (by decide) (rI_to _) (rI_to _) hs hq141) ml_L_92 cv_Qu_shortest rfl (co := 11) rfl (by decide) (by decide) rC_0 ⟨rfl, rfl⟩ ⟨Nat.le_of_ble_eq_true rfl, Nat.le_of_ble_eq_true rfl⟩ ⟨Nat.le_of_ble_eq_true rfl, Nat.le_of_ble_eq_true rfl⟩ (Nat.le_of_ble_eq_true rfl) rfl (fun hr141 hs141 => ?_)
  refine r_aload_n h dL_law_754 rfl 2 rfl ?_
  refine r_aload_n h dL_law_755 rfl 0 rfl ?_
  refine r_iload_n h dL_law_756 rfl 3 rfl ?_
  refine r_iconst h dL_law_757 ?_
  refine r_iadd h dL_law_758 ?_
  obtain ⟨hi142, hf⟩ := oc_some hf
  refine hr.1 _ _ _ _ _ _ _ _ _ _ dL_law_759 (rI_iw _) hi142 ?_
  refine r_aload_n h dL_law_760 rfl 0 rfl ?_
  refine r_iload_n h dL_law_761 rfl 3 rfl ?_
  refine r_iconst h dL_law_762 ?_
  refine r_iadd h dL_law_763 ?_
  obtain ⟨hi143, hf⟩ := oc_some hf
  refine hr.1 _ _ _ _ _ _ _ _ _ _ dL_law_764 (rI_iw _) hi143 ?_
  obtain ⟨r144, s144, hq144, hf⟩ := ob_some hf
  refine r_callV1 h [.int (vI ((xs (iw (x3 + 1)).toNat).toInt)), .int (vI ((xs (iw (x3 + 2)).toNat).toInt))] dL_law_765 (fun hs => m_Mo_shortest hw.1 (by decide) (rI_to _) (rI_to _) hs hq144) ml_L_95 cv_Mo_shortest rfl (co := 12) rfl (by decide) (by decide) rC_86 ⟨rfl, rfl⟩ ⟨Nat.le_of_ble_eq_true rfl, Nat.le_of_ble_eq_true rfl⟩ ⟨Nat.le_of_ble_eq_true rfl, Nat.le_of_ble_eq_true rfl⟩ (Nat.le_of_ble_eq_true rfl) rfl (fun hr144 hs144 => ?_)
  refine r_icmp_eq (tgt := 1386) h dL_law_768 (by decide) hr141 hr144 (fun hc145 => ?_) (fun hc145 => ?_)
  · have hf := ite_t hc145 hf
    refine r_iinc h [(3, .int (vI (iw (x3 + 7)))), (0, .ref b), (1, .ref (ad 0)), (2, .ref (ad 86))] dL_law_1386 3 rfl (by decide) rfl ?_
    refine r_goto (tgt := 18) h dL_law_1389 (by decide) ?_
    refine r_sub h [1, 2, 3, 0] rfl ?_
    exact hself18 (iw (x3 + 7)) s144 (rI_iw _) hf
  · have hf := ite_f hc145 hf
    refine r_iconst h dL_law_771 ?_
    cases hf
    exact absurd hout (by show ¬ (0 : Int) = 1; decide)
set_option maxRecDepth 20000 in
theorem c_Law_773 {l : Launch} {D : va_G} {cs : Nat → ClassId} {aS aV : Nat} {A : Nat → Prop} {K : KT} {ad : Nat → Nat} {nm : String} {out : Int × SS} (hout : out.1 = 1) {b L : Nat} {xs : Nat → Int32} (hL : L ≤ 3584) (h : w_Cl l room_1 D cs aS aV A cL_law 4 RL nm K) (hr : w_LR b L xs K) (hw : w_W0 138 (nlE 148)) (x3 : Int) (self18 : Int → SS → OO) (hself18 : ∀ (x3 : Int) (τ : SS), rI x3 → self18 x3 τ = some out → K ad 138 (nlE 148) 138 14691 18 [(0, .ref b), (1, .ref (ad 0)), (2, .ref (ad 86)), (3, .int (vI x3))] [] τ) (s0 : SS) (rx3 : rI x3) (hf : c_Law_773_f xs L self18 x3 s0 = some out) : K ad 138 (nlE 148) 138 14691 773 [(0, .ref b), (1, .ref (ad 0)), (2, .ref (ad 86)), (3, .int (vI x3))] [] s0 := by
  unfold c_Law_773_f at hf
  refine r_rS h (fun hs0 => ?_)
  refine r_aload_n h dL_law_773 rfl 1 rfl ?_
  refine r_aload_n h dL_law_774 rfl 0 rfl ?_
  refine r_iload_n h dL_law_775 rfl 3 rfl ?_
  refine r_iconst h dL_law_776 ?_
  refine r_iadd h dL_law_777 ?_
  obtain ⟨hi147, hf⟩ := oc_some hf
  refine hr.1 _ _ _ _ _ _ _ _ _ _ dL_law_778 (rI_iw _) hi147 ?_
  refine r_aload_n h dL_law_779 rfl 0 rfl ?_
  refine r_iload_n h dL_law_780 rfl 3 rfl ?_
  refine r_iconst h dL_law_781 ?_
  refine r_iadd h dL_law_782 ?_
  obtain ⟨hi148, hf⟩ := oc_some hf
  refine hr.1 _ _ _ _ _ _ _ _ _ _ dL_law_783 (rI_iw _) hi148 ?_
  obtain ⟨r149, s149, hq149, hf⟩ := ob_some hf
  refine r_callV1 h [.int (vI ((xs (iw (x3 + 1)).toNat).toInt)), .int (vI ((xs (iw (x3 + 2)).toNat).toInt))] dL_law_784 (fun hs => m_Qu_send hw (by decide) (rI_to _) (rI_to _) hs hq149) ml_L_96 cv_Qu_send rfl (co := 11) rfl (by decide) (by decide) rC_0 ⟨rfl, rfl⟩ ⟨Nat.le_of_ble_eq_true rfl, Nat.le_of_ble_eq_true rfl⟩ ⟨Nat.le_of_ble_eq_true rfl, Nat.le_of_ble_eq_true rfl⟩ (Nat.le_of_ble_eq_true rfl) rfl (fun hr149 hs149 => ?_)
  refine r_aload_n h dL_law_787 rfl 2 rfl ?_
  refine r_aload_n h dL_law_788 rfl 0 rfl ?_
  refine r_iload_n h dL_law_789 rfl 3 rfl ?_
  refine r_iconst h dL_law_790 ?_
  refine r_iadd h dL_law_791 ?_
  obtain ⟨hi150, hf⟩ := oc_some hf
  refine hr.1 _ _ _ _ _ _ _ _ _ _ dL_law_792 (rI_iw _) hi150 ?_
  refine r_aload_n h dL_law_793 rfl 0 rfl ?_
  refine r_iload_n h dL_law_794 rfl 3 rfl ?_
  refine r_iconst h dL_law_795 ?_
  refine r_iadd h dL_law_796 ?_
  obtain ⟨hi151, hf⟩ := oc_some hf
  refine hr.1 _ _ _ _ _ _ _ _ _ _ dL_law_797 (rI_iw _) hi151 ?_
  obtain ⟨r152, s152, hq152, hf⟩ := ob_some hf
  refine r_callV1 h [.int (vI ((xs (iw (x3 + 1)).toNat).toInt)), .int (vI ((xs (iw (x3 + 2)).toNat).toInt))] dL_law_798 (fun hs => m_Mo_send hw.1 (by decide) (rI_to _) (rI_to _) hs hq152) ml_L_99 cv_Mo_send rfl (co := 12) rfl (by decide) (by decide) rC_86 ⟨rfl, rfl⟩ ⟨Nat.le_of_ble_eq_true rfl, Nat.le_of_ble_eq_true rfl⟩ ⟨Nat.le_of_ble_eq_true rfl, Nat.le_of_ble_eq_true rfl⟩ (Nat.le_of_ble_eq_true rfl) rfl (fun hr152 hs152 => ?_)
  refine r_icmp_eq (tgt := 1386) h dL_law_801 (by decide) hr149 hr152 (fun hc153 => ?_) (fun hc153 => ?_)
  · have hf := ite_t hc153 hf
    refine r_iinc h [(3, .int (vI (iw (x3 + 7)))), (0, .ref b), (1, .ref (ad 0)), (2, .ref (ad 86))] dL_law_1386 3 rfl (by decide) rfl ?_
    refine r_goto (tgt := 18) h dL_law_1389 (by decide) ?_
    refine r_sub h [1, 2, 3, 0] rfl ?_
    exact hself18 (iw (x3 + 7)) s152 (rI_iw _) hf
  · have hf := ite_f hc153 hf
    refine r_iconst h dL_law_804 ?_
    cases hf
    exact absurd hout (by show ¬ (0 : Int) = 1; decide)
set_option maxRecDepth 20000 in
theorem c_Law_806 {l : Launch} {D : va_G} {cs : Nat → ClassId} {aS aV : Nat} {A : Nat → Prop} {K : KT} {ad : Nat → Nat} {nm : String} {out : Int × SS} (hout : out.1 = 1) {b L : Nat} {xs : Nat → Int32} (hL : L ≤ 3584) (h : w_Cl l room_1 D cs aS aV A cL_law 4 RL nm K) (hr : w_LR b L xs K) (hw : w_W0 138 (nlE 148)) (x3 : Int) (self18 : Int → SS → OO) (hself18 : ∀ (x3 : Int) (τ : SS), rI x3 → self18 x3 τ = some out → K ad 138 (nlE 148) 138 14691 18 [(0, .ref b), (1, .ref (ad 0)), (2, .ref (ad 86)), (3, .int (vI x3))] [] τ) (s0 : SS) (rx3 : rI x3) (hf : c_Law_806_f xs L self18 x3 s0 = some out) : K ad 138 (nlE 148) 138 14691 806 [(0, .ref b), (1, .ref (ad 0)), (2, .ref (ad 86)), (3, .int (vI x3))] [] s0 := by
  unfold c_Law_806_f at hf
  refine r_rS h (fun hs0 => ?_)
  refine r_aload_n h dL_law_806 rfl 1 rfl ?_
  refine r_aload_n h dL_law_807 rfl 0 rfl ?_
  refine r_iload_n h dL_law_808 rfl 3 rfl ?_
  refine r_iconst h dL_law_809 ?_
  refine r_iadd h dL_law_810 ?_
  obtain ⟨hi155, hf⟩ := oc_some hf
  refine hr.1 _ _ _ _ _ _ _ _ _ _ dL_law_811 (rI_iw _) hi155 ?_
  refine r_aload_n h dL_law_812 rfl 0 rfl ?_
  refine r_iload_n h dL_law_813 rfl 3 rfl ?_
  refine r_iconst h dL_law_814 ?_
  refine r_iadd h dL_law_815 ?_
  obtain ⟨hi156, hf⟩ := oc_some hf
  refine hr.1 _ _ _ _ _ _ _ _ _ _ dL_law_816 (rI_iw _) hi156 ?_
  refine r_aload_n h dL_law_817 rfl 0 rfl ?_
  refine r_iload_n h dL_law_818 rfl 3 rfl ?_
  refine r_iconst h dL_law_819 ?_
  refine r_iadd h dL_law_820 ?_
  obtain ⟨hi157, hf⟩ := oc_some hf
  refine hr.1 _ _ _ _ _ _ _ _ _ _ dL_law_821 (rI_iw _) hi157 ?_
  refine r_aload_n h dL_law_822 rfl 0 rfl ?_
  refine r_iload_n h dL_law_823 rfl 3 rfl ?_
  refine r_iconst h dL_law_824 ?_
  refine r_iadd h dL_law_825 ?_
  obtain ⟨hi158, hf⟩ := oc_some hf
  refine hr.1 _ _ _ _ _ _ _ _ _ _ dL_law_826 (rI_iw _) hi158 ?_
  refine r_aload_n h dL_law_827 rfl 0 rfl ?_
  refine r_iload_n h dL_law_828 rfl 3 rfl ?_
  refine r_iconst h dL_law_829 ?_
  refine r_iadd h dL_law_830 ?_
  obtain ⟨hi159, hf⟩ := oc_some hf
  refine hr.1 _ _ _ _ _ _ _ _ _ _ dL_law_831 (rI_iw _) hi159 ?_
  refine r_if_eq (tgt := 839) h dL_law_832 (by decide) (rI_to _) (fun hc160 => ?_) (fun hc160 => ?_)
  · have hf := ite_t hc160 hf
    refine r_iconst h dL_law_839 ?_
    exact b_Law_840 hout hL h hr hw x3 ((xs (iw (x3 + 1)).toNat).toInt) ((xs (iw (x3 + 2)).toNat).toInt) ((xs (iw (x3 + 3)).toNat).toInt) ((xs (iw (x3 + 4)).toNat).toInt) 0 self18 hself18 s0 rx3 (rI_to _) (rI_to _) (rI_to _) (rI_to _) (rIc rfl) hf
  · have hf := ite_f hc160 hf
    refine r_iconst h dL_law_835 ?_
    refine r_goto (tgt := 840) h dL_law_836 (by decide) ?_
    exact b_Law_840 hout hL h hr hw x3 ((xs (iw (x3 + 1)).toNat).toInt) ((xs (iw (x3 + 2)).toNat).toInt) ((xs (iw (x3 + 3)).toNat).toInt) ((xs (iw (x3 + 4)).toNat).toInt) 1 self18 hself18 s0 rx3 (rI_to _) (rI_to _) (rI_to _) (rI_to _) (rIc rfl) hf
set_option maxRecDepth 20000 in
theorem c_Law_885 {l : Launch} {D : va_G} {cs : Nat → ClassId} {aS aV : Nat} {A : Nat → Prop} {K : KT} {ad : Nat → Nat} {nm : String} {out : Int × SS} (hout : out.1 = 1) {b L : Nat} {xs : Nat → Int32} (hL : L ≤ 3584) (h : w_Cl l room_1 D cs aS aV A cL_law 4 RL nm K) (hr : w_LR b L xs K) (hw : w_W0 138 (nlE 148)) (x3 : Int) (self18 : Int → SS → OO) (hself18 : ∀ (x3 : Int) (τ : SS), rI x3 → self18 x3 τ = some out → K ad 138 (nlE 148) 138 14691 18 [(0, .ref b), (1, .ref (ad 0)), (2, .ref (ad 86)), (3, .int (vI x3))] [] τ) (s0 : SS) (rx3 : rI x3) (hf : c_Law_885_f xs L self18 x3 s0 = some out) : K ad 138 (nlE 148) 138 14691 885 [(0, .ref b), (1, .ref (ad 0)), (2, .ref (ad 86)), (3, .int (vI x3))] [] s0 := by
  unfold c_Law_885_f at hf
  refine r_rS h (fun hs0 => ?_)
  refine r_aload_n h dL_law_885 rfl 1 rfl ?_
  refine r_aload_n h dL_law_886 rfl 0 rfl ?_
  refine r_iload_n h dL_law_887 rfl 3 rfl ?_
  refine r_iconst h dL_law_888 ?_
  refine r_iadd h dL_law_889 ?_
  obtain ⟨hi162, hf⟩ := oc_some hf
  refine hr.1 _ _ _ _ _ _ _ _ _ _ dL_law_890 (rI_iw _) hi162 ?_
  refine r_aload_n h dL_law_891 rfl 0 rfl ?_
  refine r_iload_n h dL_law_892 rfl 3 rfl ?_
  refine r_iconst h dL_law_893 ?_
  refine r_iadd h dL_law_894 ?_
  obtain ⟨hi163, hf⟩ := oc_some hf
  refine hr.1 _ _ _ _ _ _ _ _ _ _ dL_law_895 (rI_iw _) hi163 ?_
  obtain ⟨r164, s164, hq164, hf⟩ := ob_some hf
  refine r_callV1 h [.int (vI ((xs (iw (x3 + 1)).toNat).toInt)), .int (vI ((xs (iw (x3 + 2)).toNat).toInt))] dL_law_896 (fun hs => m_Qu_adds hw (by decide) (rI_to _) (rI_to _) hs hq164) ml_L_105 cv_Qu_adds rfl (co := 11) rfl (by decide) (by decide) rC_0 ⟨rfl, rfl⟩ ⟨Nat.le_of_ble_eq_true rfl, Nat.le_of_ble_eq_true rfl⟩ ⟨Nat.le_of_ble_eq_true rfl, Nat.le_of_ble_eq_true rfl⟩ (Nat.le_of_ble_eq_true rfl) rfl (fun hr164 hs164 => ?_)
  refine r_aload_n h dL_law_899 rfl 2 rfl ?_
  refine r_aload_n h dL_law_900 rfl 0 rfl ?_
  refine r_iload_n h dL_law_901 rfl 3 rfl ?_
  refine r_iconst h dL_law_902 ?_
  refine r_iadd h dL_law_903 ?_
  obtain ⟨hi165, hf⟩ := oc_some hf
  refine hr.1 _ _ _ _ _ _ _ _ _ _ dL_law_904 (rI_iw _) hi165 ?_
  refine r_aload_n h dL_law_905 rfl 0 rfl ?_
  refine r_iload_n h dL_law_906 rfl 3 rfl ?_
  refine r_iconst h dL_law_907 ?_
  refine r_iadd h dL_law_908 ?_
  obtain ⟨hi166, hf⟩ := oc_some hf
  refine hr.1 _ _ _ _ _ _ _ _ _ _ dL_law_909 (rI_iw _) hi166 ?_
  obtain ⟨r167, s167, hq167, hf⟩ := ob_some hf
  refine r_callV1 h [.int (vI ((xs (iw (x3 + 1)).toNat).toInt)), .int (vI ((xs (iw (x3 + 2)).toNat).toInt))] dL_law_910 (fun hs => m_Mo_adds hw.1 (by decide) (rI_to _) (rI_to _) hs hq167) ml_L_108 cv_Mo_adds rfl (co := 12) rfl (by decide) (by decide) rC_86 ⟨rfl, rfl⟩ ⟨Nat.le_of_ble_eq_true rfl, Nat.le_of_ble_eq_true rfl⟩ ⟨Nat.le_of_ble_eq_true rfl, Nat.le_of_ble_eq_true rfl⟩ (Nat.le_of_ble_eq_true rfl) rfl (fun hr167 hs167 => ?_)
  refine r_icmp_eq (tgt := 1386) h dL_law_913 (by decide) hr164 hr167 (fun hc168 => ?_) (fun hc168 => ?_)
  · have hf := ite_t hc168 hf
    refine r_iinc h [(3, .int (vI (iw (x3 + 7)))), (0, .ref b), (1, .ref (ad 0)), (2, .ref (ad 86))] dL_law_1386 3 rfl (by decide) rfl ?_
    refine r_goto (tgt := 18) h dL_law_1389 (by decide) ?_
    refine r_sub h [1, 2, 3, 0] rfl ?_
    exact hself18 (iw (x3 + 7)) s167 (rI_iw _) hf
  · have hf := ite_f hc168 hf
    refine r_iconst h dL_law_916 ?_
    cases hf
    exact absurd hout (by show ¬ (0 : Int) = 1; decide)
set_option maxRecDepth 20000 in
theorem c_Law_918 {l : Launch} {D : va_G} {cs : Nat → ClassId} {aS aV : Nat} {A : Nat → Prop} {K : KT} {ad : Nat → Nat} {nm : String} {out : Int × SS} (hout : out.1 = 1) {b L : Nat} {xs : Nat → Int32} (hL : L ≤ 3584) (h : w_Cl l room_1 D cs aS aV A cL_law 4 RL nm K) (hr : w_LR b L xs K) (hw : w_W0 138 (nlE 148)) (x3 : Int) (self18 : Int → SS → OO) (hself18 : ∀ (x3 : Int) (τ : SS), rI x3 → self18 x3 τ = some out → K ad 138 (nlE 148) 138 14691 18 [(0, .ref b), (1, .ref (ad 0)), (2, .ref (ad 86)), (3, .int (vI x3))] [] τ) (s0 : SS) (rx3 : rI x3) (hf : c_Law_918_f xs L self18 x3 s0 = some out) : K ad 138 (nlE 148) 138 14691 918 [(0, .ref b), (1, .ref (ad 0)), (2, .ref (ad 86)), (3, .int (vI x3))] [] s0 := by
  unfold c_Law_918_f at hf
  refine r_rS h (fun hs0 => ?_)
  refine r_aload_n h dL_law_918 rfl 1 rfl ?_
  obtain ⟨r170, s170, hq170, hf⟩ := ob_some hf
  refine r_callV1 h [] dL_law_919 (fun hs => m_Qu_fair hw (by decide) hs hq170) ml_L_109 cv_Qu_fair rfl (co := 11) rfl (by decide) (by decide) rC_0 ⟨rfl, rfl⟩ ⟨Nat.le_of_ble_eq_true rfl, Nat.le_of_ble_eq_true rfl⟩ ⟨Nat.le_of_ble_eq_true rfl, Nat.le_of_ble_eq_true rfl⟩ (Nat.le_of_ble_eq_true rfl) rfl (fun hr170 hs170 => ?_)
  refine r_aload_n h dL_law_922 rfl 2 rfl ?_
  obtain ⟨r171, s171, hq171, hf⟩ := ob_some hf
  refine r_callV1 h [] dL_law_923 (fun hs => m_Mo_fair hw.1 (by decide) hs hq171) ml_L_112 cv_Mo_fair rfl (co := 12) rfl (by decide) (by decide) rC_86 ⟨rfl, rfl⟩ ⟨Nat.le_of_ble_eq_true rfl, Nat.le_of_ble_eq_true rfl⟩ ⟨Nat.le_of_ble_eq_true rfl, Nat.le_of_ble_eq_true rfl⟩ (Nat.le_of_ble_eq_true rfl) rfl (fun hr171 hs171 => ?_)
  refine r_icmp_eq (tgt := 1386) h dL_law_926 (by decide) hr170 hr171 (fun hc172 => ?_) (fun hc172 => ?_)
  · have hf := ite_t hc172 hf
    refine r_iinc h [(3, .int (vI (iw (x3 + 7)))), (0, .ref b), (1, .ref (ad 0)), (2, .ref (ad 86))] dL_law_1386 3 rfl (by decide) rfl ?_
    refine r_goto (tgt := 18) h dL_law_1389 (by decide) ?_
    refine r_sub h [1, 2, 3, 0] rfl ?_
    exact hself18 (iw (x3 + 7)) s171 (rI_iw _) hf
  · have hf := ite_f hc172 hf
    refine r_iconst h dL_law_929 ?_
    cases hf
    exact absurd hout (by show ¬ (0 : Int) = 1; decide)
set_option maxRecDepth 20000 in
theorem c_Law_931 {l : Launch} {D : va_G} {cs : Nat → ClassId} {aS aV : Nat} {A : Nat → Prop} {K : KT} {ad : Nat → Nat} {nm : String} {out : Int × SS} (hout : out.1 = 1) {b L : Nat} {xs : Nat → Int32} (hL : L ≤ 3584) (h : w_Cl l room_1 D cs aS aV A cL_law 4 RL nm K) (hr : w_LR b L xs K) (hw : w_W0 138 (nlE 148)) (x3 : Int) (self18 : Int → SS → OO) (hself18 : ∀ (x3 : Int) (τ : SS), rI x3 → self18 x3 τ = some out → K ad 138 (nlE 148) 138 14691 18 [(0, .ref b), (1, .ref (ad 0)), (2, .ref (ad 86)), (3, .int (vI x3))] [] τ) (s0 : SS) (rx3 : rI x3) (hf : c_Law_931_f xs L self18 x3 s0 = some out) : K ad 138 (nlE 148) 138 14691 931 [(0, .ref b), (1, .ref (ad 0)), (2, .ref (ad 86)), (3, .int (vI x3))] [] s0 := by
  unfold c_Law_931_f at hf
  refine r_rS h (fun hs0 => ?_)
  refine r_aload_n h dL_law_931 rfl 1 rfl ?_
  obtain ⟨r174, s174, hq174, hf⟩ := ob_some hf
  refine r_callV1 h [] dL_law_932 (fun hs => m_Qu_cover hw (by decide) hs hq174) ml_L_113 cv_Qu_cover rfl (co := 11) rfl (by decide) (by decide) rC_0 ⟨rfl, rfl⟩ ⟨Nat.le_of_ble_eq_true rfl, Nat.le_of_ble_eq_true rfl⟩ ⟨Nat.le_of_ble_eq_true rfl, Nat.le_of_ble_eq_true rfl⟩ (Nat.le_of_ble_eq_true rfl) rfl (fun hr174 hs174 => ?_)
  refine r_aload_n h dL_law_935 rfl 2 rfl ?_
  obtain ⟨r175, s175, hq175, hf⟩ := ob_some hf
  refine r_callV1 h [] dL_law_936 (fun hs => m_Mo_cover hw.1 (by decide) hs hq175) ml_L_116 cv_Mo_cover rfl (co := 12) rfl (by decide) (by decide) rC_86 ⟨rfl, rfl⟩ ⟨Nat.le_of_ble_eq_true rfl, Nat.le_of_ble_eq_true rfl⟩ ⟨Nat.le_of_ble_eq_true rfl, Nat.le_of_ble_eq_true rfl⟩ (Nat.le_of_ble_eq_true rfl) rfl (fun hr175 hs175 => ?_)
  refine r_icmp_eq (tgt := 1386) h dL_law_939 (by decide) hr174 hr175 (fun hc176 => ?_) (fun hc176 => ?_)
  · have hf := ite_t hc176 hf
    refine r_iinc h [(3, .int (vI (iw (x3 + 7)))), (0, .ref b), (1, .ref (ad 0)), (2, .ref (ad 86))] dL_law_1386 3 rfl (by decide) rfl ?_
    refine r_goto (tgt := 18) h dL_law_1389 (by decide) ?_
    refine r_sub h [1, 2, 3, 0] rfl ?_
    exact hself18 (iw (x3 + 7)) s175 (rI_iw _) hf
  · have hf := ite_f hc176 hf
    refine r_iconst h dL_law_942 ?_
    cases hf
    exact absurd hout (by show ¬ (0 : Int) = 1; decide)
set_option maxRecDepth 20000 in
theorem c_Law_944 {l : Launch} {D : va_G} {cs : Nat → ClassId} {aS aV : Nat} {A : Nat → Prop} {K : KT} {ad : Nat → Nat} {nm : String} {out : Int × SS} (hout : out.1 = 1) {b L : Nat} {xs : Nat → Int32} (hL : L ≤ 3584) (h : w_Cl l room_1 D cs aS aV A cL_law 4 RL nm K) (hr : w_LR b L xs K) (hw : w_W0 138 (nlE 148)) (x3 : Int) (self18 : Int → SS → OO) (hself18 : ∀ (x3 : Int) (τ : SS), rI x3 → self18 x3 τ = some out → K ad 138 (nlE 148) 138 14691 18 [(0, .ref b), (1, .ref (ad 0)), (2, .ref (ad 86)), (3, .int (vI x3))] [] τ) (s0 : SS) (rx3 : rI x3) (hf : c_Law_944_f xs L self18 x3 s0 = some out) : K ad 138 (nlE 148) 138 14691 944 [(0, .ref b), (1, .ref (ad 0)), (2, .ref (ad 86)), (3, .int (vI x3))] [] s0 := by
  unfold c_Law_944_f at hf
  refine r_rS h (fun hs0 => ?_)
  refine r_aload_n h dL_law_944 rfl 1 rfl ?_
  obtain ⟨r178, s178, hq178, hf⟩ := ob_some hf
  refine r_callV1 h [] dL_law_945 (fun hs => m_Qu_turned hw (by decide) hs hq178) ml_L_117 cv_Qu_turned rfl (co := 11) rfl (by decide) (by decide) rC_0 ⟨rfl, rfl⟩ ⟨Nat.le_of_ble_eq_true rfl, Nat.le_of_ble_eq_true rfl⟩ ⟨Nat.le_of_ble_eq_true rfl, Nat.le_of_ble_eq_true rfl⟩ (Nat.le_of_ble_eq_true rfl) rfl (fun hr178 hs178 => ?_)
  refine r_aload_n h dL_law_948 rfl 2 rfl ?_
  obtain ⟨r179, s179, hq179, hf⟩ := ob_some hf
  refine r_callV1 h [] dL_law_949 (fun hs => m_Mo_turned hw.1 (by decide) hs hq179) ml_L_120 cv_Mo_turned rfl (co := 12) rfl (by decide) (by decide) rC_86 ⟨rfl, rfl⟩ ⟨Nat.le_of_ble_eq_true rfl, Nat.le_of_ble_eq_true rfl⟩ ⟨Nat.le_of_ble_eq_true rfl, Nat.le_of_ble_eq_true rfl⟩ (Nat.le_of_ble_eq_true rfl) rfl (fun hr179 hs179 => ?_)
  refine r_icmp_eq (tgt := 1386) h dL_law_952 (by decide) hr178 hr179 (fun hc180 => ?_) (fun hc180 => ?_)
  · have hf := ite_t hc180 hf
    refine r_iinc h [(3, .int (vI (iw (x3 + 7)))), (0, .ref b), (1, .ref (ad 0)), (2, .ref (ad 86))] dL_law_1386 3 rfl (by decide) rfl ?_
    refine r_goto (tgt := 18) h dL_law_1389 (by decide) ?_
    refine r_sub h [1, 2, 3, 0] rfl ?_
    exact hself18 (iw (x3 + 7)) s179 (rI_iw _) hf
  · have hf := ite_f hc180 hf
    refine r_iconst h dL_law_955 ?_
    cases hf
    exact absurd hout (by show ¬ (0 : Int) = 1; decide)
set_option maxRecDepth 20000 in
theorem c_Law_957 {l : Launch} {D : va_G} {cs : Nat → ClassId} {aS aV : Nat} {A : Nat → Prop} {K : KT} {ad : Nat → Nat} {nm : String} {out : Int × SS} (hout : out.1 = 1) {b L : Nat} {xs : Nat → Int32} (hL : L ≤ 3584) (h : w_Cl l room_1 D cs aS aV A cL_law 4 RL nm K) (hr : w_LR b L xs K) (hw : w_W0 138 (nlE 148)) (x3 : Int) (self18 : Int → SS → OO) (hself18 : ∀ (x3 : Int) (τ : SS), rI x3 → self18 x3 τ = some out → K ad 138 (nlE 148) 138 14691 18 [(0, .ref b), (1, .ref (ad 0)), (2, .ref (ad 86)), (3, .int (vI x3))] [] τ) (s0 : SS) (rx3 : rI x3) (hf : c_Law_957_f xs L self18 x3 s0 = some out) : K ad 138 (nlE 148) 138 14691 957 [(0, .ref b), (1, .ref (ad 0)), (2, .ref (ad 86)), (3, .int (vI x3))] [] s0 := by
  unfold c_Law_957_f at hf
  refine r_rS h (fun hs0 => ?_)
  refine r_aload_n h dL_law_957 rfl 1 rfl ?_
  refine r_aload_n h dL_law_958 rfl 0 rfl ?_
  refine r_iload_n h dL_law_959 rfl 3 rfl ?_
  refine r_iconst h dL_law_960 ?_
  refine r_iadd h dL_law_961 ?_
  obtain ⟨hi182, hf⟩ := oc_some hf
  refine hr.1 _ _ _ _ _ _ _ _ _ _ dL_law_962 (rI_iw _) hi182 ?_
  refine r_aload_n h dL_law_963 rfl 0 rfl ?_
  refine r_iload_n h dL_law_964 rfl 3 rfl ?_
  refine r_iconst h dL_law_965 ?_
  refine r_iadd h dL_law_966 ?_
  obtain ⟨hi183, hf⟩ := oc_some hf
  refine hr.1 _ _ _ _ _ _ _ _ _ _ dL_law_967 (rI_iw _) hi183 ?_
  refine r_aload_n h dL_law_968 rfl 0 rfl ?_
  refine r_iload_n h dL_law_969 rfl 3 rfl ?_
  refine r_iconst h dL_law_970 ?_
  refine r_iadd h dL_law_971 ?_
  obtain ⟨hi184, hf⟩ := oc_some hf
  refine hr.1 _ _ _ _ _ _ _ _ _ _ dL_law_972 (rI_iw _) hi184 ?_
  refine r_aload_n h dL_law_973 rfl 0 rfl ?_
  refine r_iload_n h dL_law_974 rfl 3 rfl ?_
  refine r_iconst h dL_law_975 ?_
  refine r_iadd h dL_law_976 ?_
  obtain ⟨hi185, hf⟩ := oc_some hf
  refine hr.1 _ _ _ _ _ _ _ _ _ _ dL_law_977 (rI_iw _) hi185 ?_
  obtain ⟨r186, s186, hq186, hf⟩ := ob_some hf
  refine r_callV1 h [.int (vI ((xs (iw (x3 + 1)).toNat).toInt)), .int (vI ((xs (iw (x3 + 2)).toNat).toInt)), .int (vI ((xs (iw (x3 + 3)).toNat).toInt)), .int (vI ((xs (iw (x3 + 4)).toNat).toInt))] dL_law_978 (fun hs => m_Qu_loud hw (by decide) (rI_to _) (rI_to _) (rI_to _) (rI_to _) hs hq186) ml_L_121 cv_Qu_loud rfl (co := 11) rfl (by decide) (by decide) rC_0 ⟨rfl, rfl⟩ ⟨Nat.le_of_ble_eq_true rfl, Nat.le_of_ble_eq_true rfl⟩ ⟨Nat.le_of_ble_eq_true rfl, Nat.le_of_ble_eq_true rfl⟩ (Nat.le_of_ble_eq_true rfl) rfl (fun hr186 hs186 => ?_)
  refine r_aload_n h dL_law_981 rfl 2 rfl ?_
  refine r_aload_n h dL_law_982 rfl 0 rfl ?_
  refine r_iload_n h dL_law_983 rfl 3 rfl ?_
  refine r_iconst h dL_law_984 ?_
  refine r_iadd h dL_law_985 ?_
  obtain ⟨hi187, hf⟩ := oc_some hf
  refine hr.1 _ _ _ _ _ _ _ _ _ _ dL_law_986 (rI_iw _) hi187 ?_
  refine r_aload_n h dL_law_987 rfl 0 rfl ?_
  refine r_iload_n h dL_law_988 rfl 3 rfl ?_
  refine r_iconst h dL_law_989 ?_
  refine r_iadd h dL_law_990 ?_
  obtain ⟨hi188, hf⟩ := oc_some hf
  refine hr.1 _ _ _ _ _ _ _ _ _ _ dL_law_991 (rI_iw _) hi188 ?_
  refine r_aload_n h dL_law_992 rfl 0 rfl ?_
  refine r_iload_n h dL_law_993 rfl 3 rfl ?_
  refine r_iconst h dL_law_994 ?_
  refine r_iadd h dL_law_995 ?_
  obtain ⟨hi189, hf⟩ := oc_some hf
  refine hr.1 _ _ _ _ _ _ _ _ _ _ dL_law_996 (rI_iw _) hi189 ?_
  refine r_aload_n h dL_law_997 rfl 0 rfl ?_
  refine r_iload_n h dL_law_998 rfl 3 rfl ?_
  refine r_iconst h dL_law_999 ?_
  refine r_iadd h dL_law_1000 ?_
  obtain ⟨hi190, hf⟩ := oc_some hf
  refine hr.1 _ _ _ _ _ _ _ _ _ _ dL_law_1001 (rI_iw _) hi190 ?_
  obtain ⟨r191, s191, hq191, hf⟩ := ob_some hf
  refine r_callV1 h [.int (vI ((xs (iw (x3 + 1)).toNat).toInt)), .int (vI ((xs (iw (x3 + 2)).toNat).toInt)), .int (vI ((xs (iw (x3 + 3)).toNat).toInt)), .int (vI ((xs (iw (x3 + 4)).toNat).toInt))] dL_law_1002 (fun hs => m_Mo_loud hw.1 (by decide) (rI_to _) (rI_to _) (rI_to _) (rI_to _) hs hq191) ml_L_124 cv_Mo_loud rfl (co := 12) rfl (by decide) (by decide) rC_86 ⟨rfl, rfl⟩ ⟨Nat.le_of_ble_eq_true rfl, Nat.le_of_ble_eq_true rfl⟩ ⟨Nat.le_of_ble_eq_true rfl, Nat.le_of_ble_eq_true rfl⟩ (Nat.le_of_ble_eq_true rfl) rfl (fun hr191 hs191 => ?_)
  refine r_icmp_eq (tgt := 1386) h dL_law_1005 (by decide) hr186 hr191 (fun hc192 => ?_) (fun hc192 => ?_)
  · have hf := ite_t hc192 hf
    refine r_iinc h [(3, .int (vI (iw (x3 + 7)))), (0, .ref b), (1, .ref (ad 0)), (2, .ref (ad 86))] dL_law_1386 3 rfl (by decide) rfl ?_
    refine r_goto (tgt := 18) h dL_law_1389 (by decide) ?_
    refine r_sub h [1, 2, 3, 0] rfl ?_
    exact hself18 (iw (x3 + 7)) s191 (rI_iw _) hf
  · have hf := ite_f hc192 hf
    refine r_iconst h dL_law_1008 ?_
    cases hf
    exact absurd hout (by show ¬ (0 : Int) = 1; decide)
set_option maxRecDepth 20000 in
theorem c_Law_1010 {l : Launch} {D : va_G} {cs : Nat → ClassId} {aS aV : Nat} {A : Nat → Prop} {K : KT} {ad : Nat → Nat} {nm : String} {out : Int × SS} (hout : out.1 = 1) {b L : Nat} {xs : Nat → Int32} (hL : L ≤ 3584) (h : w_Cl l room_1 D cs aS aV A cL_law 4 RL nm K) (hr : w_LR b L xs K) (hw : w_W0 138 (nlE 148)) (x3 : Int) (self18 : Int → SS → OO) (hself18 : ∀ (x3 : Int) (τ : SS), rI x3 → self18 x3 τ = some out → K ad 138 (nlE 148) 138 14691 18 [(0, .ref b), (1, .ref (ad 0)), (2, .ref (ad 86)), (3, .int (vI x3))] [] τ) (s0 : SS) (rx3 : rI x3) (hf : c_Law_1010_f xs L self18 x3 s0 = some out) : K ad 138 (nlE 148) 138 14691 1010 [(0, .ref b), (1, .ref (ad 0)), (2, .ref (ad 86)), (3, .int (vI x3))] [] s0 := by
  unfold c_Law_1010_f at hf
  refine r_rS h (fun hs0 => ?_)
  refine r_aload_n h dL_law_1010 rfl 1 rfl ?_
  refine r_aload_n h dL_law_1011 rfl 0 rfl ?_
  refine r_iload_n h dL_law_1012 rfl 3 rfl ?_
  refine r_iconst h dL_law_1013 ?_
  refine r_iadd h dL_law_1014 ?_
  obtain ⟨hi194, hf⟩ := oc_some hf
  refine hr.1 _ _ _ _ _ _ _ _ _ _ dL_law_1015 (rI_iw _) hi194 ?_
  refine r_aload_n h dL_law_1016 rfl 0 rfl ?_
  refine r_iload_n h dL_law_1017 rfl 3 rfl ?_
  refine r_iconst h dL_law_1018 ?_
  refine r_iadd h dL_law_1019 ?_
  obtain ⟨hi195, hf⟩ := oc_some hf
  refine hr.1 _ _ _ _ _ _ _ _ _ _ dL_law_1020 (rI_iw _) hi195 ?_
  refine r_aload_n h dL_law_1021 rfl 0 rfl ?_
  refine r_iload_n h dL_law_1022 rfl 3 rfl ?_
  refine r_iconst h dL_law_1023 ?_
  refine r_iadd h dL_law_1024 ?_
  obtain ⟨hi196, hf⟩ := oc_some hf
  refine hr.1 _ _ _ _ _ _ _ _ _ _ dL_law_1025 (rI_iw _) hi196 ?_
  refine r_aload_n h dL_law_1026 rfl 0 rfl ?_
  refine r_iload_n h dL_law_1027 rfl 3 rfl ?_
  refine r_iconst h dL_law_1028 ?_
  refine r_iadd h dL_law_1029 ?_
  obtain ⟨hi197, hf⟩ := oc_some hf
  refine hr.1 _ _ _ _ _ _ _ _ _ _ dL_law_1030 (rI_iw _) hi197 ?_
  refine r_aload_n h dL_law_1031 rfl 0 rfl ?_
  refine r_iload_n h dL_law_1032 rfl 3 rfl ?_
  refine r_iconst h dL_law_1033 ?_
  refine r_iadd h dL_law_1034 ?_
  obtain ⟨hi198, hf⟩ := oc_some hf
  refine hr.1 _ _ _ _ _ _ _ _ _ _ dL_law_1035 (rI_iw _) hi198 ?_
  refine r_aload_n h dL_law_1036 rfl 0 rfl ?_
  refine r_iload_n h dL_law_1037 rfl 3 rfl ?_
  refine r_bipush h dL_law_1038 (by decide) ?_
  refine r_iadd h dL_law_1040 ?_
  obtain ⟨hi199, hf⟩ := oc_some hf
  refine hr.1 _ _ _ _ _ _ _ _ _ _ dL_law_1041 (rI_iw _) hi199 ?_
  obtain ⟨r200, s200, hq200, hf⟩ := ob_some hf
  refine r_callV1 h [.int (vI ((xs (iw (x3 + 1)).toNat).toInt)), .int (vI ((xs (iw (x3 + 2)).toNat).toInt)), .int (vI ((xs (iw (x3 + 3)).toNat).toInt)), .int (vI ((xs (iw (x3 + 4)).toNat).toInt)), .int (vI ((xs (iw (x3 + 5)).toNat).toInt)), .int (vI ((xs (iw (x3 + 6)).toNat).toInt))] dL_law_1042 (fun hs => m_Qu_home hw (by decide) (rI_to _) (rI_to _) (rI_to _) (rI_to _) (rI_to _) (rI_to _) hs hq200) ml_L_125 cv_Qu_home rfl (co := 11) rfl (by decide) (by decide) rC_0 ⟨rfl, rfl⟩ ⟨Nat.le_of_ble_eq_true rfl, Nat.le_of_ble_eq_true rfl⟩ ⟨Nat.le_of_ble_eq_true rfl, Nat.le_of_ble_eq_true rfl⟩ (Nat.le_of_ble_eq_true rfl) rfl (fun hr200 hs200 => ?_)
  refine r_aload_n h dL_law_1045 rfl 2 rfl ?_
  refine r_aload_n h dL_law_1046 rfl 0 rfl ?_
  refine r_iload_n h dL_law_1047 rfl 3 rfl ?_
  refine r_iconst h dL_law_1048 ?_
  refine r_iadd h dL_law_1049 ?_
  obtain ⟨hi201, hf⟩ := oc_some hf
  refine hr.1 _ _ _ _ _ _ _ _ _ _ dL_law_1050 (rI_iw _) hi201 ?_
  refine r_aload_n h dL_law_1051 rfl 0 rfl ?_
  refine r_iload_n h dL_law_1052 rfl 3 rfl ?_
  refine r_iconst h dL_law_1053 ?_
  refine r_iadd h dL_law_1054 ?_
  obtain ⟨hi202, hf⟩ := oc_some hf
  refine hr.1 _ _ _ _ _ _ _ _ _ _ dL_law_1055 (rI_iw _) hi202 ?_
  refine r_aload_n h dL_law_1056 rfl 0 rfl ?_
  refine r_iload_n h dL_law_1057 rfl 3 rfl ?_
  refine r_iconst h dL_law_1058 ?_
  refine r_iadd h dL_law_1059 ?_
  obtain ⟨hi203, hf⟩ := oc_some hf
  refine hr.1 _ _ _ _ _ _ _ _ _ _ dL_law_1060 (rI_iw _) hi203 ?_
  refine r_aload_n h dL_law_1061 rfl 0 rfl ?_
  refine r_iload_n h dL_law_1062 rfl 3 rfl ?_
  refine r_iconst h dL_law_1063 ?_
  refine r_iadd h dL_law_1064 ?_
  obtain ⟨hi204, hf⟩ := oc_some hf
  refine hr.1 _ _ _ _ _ _ _ _ _ _ dL_law_1065 (rI_iw _) hi204 ?_
  refine r_aload_n h dL_law_1066 rfl 0 rfl ?_
  refine r_iload_n h dL_law_1067 rfl 3 rfl ?_
  refine r_iconst h dL_law_1068 ?_
  refine r_iadd h dL_law_1069 ?_
  obtain ⟨hi205, hf⟩ := oc_some hf
  refine hr.1 _ _ _ _ _ _ _ _ _ _ dL_law_1070 (rI_iw _) hi205 ?_
  refine r_aload_n h dL_law_1071 rfl 0 rfl ?_
  refine r_iload_n h dL_law_1072 rfl 3 rfl ?_
  refine r_bipush h dL_law_1073 (by decide) ?_
  refine r_iadd h dL_law_1075 ?_
  obtain ⟨hi206, hf⟩ := oc_some hf
  refine hr.1 _ _ _ _ _ _ _ _ _ _ dL_law_1076 (rI_iw _) hi206 ?_
  obtain ⟨r207, s207, hq207, hf⟩ := ob_some hf
  refine r_callV1 h [.int (vI ((xs (iw (x3 + 1)).toNat).toInt)), .int (vI ((xs (iw (x3 + 2)).toNat).toInt)), .int (vI ((xs (iw (x3 + 3)).toNat).toInt)), .int (vI ((xs (iw (x3 + 4)).toNat).toInt)), .int (vI ((xs (iw (x3 + 5)).toNat).toInt)), .int (vI ((xs (iw (x3 + 6)).toNat).toInt))] dL_law_1077 (fun hs => m_Mo_home hw.1 (by decide) (rI_to _) (rI_to _) (rI_to _) (rI_to _) (rI_to _) (rI_to _) hs hq207) ml_L_129 cv_Mo_home rfl (co := 12) rfl (by decide) (by decide) rC_86 ⟨rfl, rfl⟩ ⟨Nat.le_of_ble_eq_true rfl, Nat.le_of_ble_eq_true rfl⟩ ⟨Nat.le_of_ble_eq_true rfl, Nat.le_of_ble_eq_true rfl⟩ (Nat.le_of_ble_eq_true rfl) rfl (fun hr207 hs207 => ?_)
  refine r_icmp_eq (tgt := 1386) h dL_law_1080 (by decide) hr200 hr207 (fun hc208 => ?_) (fun hc208 => ?_)
  · have hf := ite_t hc208 hf
    refine r_iinc h [(3, .int (vI (iw (x3 + 7)))), (0, .ref b), (1, .ref (ad 0)), (2, .ref (ad 86))] dL_law_1386 3 rfl (by decide) rfl ?_
    refine r_goto (tgt := 18) h dL_law_1389 (by decide) ?_
    refine r_sub h [1, 2, 3, 0] rfl ?_
    exact hself18 (iw (x3 + 7)) s207 (rI_iw _) hf
  · have hf := ite_f hc208 hf
    refine r_iconst h dL_law_1083 ?_
    cases hf
    exact absurd hout (by show ¬ (0 : Int) = 1; decide)
set_option maxRecDepth 20000 in
theorem c_Law_1085 {l : Launch} {D : va_G} {cs : Nat → ClassId} {aS aV : Nat} {A : Nat → Prop} {K : KT} {ad : Nat → Nat} {nm : String} {out : Int × SS} (hout : out.1 = 1) {b L : Nat} {xs : Nat → Int32} (hL : L ≤ 3584) (h : w_Cl l room_1 D cs aS aV A cL_law 4 RL nm K) (hr : w_LR b L xs K) (hw : w_W0 138 (nlE 148)) (x3 : Int) (self18 : Int → SS → OO) (hself18 : ∀ (x3 : Int) (τ : SS), rI x3 → self18 x3 τ = some out → K ad 138 (nlE 148) 138 14691 18 [(0, .ref b), (1, .ref (ad 0)), (2, .ref (ad 86)), (3, .int (vI x3))] [] τ) (s0 : SS) (rx3 : rI x3) (hf : c_Law_1085_f xs L self18 x3 s0 = some out) : K ad 138 (nlE 148) 138 14691 1085 [(0, .ref b), (1, .ref (ad 0)), (2, .ref (ad 86)), (3, .int (vI x3))] [] s0 := by
  unfold c_Law_1085_f at hf
  refine r_rS h (fun hs0 => ?_)
  refine r_aload_n h dL_law_1085 rfl 1 rfl ?_
  refine r_aload_n h dL_law_1086 rfl 0 rfl ?_
  refine r_iload_n h dL_law_1087 rfl 3 rfl ?_
  refine r_iconst h dL_law_1088 ?_
  refine r_iadd h dL_law_1089 ?_
  obtain ⟨hi210, hf⟩ := oc_some hf
  refine hr.1 _ _ _ _ _ _ _ _ _ _ dL_law_1090 (rI_iw _) hi210 ?_
  refine r_aload_n h dL_law_1091 rfl 0 rfl ?_
  refine r_iload_n h dL_law_1092 rfl 3 rfl ?_
  refine r_iconst h dL_law_1093 ?_
  refine r_iadd h dL_law_1094 ?_
  obtain ⟨hi211, hf⟩ := oc_some hf
  refine hr.1 _ _ _ _ _ _ _ _ _ _ dL_law_1095 (rI_iw _) hi211 ?_
  refine r_aload_n h dL_law_1096 rfl 0 rfl ?_
  refine r_iload_n h dL_law_1097 rfl 3 rfl ?_
  refine r_iconst h dL_law_1098 ?_
  refine r_iadd h dL_law_1099 ?_
  obtain ⟨hi212, hf⟩ := oc_some hf
  refine hr.1 _ _ _ _ _ _ _ _ _ _ dL_law_1100 (rI_iw _) hi212 ?_
  refine r_aload_n h dL_law_1101 rfl 0 rfl ?_
  refine r_iload_n h dL_law_1102 rfl 3 rfl ?_
  refine r_iconst h dL_law_1103 ?_
  refine r_iadd h dL_law_1104 ?_
  obtain ⟨hi213, hf⟩ := oc_some hf
  refine hr.1 _ _ _ _ _ _ _ _ _ _ dL_law_1105 (rI_iw _) hi213 ?_
  obtain ⟨r214, s214, hq214, hf⟩ := ob_some hf
  refine r_callV1 h [.int (vI ((xs (iw (x3 + 1)).toNat).toInt)), .int (vI ((xs (iw (x3 + 2)).toNat).toInt)), .int (vI ((xs (iw (x3 + 3)).toNat).toInt)), .int (vI ((xs (iw (x3 + 4)).toNat).toInt))] dL_law_1106 (fun hs => m_Qu_temper hw (by decide) (rI_to _) (rI_to _) (rI_to _) (rI_to _) hs hq214) ml_L_130 cv_Qu_temper rfl (co := 11) rfl (by decide) (by decide) rC_0 ⟨rfl, rfl⟩ ⟨Nat.le_of_ble_eq_true rfl, Nat.le_of_ble_eq_true rfl⟩ ⟨Nat.le_of_ble_eq_true rfl, Nat.le_of_ble_eq_true rfl⟩ (Nat.le_of_ble_eq_true rfl) rfl (fun hr214 hs214 => ?_)
  refine r_aload_n h dL_law_1109 rfl 2 rfl ?_
  refine r_aload_n h dL_law_1110 rfl 0 rfl ?_
  refine r_iload_n h dL_law_1111 rfl 3 rfl ?_
  refine r_iconst h dL_law_1112 ?_
  refine r_iadd h dL_law_1113 ?_
  obtain ⟨hi215, hf⟩ := oc_some hf
  refine hr.1 _ _ _ _ _ _ _ _ _ _ dL_law_1114 (rI_iw _) hi215 ?_
  refine r_aload_n h dL_law_1115 rfl 0 rfl ?_
  refine r_iload_n h dL_law_1116 rfl 3 rfl ?_
  refine r_iconst h dL_law_1117 ?_
  refine r_iadd h dL_law_1118 ?_
  obtain ⟨hi216, hf⟩ := oc_some hf
  refine hr.1 _ _ _ _ _ _ _ _ _ _ dL_law_1119 (rI_iw _) hi216 ?_
  refine r_aload_n h dL_law_1120 rfl 0 rfl ?_
  refine r_iload_n h dL_law_1121 rfl 3 rfl ?_
  refine r_iconst h dL_law_1122 ?_
  refine r_iadd h dL_law_1123 ?_
  obtain ⟨hi217, hf⟩ := oc_some hf
  refine hr.1 _ _ _ _ _ _ _ _ _ _ dL_law_1124 (rI_iw _) hi217 ?_
  refine r_aload_n h dL_law_1125 rfl 0 rfl ?_
  refine r_iload_n h dL_law_1126 rfl 3 rfl ?_
  refine r_iconst h dL_law_1127 ?_
  refine r_iadd h dL_law_1128 ?_
  obtain ⟨hi218, hf⟩ := oc_some hf
  refine hr.1 _ _ _ _ _ _ _ _ _ _ dL_law_1129 (rI_iw _) hi218 ?_
  obtain ⟨r219, s219, hq219, hf⟩ := ob_some hf
  refine r_callV1 h [.int (vI ((xs (iw (x3 + 1)).toNat).toInt)), .int (vI ((xs (iw (x3 + 2)).toNat).toInt)), .int (vI ((xs (iw (x3 + 3)).toNat).toInt)), .int (vI ((xs (iw (x3 + 4)).toNat).toInt))] dL_law_1130 (fun hs => m_Mo_temper hw.1 (by decide) (rI_to _) (rI_to _) (rI_to _) (rI_to _) hs hq219) ml_L_133 cv_Mo_temper rfl (co := 12) rfl (by decide) (by decide) rC_86 ⟨rfl, rfl⟩ ⟨Nat.le_of_ble_eq_true rfl, Nat.le_of_ble_eq_true rfl⟩ ⟨Nat.le_of_ble_eq_true rfl, Nat.le_of_ble_eq_true rfl⟩ (Nat.le_of_ble_eq_true rfl) rfl (fun hr219 hs219 => ?_)
  refine r_icmp_eq (tgt := 1386) h dL_law_1133 (by decide) hr214 hr219 (fun hc220 => ?_) (fun hc220 => ?_)
  · have hf := ite_t hc220 hf
    refine r_iinc h [(3, .int (vI (iw (x3 + 7)))), (0, .ref b), (1, .ref (ad 0)), (2, .ref (ad 86))] dL_law_1386 3 rfl (by decide) rfl ?_
    refine r_goto (tgt := 18) h dL_law_1389 (by decide) ?_
    refine r_sub h [1, 2, 3, 0] rfl ?_
    exact hself18 (iw (x3 + 7)) s219 (rI_iw _) hf
  · have hf := ite_f hc220 hf
    refine r_iconst h dL_law_1136 ?_
    cases hf
    exact absurd hout (by show ¬ (0 : Int) = 1; decide)
set_option maxRecDepth 20000 in
theorem c_Law_1138 {l : Launch} {D : va_G} {cs : Nat → ClassId} {aS aV : Nat} {A : Nat → Prop} {K : KT} {ad : Nat → Nat} {nm : String} {out : Int × SS} (hout : out.1 = 1) {b L : Nat} {xs : Nat → Int32} (hL : L ≤ 3584) (h : w_Cl l room_1 D cs aS aV A cL_law 4 RL nm K) (hr : w_LR b L xs K) (hw : w_W0 138 (nlE 148)) (x3 : Int) (self18 : Int → SS → OO) (hself18 : ∀ (x3 : Int) (τ : SS), rI x3 → self18 x3 τ = some out → K ad 138 (nlE 148) 138 14691 18 [(0, .ref b), (1, .ref (ad 0)), (2, .ref (ad 86)), (3, .int (vI x3))] [] τ) (s0 : SS) (rx3 : rI x3) (hf : c_Law_1138_f xs L self18 x3 s0 = some out) : K ad 138 (nlE 148) 138 14691 1138 [(0, .ref b), (1, .ref (ad 0)), (2, .ref (ad 86)), (3, .int (vI x3))] [] s0 := by
  unfold c_Law_1138_f at hf
  refine r_rS h (fun hs0 => ?_)
  refine r_aload_n h dL_law_1138 rfl 1 rfl ?_
  refine r_aload_n h dL_law_1139 rfl 0 rfl ?_
  refine r_iload_n h dL_law_1140 rfl 3 rfl ?_
  refine r_iconst h dL_law_1141 ?_
  refine r_iadd h dL_law_1142 ?_
  obtain ⟨hi222, hf⟩ := oc_some hf
  refine hr.1 _ _ _ _ _ _ _ _ _ _ dL_law_1143 (rI_iw _) hi222 ?_
  obtain ⟨r223, s223, hq223, hf⟩ := ob_some hf
  refine r_callV1 h [.int (vI ((xs (iw (x3 + 1)).toNat).toInt))] dL_law_1144 (fun hs => m_Qu_lies hw (by decide) (rI_to _) hs hq223) ml_L_134 cv_Qu_lies rfl (co := 11) rfl (by decide) (by decide) rC_0 ⟨rfl, rfl⟩ ⟨Nat.le_of_ble_eq_true rfl, Nat.le_of_ble_eq_true rfl⟩ ⟨Nat.le_of_ble_eq_true rfl, Nat.le_of_ble_eq_true rfl⟩ (Nat.le_of_ble_eq_true rfl) rfl (fun hr223 hs223 => ?_)
  refine r_aload_n h dL_law_1147 rfl 2 rfl ?_
  refine r_aload_n h dL_law_1148 rfl 0 rfl ?_
  refine r_iload_n h dL_law_1149 rfl 3 rfl ?_
  refine r_iconst h dL_law_1150 ?_
  refine r_iadd h dL_law_1151 ?_
  obtain ⟨hi224, hf⟩ := oc_some hf
  refine hr.1 _ _ _ _ _ _ _ _ _ _ dL_law_1152 (rI_iw _) hi224 ?_
  obtain ⟨r225, s225, hq225, hf⟩ := ob_some hf
  refine r_callV1 h [.int (vI ((xs (iw (x3 + 1)).toNat).toInt))] dL_law_1153 (fun hs => m_Mo_lies hw.1 (by decide) (rI_to _) hs hq225) ml_L_137 cv_Mo_lies rfl (co := 12) rfl (by decide) (by decide) rC_86 ⟨rfl, rfl⟩ ⟨Nat.le_of_ble_eq_true rfl, Nat.le_of_ble_eq_true rfl⟩ ⟨Nat.le_of_ble_eq_true rfl, Nat.le_of_ble_eq_true rfl⟩ (Nat.le_of_ble_eq_true rfl) rfl (fun hr225 hs225 => ?_)
  refine r_icmp_eq (tgt := 1386) h dL_law_1156 (by decide) hr223 hr225 (fun hc226 => ?_) (fun hc226 => ?_)
  · have hf := ite_t hc226 hf
    refine r_iinc h [(3, .int (vI (iw (x3 + 7)))), (0, .ref b), (1, .ref (ad 0)), (2, .ref (ad 86))] dL_law_1386 3 rfl (by decide) rfl ?_
    refine r_goto (tgt := 18) h dL_law_1389 (by decide) ?_
    refine r_sub h [1, 2, 3, 0] rfl ?_
    exact hself18 (iw (x3 + 7)) s225 (rI_iw _) hf
  · have hf := ite_f hc226 hf
    refine r_iconst h dL_law_1159 ?_
    cases hf
    exact absurd hout (by show ¬ (0 : Int) = 1; decide)
set_option maxRecDepth 20000 in
theorem c_Law_1161 {l : Launch} {D : va_G} {cs : Nat → ClassId} {aS aV : Nat} {A : Nat → Prop} {K : KT} {ad : Nat → Nat} {nm : String} {out : Int × SS} (hout : out.1 = 1) {b L : Nat} {xs : Nat → Int32} (hL : L ≤ 3584) (h : w_Cl l room_1 D cs aS aV A cL_law 4 RL nm K) (hr : w_LR b L xs K) (hw : w_W0 138 (nlE 148)) (x3 : Int) (self18 : Int → SS → OO) (hself18 : ∀ (x3 : Int) (τ : SS), rI x3 → self18 x3 τ = some out → K ad 138 (nlE 148) 138 14691 18 [(0, .ref b), (1, .ref (ad 0)), (2, .ref (ad 86)), (3, .int (vI x3))] [] τ) (s0 : SS) (rx3 : rI x3) (hf : c_Law_1161_f xs L self18 x3 s0 = some out) : K ad 138 (nlE 148) 138 14691 1161 [(0, .ref b), (1, .ref (ad 0)), (2, .ref (ad 86)), (3, .int (vI x3))] [] s0 := by
  unfold c_Law_1161_f at hf
  refine r_rS h (fun hs0 => ?_)
  refine r_aload_n h dL_law_1161 rfl 1 rfl ?_
  refine r_aload_n h dL_law_1162 rfl 0 rfl ?_
  refine r_iload_n h dL_law_1163 rfl 3 rfl ?_
  refine r_iconst h dL_law_1164 ?_
  refine r_iadd h dL_law_1165 ?_
  obtain ⟨hi228, hf⟩ := oc_some hf
  refine hr.1 _ _ _ _ _ _ _ _ _ _ dL_law_1166 (rI_iw _) hi228 ?_
  refine r_aload_n h dL_law_1167 rfl 0 rfl ?_
  refine r_iload_n h dL_law_1168 rfl 3 rfl ?_
  refine r_iconst h dL_law_1169 ?_
  refine r_iadd h dL_law_1170 ?_
  obtain ⟨hi229, hf⟩ := oc_some hf
  refine hr.1 _ _ _ _ _ _ _ _ _ _ dL_law_1171 (rI_iw _) hi229 ?_
  refine r_aload_n h dL_law_1172 rfl 0 rfl ?_
  refine r_iload_n h dL_law_1173 rfl 3 rfl ?_
  refine r_iconst h dL_law_1174 ?_
  refine r_iadd h dL_law_1175 ?_
  obtain ⟨hi230, hf⟩ := oc_some hf
  refine hr.1 _ _ _ _ _ _ _ _ _ _ dL_law_1176 (rI_iw _) hi230 ?_
  refine r_aload_n h dL_law_1177 rfl 0 rfl ?_
  refine r_iload_n h dL_law_1178 rfl 3 rfl ?_
  refine r_iconst h dL_law_1179 ?_
  refine r_iadd h dL_law_1180 ?_
  obtain ⟨hi231, hf⟩ := oc_some hf
  refine hr.1 _ _ _ _ _ _ _ _ _ _ dL_law_1181 (rI_iw _) hi231 ?_
  obtain ⟨r232, s232, hq232, hf⟩ := ob_some hf
  refine r_callV1 h [.int (vI ((xs (iw (x3 + 1)).toNat).toInt)), .int (vI ((xs (iw (x3 + 2)).toNat).toInt)), .int (vI ((xs (iw (x3 + 3)).toNat).toInt)), .int (vI ((xs (iw (x3 + 4)).toNat).toInt))] dL_law_1182 (fun hs => m_Qu_report hw (by decide) (rI_to _) (rI_to _) (rI_to _) (rI_to _) hs hq232) ml_L_138 cv_Qu_report rfl (co := 11) rfl (by decide) (by decide) rC_0 ⟨rfl, rfl⟩ ⟨Nat.le_of_ble_eq_true rfl, Nat.le_of_ble_eq_true rfl⟩ ⟨Nat.le_of_ble_eq_true rfl, Nat.le_of_ble_eq_true rfl⟩ (Nat.le_of_ble_eq_true rfl) rfl (fun hr232 hs232 => ?_)
  refine r_aload_n h dL_law_1185 rfl 2 rfl ?_
  refine r_aload_n h dL_law_1186 rfl 0 rfl ?_
  refine r_iload_n h dL_law_1187 rfl 3 rfl ?_
  refine r_iconst h dL_law_1188 ?_
  refine r_iadd h dL_law_1189 ?_
  obtain ⟨hi233, hf⟩ := oc_some hf
  refine hr.1 _ _ _ _ _ _ _ _ _ _ dL_law_1190 (rI_iw _) hi233 ?_
  refine r_aload_n h dL_law_1191 rfl 0 rfl ?_
  refine r_iload_n h dL_law_1192 rfl 3 rfl ?_
  refine r_iconst h dL_law_1193 ?_
  refine r_iadd h dL_law_1194 ?_
  obtain ⟨hi234, hf⟩ := oc_some hf
  refine hr.1 _ _ _ _ _ _ _ _ _ _ dL_law_1195 (rI_iw _) hi234 ?_
  refine r_aload_n h dL_law_1196 rfl 0 rfl ?_
  refine r_iload_n h dL_law_1197 rfl 3 rfl ?_
  refine r_iconst h dL_law_1198 ?_
  refine r_iadd h dL_law_1199 ?_
  obtain ⟨hi235, hf⟩ := oc_some hf
  refine hr.1 _ _ _ _ _ _ _ _ _ _ dL_law_1200 (rI_iw _) hi235 ?_
  refine r_aload_n h dL_law_1201 rfl 0 rfl ?_
  refine r_iload_n h dL_law_1202 rfl 3 rfl ?_
  refine r_iconst h dL_law_1203 ?_
  refine r_iadd h dL_law_1204 ?_
  obtain ⟨hi236, hf⟩ := oc_some hf
  refine hr.1 _ _ _ _ _ _ _ _ _ _ dL_law_1205 (rI_iw _) hi236 ?_
  obtain ⟨r237, s237, hq237, hf⟩ := ob_some hf
  refine r_callV1 h [.int (vI ((xs (iw (x3 + 1)).toNat).toInt)), .int (vI ((xs (iw (x3 + 2)).toNat).toInt)), .int (vI ((xs (iw (x3 + 3)).toNat).toInt)), .int (vI ((xs (iw (x3 + 4)).toNat).toInt))] dL_law_1206 (fun hs => m_Mo_report hw.1 (by decide) (rI_to _) (rI_to _) (rI_to _) (rI_to _) hs hq237) ml_L_141 cv_Mo_report rfl (co := 12) rfl (by decide) (by decide) rC_86 ⟨rfl, rfl⟩ ⟨Nat.le_of_ble_eq_true rfl, Nat.le_of_ble_eq_true rfl⟩ ⟨Nat.le_of_ble_eq_true rfl, Nat.le_of_ble_eq_true rfl⟩ (Nat.le_of_ble_eq_true rfl) rfl (fun hr237 hs237 => ?_)
  refine r_icmp_eq (tgt := 1386) h dL_law_1209 (by decide) hr232 hr237 (fun hc238 => ?_) (fun hc238 => ?_)
  · have hf := ite_t hc238 hf
    refine r_iinc h [(3, .int (vI (iw (x3 + 7)))), (0, .ref b), (1, .ref (ad 0)), (2, .ref (ad 86))] dL_law_1386 3 rfl (by decide) rfl ?_
    refine r_goto (tgt := 18) h dL_law_1389 (by decide) ?_
    refine r_sub h [1, 2, 3, 0] rfl ?_
    exact hself18 (iw (x3 + 7)) s237 (rI_iw _) hf
  · have hf := ite_f hc238 hf
    refine r_iconst h dL_law_1212 ?_
    cases hf
    exact absurd hout (by show ¬ (0 : Int) = 1; decide)
set_option maxRecDepth 20000 in
theorem c_Law_1214 {l : Launch} {D : va_G} {cs : Nat → ClassId} {aS aV : Nat} {A : Nat → Prop} {K : KT} {ad : Nat → Nat} {nm : String} {out : Int × SS} (hout : out.1 = 1) {b L : Nat} {xs : Nat → Int32} (hL : L ≤ 3584) (h : w_Cl l room_1 D cs aS aV A cL_law 4 RL nm K) (hr : w_LR b L xs K) (hw : w_W0 138 (nlE 148)) (x3 : Int) (self18 : Int → SS → OO) (hself18 : ∀ (x3 : Int) (τ : SS), rI x3 → self18 x3 τ = some out → K ad 138 (nlE 148) 138 14691 18 [(0, .ref b), (1, .ref (ad 0)), (2, .ref (ad 86)), (3, .int (vI x3))] [] τ) (s0 : SS) (rx3 : rI x3) (hf : c_Law_1214_f xs L self18 x3 s0 = some out) : K ad 138 (nlE 148) 138 14691 1214 [(0, .ref b), (1, .ref (ad 0)), (2, .ref (ad 86)), (3, .int (vI x3))] [] s0 := by
  unfold c_Law_1214_f at hf
  refine r_rS h (fun hs0 => ?_)
  refine r_aload_n h dL_law_1214 rfl 1 rfl ?_
  refine r_aload_n h dL_law_1215 rfl 0 rfl ?_
  refine r_iload_n h dL_law_1216 rfl 3 rfl ?_
  refine r_iconst h dL_law_1217 ?_
  refine r_iadd h dL_law_1218 ?_
  obtain ⟨hi240, hf⟩ := oc_some hf
  refine hr.1 _ _ _ _ _ _ _ _ _ _ dL_law_1219 (rI_iw _) hi240 ?_
  obtain ⟨r241, s241, hq241, hf⟩ := ob_some hf
  refine r_callV2 h [.int (vI ((xs (iw (x3 + 1)).toNat).toInt))] dL_law_1220 (fun hs => m_Qu_untell hw (by decide) (rI_to _) hs hq241) ml_L_142 cv_Qu_untell rfl (co := 11) rfl (by decide) (by decide) rC_0 ⟨rfl, rfl⟩ ⟨Nat.le_of_ble_eq_true rfl, Nat.le_of_ble_eq_true rfl⟩ ⟨Nat.le_of_ble_eq_true rfl, Nat.le_of_ble_eq_true rfl⟩ (Nat.le_of_ble_eq_true rfl) rfl (fun hr241 hs241 => ?_)
  refine r_aload_n h dL_law_1223 rfl 2 rfl ?_
  refine r_aload_n h dL_law_1224 rfl 0 rfl ?_
  refine r_iload_n h dL_law_1225 rfl 3 rfl ?_
  refine r_iconst h dL_law_1226 ?_
  refine r_iadd h dL_law_1227 ?_
  obtain ⟨hi242, hf⟩ := oc_some hf
  refine hr.1 _ _ _ _ _ _ _ _ _ _ dL_law_1228 (rI_iw _) hi242 ?_
  obtain ⟨r243, s243, hq243, hf⟩ := ob_some hf
  refine r_callV2 h [.int (vI ((xs (iw (x3 + 1)).toNat).toInt))] dL_law_1229 (fun hs => m_Mo_untell hw.1 (by decide) (rI_to _) hs hq243) ml_L_146 cv_Mo_untell rfl (co := 12) rfl (by decide) (by decide) rC_86 ⟨rfl, rfl⟩ ⟨Nat.le_of_ble_eq_true rfl, Nat.le_of_ble_eq_true rfl⟩ ⟨Nat.le_of_ble_eq_true rfl, Nat.le_of_ble_eq_true rfl⟩ (Nat.le_of_ble_eq_true rfl) rfl (fun hr243 hs243 => ?_)
  refine r_icmp_eq (tgt := 1386) h dL_law_1232 (by decide) (rI_b hr241) (rI_b hr243) (fun hc244 => ?_) (fun hc244 => ?_)
  · have hf := ite_t hc244 hf
    refine r_iinc h [(3, .int (vI (iw (x3 + 7)))), (0, .ref b), (1, .ref (ad 0)), (2, .ref (ad 86))] dL_law_1386 3 rfl (by decide) rfl ?_
    refine r_goto (tgt := 18) h dL_law_1389 (by decide) ?_
    refine r_sub h [1, 2, 3, 0] rfl ?_
    exact hself18 (iw (x3 + 7)) s243 (rI_iw _) hf
  · have hf := ite_f hc244 hf
    refine r_iconst h dL_law_1235 ?_
    cases hf
    exact absurd hout (by show ¬ (0 : Int) = 1; decide)
set_option maxRecDepth 20000 in
theorem c_Law_1237 {l : Launch} {D : va_G} {cs : Nat → ClassId} {aS aV : Nat} {A : Nat → Prop} {K : KT} {ad : Nat → Nat} {nm : String} {out : Int × SS} (hout : out.1 = 1) {b L : Nat} {xs : Nat → Int32} (hL : L ≤ 3584) (h : w_Cl l room_1 D cs aS aV A cL_law 4 RL nm K) (hr : w_LR b L xs K) (hw : w_W0 138 (nlE 148)) (x3 : Int) (self18 : Int → SS → OO) (hself18 : ∀ (x3 : Int) (τ : SS), rI x3 → self18 x3 τ = some out → K ad 138 (nlE 148) 138 14691 18 [(0, .ref b), (1, .ref (ad 0)), (2, .ref (ad 86)), (3, .int (vI x3))] [] τ) (s0 : SS) (rx3 : rI x3) (hf : c_Law_1237_f xs L self18 x3 s0 = some out) : K ad 138 (nlE 148) 138 14691 1237 [(0, .ref b), (1, .ref (ad 0)), (2, .ref (ad 86)), (3, .int (vI x3))] [] s0 := by
  unfold c_Law_1237_f at hf
  refine r_rS h (fun hs0 => ?_)
  refine r_aload_n h dL_law_1237 rfl 1 rfl ?_
  refine r_aload_n h dL_law_1238 rfl 0 rfl ?_
  refine r_iload_n h dL_law_1239 rfl 3 rfl ?_
  refine r_iconst h dL_law_1240 ?_
  refine r_iadd h dL_law_1241 ?_
  obtain ⟨hi246, hf⟩ := oc_some hf
  refine hr.1 _ _ _ _ _ _ _ _ _ _ dL_law_1242 (rI_iw _) hi246 ?_
  obtain ⟨r247, s247, hq247, hf⟩ := ob_some hf
  refine r_callV1 h [.int (vI ((xs (iw (x3 + 1)).toNat).toInt))] dL_law_1243 (fun hs => m_Qu_later hw (by decide) (rI_to _) hs hq247) ml_L_147 cv_Qu_later rfl (co := 11) rfl (by decide) (by decide) rC_0 ⟨rfl, rfl⟩ ⟨Nat.le_of_ble_eq_true rfl, Nat.le_of_ble_eq_true rfl⟩ ⟨Nat.le_of_ble_eq_true rfl, Nat.le_of_ble_eq_true rfl⟩ (Nat.le_of_ble_eq_true rfl) rfl (fun hr247 hs247 => ?_)
  refine r_aload_n h dL_law_1246 rfl 2 rfl ?_
  refine r_aload_n h dL_law_1247 rfl 0 rfl ?_
  refine r_iload_n h dL_law_1248 rfl 3 rfl ?_
  refine r_iconst h dL_law_1249 ?_
  refine r_iadd h dL_law_1250 ?_
  obtain ⟨hi248, hf⟩ := oc_some hf
  refine hr.1 _ _ _ _ _ _ _ _ _ _ dL_law_1251 (rI_iw _) hi248 ?_
  obtain ⟨r249, s249, hq249, hf⟩ := ob_some hf
  refine r_callV1 h [.int (vI ((xs (iw (x3 + 1)).toNat).toInt))] dL_law_1252 (fun hs => m_Mo_later hw.1 (by decide) (rI_to _) hs hq249) ml_L_150 cv_Mo_later rfl (co := 12) rfl (by decide) (by decide) rC_86 ⟨rfl, rfl⟩ ⟨Nat.le_of_ble_eq_true rfl, Nat.le_of_ble_eq_true rfl⟩ ⟨Nat.le_of_ble_eq_true rfl, Nat.le_of_ble_eq_true rfl⟩ (Nat.le_of_ble_eq_true rfl) rfl (fun hr249 hs249 => ?_)
  refine r_icmp_eq (tgt := 1386) h dL_law_1255 (by decide) hr247 hr249 (fun hc250 => ?_) (fun hc250 => ?_)
  · have hf := ite_t hc250 hf
    refine r_iinc h [(3, .int (vI (iw (x3 + 7)))), (0, .ref b), (1, .ref (ad 0)), (2, .ref (ad 86))] dL_law_1386 3 rfl (by decide) rfl ?_
    refine r_goto (tgt := 18) h dL_law_1389 (by decide) ?_
    refine r_sub h [1, 2, 3, 0] rfl ?_
    exact hself18 (iw (x3 + 7)) s249 (rI_iw _) hf
  · have hf := ite_f hc250 hf
    refine r_iconst h dL_law_1258 ?_
    cases hf
    exact absurd hout (by show ¬ (0 : Int) = 1; decide)
set_option maxRecDepth 20000 in
theorem c_Law_1260 {l : Launch} {D : va_G} {cs : Nat → ClassId} {aS aV : Nat} {A : Nat → Prop} {K : KT} {ad : Nat → Nat} {nm : String} {out : Int × SS} (hout : out.1 = 1) {b L : Nat} {xs : Nat → Int32} (hL : L ≤ 3584) (h : w_Cl l room_1 D cs aS aV A cL_law 4 RL nm K) (hr : w_LR b L xs K) (hw : w_W0 138 (nlE 148)) (x3 : Int) (self18 : Int → SS → OO) (hself18 : ∀ (x3 : Int) (τ : SS), rI x3 → self18 x3 τ = some out → K ad 138 (nlE 148) 138 14691 18 [(0, .ref b), (1, .ref (ad 0)), (2, .ref (ad 86)), (3, .int (vI x3))] [] τ) (s0 : SS) (rx3 : rI x3) (hf : c_Law_1260_f xs L self18 x3 s0 = some out) : K ad 138 (nlE 148) 138 14691 1260 [(0, .ref b), (1, .ref (ad 0)), (2, .ref (ad 86)), (3, .int (vI x3))] [] s0 := by
  unfold c_Law_1260_f at hf
  refine r_rS h (fun hs0 => ?_)
  refine r_aload_n h dL_law_1260 rfl 1 rfl ?_
  refine r_aload_n h dL_law_1261 rfl 0 rfl ?_
  refine r_iload_n h dL_law_1262 rfl 3 rfl ?_
  refine r_iconst h dL_law_1263 ?_
  refine r_iadd h dL_law_1264 ?_
  obtain ⟨hi252, hf⟩ := oc_some hf
  refine hr.1 _ _ _ _ _ _ _ _ _ _ dL_law_1265 (rI_iw _) hi252 ?_
  obtain ⟨r253, s253, hq253, hf⟩ := ob_some hf
  refine r_callV3 h [.int (vI ((xs (iw (x3 + 1)).toNat).toInt))] dL_law_1266 (fun hs => m_Qu_miles hw (by decide) (rI_to _) hs hq253) ml_L_151 cv_Qu_miles rfl (co := 11) rfl (by decide) (by decide) rC_0 ⟨rfl, rfl⟩ ⟨Nat.le_of_ble_eq_true rfl, Nat.le_of_ble_eq_true rfl⟩ ⟨Nat.le_of_ble_eq_true rfl, Nat.le_of_ble_eq_true rfl⟩ (Nat.le_of_ble_eq_true rfl) rfl (fun hr253 hs253 => ?_)
  refine r_aload_n h dL_law_1269 rfl 2 rfl ?_
  refine r_aload_n h dL_law_1270 rfl 0 rfl ?_
  refine r_iload_n h dL_law_1271 rfl 3 rfl ?_
  refine r_iconst h dL_law_1272 ?_
  refine r_iadd h dL_law_1273 ?_
  obtain ⟨hi254, hf⟩ := oc_some hf
  refine hr.1 _ _ _ _ _ _ _ _ _ _ dL_law_1274 (rI_iw _) hi254 ?_
  obtain ⟨r255, s255, hq255, hf⟩ := ob_some hf
  refine r_callV3 h [.int (vI ((xs (iw (x3 + 1)).toNat).toInt))] dL_law_1275 (fun hs => m_Mo_miles hw.1 (by decide) (rI_to _) hs hq255) ml_L_155 cv_Mo_miles rfl (co := 12) rfl (by decide) (by decide) rC_86 ⟨rfl, rfl⟩ ⟨Nat.le_of_ble_eq_true rfl, Nat.le_of_ble_eq_true rfl⟩ ⟨Nat.le_of_ble_eq_true rfl, Nat.le_of_ble_eq_true rfl⟩ (Nat.le_of_ble_eq_true rfl) rfl (fun hr255 hs255 => ?_)
  refine r_lcmp h dL_law_1278 hr253 hr255 ?_
  refine r_if_eq (tgt := 1386) h dL_law_1279 (by decide) (rI_ycmp _ _) (fun hc256 => ?_) (fun hc256 => ?_)
  · have hf := ite_t hc256 hf
    refine r_iinc h [(3, .int (vI (iw (x3 + 7)))), (0, .ref b), (1, .ref (ad 0)), (2, .ref (ad 86))] dL_law_1386 3 rfl (by decide) rfl ?_
    refine r_goto (tgt := 18) h dL_law_1389 (by decide) ?_
    refine r_sub h [1, 2, 3, 0] rfl ?_
    exact hself18 (iw (x3 + 7)) s255 (rI_iw _) hf
  · have hf := ite_f hc256 hf
    refine r_iconst h dL_law_1282 ?_
    cases hf
    exact absurd hout (by show ¬ (0 : Int) = 1; decide)
set_option maxRecDepth 20000 in
theorem c_Law_1284 {l : Launch} {D : va_G} {cs : Nat → ClassId} {aS aV : Nat} {A : Nat → Prop} {K : KT} {ad : Nat → Nat} {nm : String} {out : Int × SS} (hout : out.1 = 1) {b L : Nat} {xs : Nat → Int32} (hL : L ≤ 3584) (h : w_Cl l room_1 D cs aS aV A cL_law 4 RL nm K) (hr : w_LR b L xs K) (hw : w_W0 138 (nlE 148)) (x3 : Int) (self18 : Int → SS → OO) (hself18 : ∀ (x3 : Int) (τ : SS), rI x3 → self18 x3 τ = some out → K ad 138 (nlE 148) 138 14691 18 [(0, .ref b), (1, .ref (ad 0)), (2, .ref (ad 86)), (3, .int (vI x3))] [] τ) (s0 : SS) (rx3 : rI x3) (hf : c_Law_1284_f xs L self18 x3 s0 = some out) : K ad 138 (nlE 148) 138 14691 1284 [(0, .ref b), (1, .ref (ad 0)), (2, .ref (ad 86)), (3, .int (vI x3))] [] s0 := by
  unfold c_Law_1284_f at hf
  refine r_rS h (fun hs0 => ?_)
  refine r_aload_n h dL_law_1284 rfl 1 rfl ?_
  refine r_aload_n h dL_law_1285 rfl 0 rfl ?_
  refine r_iload_n h dL_law_1286 rfl 3 rfl ?_
  refine r_iconst h dL_law_1287 ?_
  refine r_iadd h dL_law_1288 ?_
  obtain ⟨hi258, hf⟩ := oc_some hf
  refine hr.1 _ _ _ _ _ _ _ _ _ _ dL_law_1289 (rI_iw _) hi258 ?_
  refine r_aload_n h dL_law_1290 rfl 0 rfl ?_
  refine r_iload_n h dL_law_1291 rfl 3 rfl ?_
  refine r_iconst h dL_law_1292 ?_
  refine r_iadd h dL_law_1293 ?_
  obtain ⟨hi259, hf⟩ := oc_some hf
  refine hr.1 _ _ _ _ _ _ _ _ _ _ dL_law_1294 (rI_iw _) hi259 ?_
  obtain ⟨r260, s260, hq260, hf⟩ := ob_some hf
  refine r_callV1 h [.int (vI ((xs (iw (x3 + 1)).toNat).toInt)), .int (vI ((xs (iw (x3 + 2)).toNat).toInt))] dL_law_1295 (fun hs => m_Qu_ask hw (by decide) (rI_to _) (rI_to _) hs hq260) ml_L_156 cv_Qu_ask rfl (co := 11) rfl (by decide) (by decide) rC_0 ⟨rfl, rfl⟩ ⟨Nat.le_of_ble_eq_true rfl, Nat.le_of_ble_eq_true rfl⟩ ⟨Nat.le_of_ble_eq_true rfl, Nat.le_of_ble_eq_true rfl⟩ (Nat.le_of_ble_eq_true rfl) rfl (fun hr260 hs260 => ?_)
  refine r_aload_n h dL_law_1298 rfl 2 rfl ?_
  refine r_aload_n h dL_law_1299 rfl 0 rfl ?_
  refine r_iload_n h dL_law_1300 rfl 3 rfl ?_
  refine r_iconst h dL_law_1301 ?_
  refine r_iadd h dL_law_1302 ?_
  obtain ⟨hi261, hf⟩ := oc_some hf
  refine hr.1 _ _ _ _ _ _ _ _ _ _ dL_law_1303 (rI_iw _) hi261 ?_
  refine r_aload_n h dL_law_1304 rfl 0 rfl ?_
  refine r_iload_n h dL_law_1305 rfl 3 rfl ?_
  refine r_iconst h dL_law_1306 ?_
  refine r_iadd h dL_law_1307 ?_
  obtain ⟨hi262, hf⟩ := oc_some hf
  refine hr.1 _ _ _ _ _ _ _ _ _ _ dL_law_1308 (rI_iw _) hi262 ?_
  obtain ⟨r263, s263, hq263, hf⟩ := ob_some hf
  refine r_callV1 h [.int (vI ((xs (iw (x3 + 1)).toNat).toInt)), .int (vI ((xs (iw (x3 + 2)).toNat).toInt))] dL_law_1309 (fun hs => m_Mo_ask hw.1 (by decide) (rI_to _) (rI_to _) hs hq263) ml_L_159 cv_Mo_ask rfl (co := 12) rfl (by decide) (by decide) rC_86 ⟨rfl, rfl⟩ ⟨Nat.le_of_ble_eq_true rfl, Nat.le_of_ble_eq_true rfl⟩ ⟨Nat.le_of_ble_eq_true rfl, Nat.le_of_ble_eq_true rfl⟩ (Nat.le_of_ble_eq_true rfl) rfl (fun hr263 hs263 => ?_)
  refine r_icmp_eq (tgt := 1386) h dL_law_1312 (by decide) hr260 hr263 (fun hc264 => ?_) (fun hc264 => ?_)
  · have hf := ite_t hc264 hf
    refine r_iinc h [(3, .int (vI (iw (x3 + 7)))), (0, .ref b), (1, .ref (ad 0)), (2, .ref (ad 86))] dL_law_1386 3 rfl (by decide) rfl ?_
    refine r_goto (tgt := 18) h dL_law_1389 (by decide) ?_
    refine r_sub h [1, 2, 3, 0] rfl ?_
    exact hself18 (iw (x3 + 7)) s263 (rI_iw _) hf
  · have hf := ite_f hc264 hf
    refine r_iconst h dL_law_1315 ?_
    cases hf
    exact absurd hout (by show ¬ (0 : Int) = 1; decide)
set_option maxRecDepth 20000 in
theorem c_Law_1317 {l : Launch} {D : va_G} {cs : Nat → ClassId} {aS aV : Nat} {A : Nat → Prop} {K : KT} {ad : Nat → Nat} {nm : String} {out : Int × SS} (hout : out.1 = 1) {b L : Nat} {xs : Nat → Int32} (hL : L ≤ 3584) (h : w_Cl l room_1 D cs aS aV A cL_law 4 RL nm K) (hr : w_LR b L xs K) (hw : w_W0 138 (nlE 148)) (x3 : Int) (self18 : Int → SS → OO) (hself18 : ∀ (x3 : Int) (τ : SS), rI x3 → self18 x3 τ = some out → K ad 138 (nlE 148) 138 14691 18 [(0, .ref b), (1, .ref (ad 0)), (2, .ref (ad 86)), (3, .int (vI x3))] [] τ) (s0 : SS) (rx3 : rI x3) (hf : c_Law_1317_f xs L self18 x3 s0 = some out) : K ad 138 (nlE 148) 138 14691 1317 [(0, .ref b), (1, .ref (ad 0)), (2, .ref (ad 86)), (3, .int (vI x3))] [] s0 := by
  unfold c_Law_1317_f at hf
  refine r_rS h (fun hs0 => ?_)
  refine r_aload_n h dL_law_1317 rfl 1 rfl ?_
  refine r_aload_n h dL_law_1318 rfl 0 rfl ?_
  refine r_iload_n h dL_law_1319 rfl 3 rfl ?_
  refine r_iconst h dL_law_1320 ?_
  refine r_iadd h dL_law_1321 ?_
  obtain ⟨hi266, hf⟩ := oc_some hf
  refine hr.1 _ _ _ _ _ _ _ _ _ _ dL_law_1322 (rI_iw _) hi266 ?_
  obtain ⟨r267, s267, hq267, hf⟩ := ob_some hf
  refine r_callV1 h [.int (vI ((xs (iw (x3 + 1)).toNat).toInt))] dL_law_1323 (fun hs => m_Qu_image hw (by decide) (rI_to _) hs hq267) ml_L_160 cv_Qu_image rfl (co := 11) rfl (by decide) (by decide) rC_0 ⟨rfl, rfl⟩ ⟨Nat.le_of_ble_eq_true rfl, Nat.le_of_ble_eq_true rfl⟩ ⟨Nat.le_of_ble_eq_true rfl, Nat.le_of_ble_eq_true rfl⟩ (Nat.le_of_ble_eq_true rfl) rfl (fun hr267 hs267 => ?_)
  refine r_aload_n h dL_law_1326 rfl 2 rfl ?_
  refine r_aload_n h dL_law_1327 rfl 0 rfl ?_
  refine r_iload_n h dL_law_1328 rfl 3 rfl ?_
  refine r_iconst h dL_law_1329 ?_
  refine r_iadd h dL_law_1330 ?_
  obtain ⟨hi268, hf⟩ := oc_some hf
  refine hr.1 _ _ _ _ _ _ _ _ _ _ dL_law_1331 (rI_iw _) hi268 ?_
  obtain ⟨r269, s269, hq269, hf⟩ := ob_some hf
  refine r_callV1 h [.int (vI ((xs (iw (x3 + 1)).toNat).toInt))] dL_law_1332 (fun hs => m_Mo_image hw.1 (by decide) (rI_to _) hs hq269) ml_L_163 cv_Mo_image rfl (co := 12) rfl (by decide) (by decide) rC_86 ⟨rfl, rfl⟩ ⟨Nat.le_of_ble_eq_true rfl, Nat.le_of_ble_eq_true rfl⟩ ⟨Nat.le_of_ble_eq_true rfl, Nat.le_of_ble_eq_true rfl⟩ (Nat.le_of_ble_eq_true rfl) rfl (fun hr269 hs269 => ?_)
  refine r_icmp_eq (tgt := 1386) h dL_law_1335 (by decide) hr267 hr269 (fun hc270 => ?_) (fun hc270 => ?_)
  · have hf := ite_t hc270 hf
    refine r_iinc h [(3, .int (vI (iw (x3 + 7)))), (0, .ref b), (1, .ref (ad 0)), (2, .ref (ad 86))] dL_law_1386 3 rfl (by decide) rfl ?_
    refine r_goto (tgt := 18) h dL_law_1389 (by decide) ?_
    refine r_sub h [1, 2, 3, 0] rfl ?_
    exact hself18 (iw (x3 + 7)) s269 (rI_iw _) hf
  · have hf := ite_f hc270 hf
    refine r_iconst h dL_law_1338 ?_
    cases hf
    exact absurd hout (by show ¬ (0 : Int) = 1; decide)
set_option maxRecDepth 20000 in
theorem c_Law_1340 {l : Launch} {D : va_G} {cs : Nat → ClassId} {aS aV : Nat} {A : Nat → Prop} {K : KT} {ad : Nat → Nat} {nm : String} {out : Int × SS} (hout : out.1 = 1) {b L : Nat} {xs : Nat → Int32} (hL : L ≤ 3584) (h : w_Cl l room_1 D cs aS aV A cL_law 4 RL nm K) (hr : w_LR b L xs K) (hw : w_W0 138 (nlE 148)) (x3 : Int) (self18 : Int → SS → OO) (hself18 : ∀ (x3 : Int) (τ : SS), rI x3 → self18 x3 τ = some out → K ad 138 (nlE 148) 138 14691 18 [(0, .ref b), (1, .ref (ad 0)), (2, .ref (ad 86)), (3, .int (vI x3))] [] τ) (s0 : SS) (rx3 : rI x3) (hf : c_Law_1340_f xs L self18 x3 s0 = some out) : K ad 138 (nlE 148) 138 14691 1340 [(0, .ref b), (1, .ref (ad 0)), (2, .ref (ad 86)), (3, .int (vI x3))] [] s0 := by
  unfold c_Law_1340_f at hf
  refine r_rS h (fun hs0 => ?_)
  refine r_aload_n h dL_law_1340 rfl 1 rfl ?_
  refine r_aload_n h dL_law_1341 rfl 0 rfl ?_
  refine r_iload_n h dL_law_1342 rfl 3 rfl ?_
  refine r_iconst h dL_law_1343 ?_
  refine r_iadd h dL_law_1344 ?_
  obtain ⟨hi272, hf⟩ := oc_some hf
  refine hr.1 _ _ _ _ _ _ _ _ _ _ dL_law_1345 (rI_iw _) hi272 ?_
  obtain ⟨r273, s273, hq273, hf⟩ := ob_some hf
  refine r_callV1 h [.int (vI ((xs (iw (x3 + 1)).toNat).toInt))] dL_law_1346 (fun hs => m_Qu_back hw (by decide) (rI_to _) hs hq273) ml_L_164 cv_Qu_back rfl (co := 11) rfl (by decide) (by decide) rC_0 ⟨rfl, rfl⟩ ⟨Nat.le_of_ble_eq_true rfl, Nat.le_of_ble_eq_true rfl⟩ ⟨Nat.le_of_ble_eq_true rfl, Nat.le_of_ble_eq_true rfl⟩ (Nat.le_of_ble_eq_true rfl) rfl (fun hr273 hs273 => ?_)
  refine r_aload_n h dL_law_1349 rfl 2 rfl ?_
  refine r_aload_n h dL_law_1350 rfl 0 rfl ?_
  refine r_iload_n h dL_law_1351 rfl 3 rfl ?_
  refine r_iconst h dL_law_1352 ?_
  refine r_iadd h dL_law_1353 ?_
  obtain ⟨hi274, hf⟩ := oc_some hf
  refine hr.1 _ _ _ _ _ _ _ _ _ _ dL_law_1354 (rI_iw _) hi274 ?_
  obtain ⟨r275, s275, hq275, hf⟩ := ob_some hf
  refine r_callV1 h [.int (vI ((xs (iw (x3 + 1)).toNat).toInt))] dL_law_1355 (fun hs => m_Mo_back hw.1 (by decide) (rI_to _) hs hq275) ml_L_167 cv_Mo_back rfl (co := 12) rfl (by decide) (by decide) rC_86 ⟨rfl, rfl⟩ ⟨Nat.le_of_ble_eq_true rfl, Nat.le_of_ble_eq_true rfl⟩ ⟨Nat.le_of_ble_eq_true rfl, Nat.le_of_ble_eq_true rfl⟩ (Nat.le_of_ble_eq_true rfl) rfl (fun hr275 hs275 => ?_)
  refine r_icmp_eq (tgt := 1386) h dL_law_1358 (by decide) hr273 hr275 (fun hc276 => ?_) (fun hc276 => ?_)
  · have hf := ite_t hc276 hf
    refine r_iinc h [(3, .int (vI (iw (x3 + 7)))), (0, .ref b), (1, .ref (ad 0)), (2, .ref (ad 86))] dL_law_1386 3 rfl (by decide) rfl ?_
    refine r_goto (tgt := 18) h dL_law_1389 (by decide) ?_
    refine r_sub h [1, 2, 3, 0] rfl ?_
    exact hself18 (iw (x3 + 7)) s275 (rI_iw _) hf
  · have hf := ite_f hc276 hf
    refine r_iconst h dL_law_1361 ?_
    cases hf
    exact absurd hout (by show ¬ (0 : Int) = 1; decide)
set_option maxRecDepth 20000 in
theorem c_Law_1363 {l : Launch} {D : va_G} {cs : Nat → ClassId} {aS aV : Nat} {A : Nat → Prop} {K : KT} {ad : Nat → Nat} {nm : String} {out : Int × SS} (hout : out.1 = 1) {b L : Nat} {xs : Nat → Int32} (hL : L ≤ 3584) (h : w_Cl l room_1 D cs aS aV A cL_law 4 RL nm K) (hr : w_LR b L xs K) (hw : w_W0 138 (nlE 148)) (x3 : Int) (self18 : Int → SS → OO) (hself18 : ∀ (x3 : Int) (τ : SS), rI x3 → self18 x3 τ = some out → K ad 138 (nlE 148) 138 14691 18 [(0, .ref b), (1, .ref (ad 0)), (2, .ref (ad 86)), (3, .int (vI x3))] [] τ) (s0 : SS) (rx3 : rI x3) (hf : c_Law_1363_f xs L self18 x3 s0 = some out) : K ad 138 (nlE 148) 138 14691 1363 [(0, .ref b), (1, .ref (ad 0)), (2, .ref (ad 86)), (3, .int (vI x3))] [] s0 := by
  unfold c_Law_1363_f at hf
  refine r_rS h (fun hs0 => ?_)
  refine r_aload_n h dL_law_1363 rfl 1 rfl ?_
  refine r_aload_n h dL_law_1364 rfl 0 rfl ?_
  refine r_iload_n h dL_law_1365 rfl 3 rfl ?_
  refine r_iconst h dL_law_1366 ?_
  refine r_iadd h dL_law_1367 ?_
  obtain ⟨hi278, hf⟩ := oc_some hf
  refine hr.1 _ _ _ _ _ _ _ _ _ _ dL_law_1368 (rI_iw _) hi278 ?_
  obtain ⟨r279, s279, hq279, hf⟩ := ob_some hf
  refine r_callV1 h [.int (vI ((xs (iw (x3 + 1)).toNat).toInt))] dL_law_1369 (fun hs => m_Qu_about hw (by decide) (rI_to _) hs hq279) ml_L_168 cv_Qu_about rfl (co := 11) rfl (by decide) (by decide) rC_0 ⟨rfl, rfl⟩ ⟨Nat.le_of_ble_eq_true rfl, Nat.le_of_ble_eq_true rfl⟩ ⟨Nat.le_of_ble_eq_true rfl, Nat.le_of_ble_eq_true rfl⟩ (Nat.le_of_ble_eq_true rfl) rfl (fun hr279 hs279 => ?_)
  refine r_aload_n h dL_law_1372 rfl 2 rfl ?_
  refine r_aload_n h dL_law_1373 rfl 0 rfl ?_
  refine r_iload_n h dL_law_1374 rfl 3 rfl ?_
  refine r_iconst h dL_law_1375 ?_
  refine r_iadd h dL_law_1376 ?_
  obtain ⟨hi280, hf⟩ := oc_some hf
  refine hr.1 _ _ _ _ _ _ _ _ _ _ dL_law_1377 (rI_iw _) hi280 ?_
  obtain ⟨r281, s281, hq281, hf⟩ := ob_some hf
  refine r_callV1 h [.int (vI ((xs (iw (x3 + 1)).toNat).toInt))] dL_law_1378 (fun hs => m_Mo_about hw.1 (by decide) (rI_to _) hs hq281) ml_L_171 cv_Mo_about rfl (co := 12) rfl (by decide) (by decide) rC_86 ⟨rfl, rfl⟩ ⟨Nat.le_of_ble_eq_true rfl, Nat.le_of_ble_eq_true rfl⟩ ⟨Nat.le_of_ble_eq_true rfl, Nat.le_of_ble_eq_true rfl⟩ (Nat.le_of_ble_eq_true rfl) rfl (fun hr281 hs281 => ?_)
  refine r_icmp_eq (tgt := 1386) h dL_law_1381 (by decide) hr279 hr281 (fun hc282 => ?_) (fun hc282 => ?_)
  · have hf := ite_t hc282 hf
    refine r_iinc h [(3, .int (vI (iw (x3 + 7)))), (0, .ref b), (1, .ref (ad 0)), (2, .ref (ad 86))] dL_law_1386 3 rfl (by decide) rfl ?_
    refine r_goto (tgt := 18) h dL_law_1389 (by decide) ?_
    refine r_sub h [1, 2, 3, 0] rfl ?_
    exact hself18 (iw (x3 + 7)) s281 (rI_iw _) hf
  · have hf := ite_f hc282 hf
    refine r_iconst h dL_law_1384 ?_
    cases hf
    exact absurd hout (by show ¬ (0 : Int) = 1; decide)
set_option maxRecDepth 20000 in
theorem b_Law_18 {l : Launch} {D : va_G} {cs : Nat → ClassId} {aS aV : Nat} {A : Nat → Prop} {K : KT} {ad : Nat → Nat} {nm : String} {out : Int × SS} (hout : out.1 = 1) {b L : Nat} {xs : Nat → Int32} (hL : L ≤ 3584) (h : w_Cl l room_1 D cs aS aV A cL_law 4 RL nm K) (hr : w_LR b L xs K) (hw : w_W0 138 (nlE 148))  : ∀ (fu : Nat) (x3 : Int) (s0 : SS), rI x3 → l_Law_18 xs L fu x3 s0 = some out → K ad 138 (nlE 148) 138 14691 18 [(0, .ref b), (1, .ref (ad 0)), (2, .ref (ad 86)), (3, .int (vI x3))] [] s0 := by
  intro fu
  induction fu with
  | zero =>
    intro x3 s0 rx3 hf
    rw [l_Law_18] at hf
    cases hf
  | succ fu ih =>
    intro x3 s0 rx3 hf
    rw [l_Law_18] at hf
    refine r_rS h (fun hs0 => ?_)
    refine r_iload_n h dL_law_18 rfl 3 rfl ?_
    refine r_aload_n h dL_law_19 rfl 0 rfl ?_
    refine hr.2.1 _ _ _ _ _ _ _ _ _ dL_law_20 ?_
    refine r_bipush h dL_law_21 (by decide) ?_
    refine r_isub h dL_law_23 ?_
    refine r_icmp_gt (tgt := 1392) h dL_law_24 (by decide) rx3 (rI_iw _) (fun hc1 => ?_) (fun hc1 => ?_)
    · have hf := ite_t hc1 hf
      refine r_iconst h dL_law_1392 ?_
      exact hr.2.2 _ _ _ _ _ _ dL_law_1393
    · have hf := ite_f hc1 hf
      refine r_aload_n h dL_law_27 rfl 0 rfl ?_
      refine r_iload_n h dL_law_28 rfl 3 rfl ?_
      obtain ⟨hi2, hf⟩ := oc_some hf
      refine hr.1 _ _ _ _ _ _ _ _ _ _ dL_law_29 rx3 hi2 ?_
      refine r_bipush h dL_law_30 (by decide) ?_
      refine r_iand h dL_law_32 ?_
      refine r_ol hf (rI_zand _ _) (fun x3_ rx3_ hf => ?_)
      by_cases hc4 : x3_ = 0
      · have hf := ite_t hc4 hf
        refine r_tableIn (tgt := 196) h dL_law_33 hc4 (rIc rfl) (by decide) (by decide) (off := 163) rfl (by decide) ?_
        exact c_Law_196 hout hL h hr hw x3 (l_Law_18 xs L fu) ih s0 rx3 hf
      · have hf := ite_f hc4 hf
        by_cases hc18 : x3_ = 1
        · have hf := ite_t hc18 hf
          refine r_tableIn (tgt := 259) h dL_law_33 hc18 (rIc rfl) (by decide) (by decide) (off := 226) rfl (by decide) ?_
          exact c_Law_259 hout hL h hr hw x3 (l_Law_18 xs L fu) ih s0 rx3 hf
        · have hf := ite_f hc18 hf
          by_cases hc24 : x3_ = 2
          · have hf := ite_t hc24 hf
            refine r_tableIn (tgt := 282) h dL_law_33 hc24 (rIc rfl) (by decide) (by decide) (off := 249) rfl (by decide) ?_
            exact c_Law_282 hout hL h hr hw x3 (l_Law_18 xs L fu) ih s0 rx3 hf
          · have hf := ite_f hc24 hf
            by_cases hc28 : x3_ = 3
            · have hf := ite_t hc28 hf
              refine r_tableIn (tgt := 295) h dL_law_33 hc28 (rIc rfl) (by decide) (by decide) (off := 262) rfl (by decide) ?_
              exact c_Law_295 hout hL h hr hw x3 (l_Law_18 xs L fu) ih s0 rx3 hf
            · have hf := ite_f hc28 hf
              by_cases hc34 : x3_ = 4
              · have hf := ite_t hc34 hf
                refine r_tableIn (tgt := 318) h dL_law_33 hc34 (rIc rfl) (by decide) (by decide) (off := 285) rfl (by decide) ?_
                exact c_Law_318 hout hL h hr hw x3 (l_Law_18 xs L fu) ih s0 rx3 hf
              · have hf := ite_f hc34 hf
                by_cases hc42 : x3_ = 5
                · have hf := ite_t hc42 hf
                  refine r_tableIn (tgt := 351) h dL_law_33 hc42 (rIc rfl) (by decide) (by decide) (off := 318) rfl (by decide) ?_
                  exact c_Law_351 hout hL h hr hw x3 (l_Law_18 xs L fu) ih s0 rx3 hf
                · have hf := ite_f hc42 hf
                  by_cases hc50 : x3_ = 6
                  · have hf := ite_t hc50 hf
                    refine r_tableIn (tgt := 384) h dL_law_33 hc50 (rIc rfl) (by decide) (by decide) (off := 351) rfl (by decide) ?_
                    exact c_Law_384 hout hL h hr hw x3 (l_Law_18 xs L fu) ih s0 rx3 hf
                  · have hf := ite_f hc50 hf
                    by_cases hc60 : x3_ = 7
                    · have hf := ite_t hc60 hf
                      refine r_tableIn (tgt := 427) h dL_law_33 hc60 (rIc rfl) (by decide) (by decide) (off := 394) rfl (by decide) ?_
                      exact c_Law_427 hout hL h hr hw x3 (l_Law_18 xs L fu) ih s0 rx3 hf
                    · have hf := ite_f hc60 hf
                      by_cases hc72 : x3_ = 8
                      · have hf := ite_t hc72 hf
                        refine r_tableIn (tgt := 480) h dL_law_33 hc72 (rIc rfl) (by decide) (by decide) (off := 447) rfl (by decide) ?_
                        exact c_Law_480 hout hL h hr hw x3 (l_Law_18 xs L fu) ih s0 rx3 hf
                      · have hf := ite_f hc72 hf
                        by_cases hc84 : x3_ = 9
                        · have hf := ite_t hc84 hf
                          refine r_tableIn (tgt := 533) h dL_law_33 hc84 (rIc rfl) (by decide) (by decide) (off := 500) rfl (by decide) ?_
                          exact c_Law_533 hout hL h hr hw x3 (l_Law_18 xs L fu) ih s0 rx3 hf
                        · have hf := ite_f hc84 hf
                          by_cases hc90 : x3_ = 10
                          · have hf := ite_t hc90 hf
                            refine r_tableIn (tgt := 556) h dL_law_33 hc90 (rIc rfl) (by decide) (by decide) (off := 523) rfl (by decide) ?_
                            exact c_Law_556 hout hL h hr hw x3 (l_Law_18 xs L fu) ih s0 rx3 hf
                          · have hf := ite_f hc90 hf
                            by_cases hc96 : x3_ = 11
                            · have hf := ite_t hc96 hf
                              refine r_tableIn (tgt := 579) h dL_law_33 hc96 (rIc rfl) (by decide) (by decide) (off := 546) rfl (by decide) ?_
                              exact c_Law_579 hout hL h hr hw x3 (l_Law_18 xs L fu) ih s0 rx3 hf
                            · have hf := ite_f hc96 hf
                              by_cases hc100 : x3_ = 12
                              · have hf := ite_t hc100 hf
                                refine r_tableIn (tgt := 592) h dL_law_33 hc100 (rIc rfl) (by decide) (by decide) (off := 559) rfl (by decide) ?_
                                exact c_Law_592 hout hL h hr hw x3 (l_Law_18 xs L fu) ih s0 rx3 hf
                              · have hf := ite_f hc100 hf
                                by_cases hc106 : x3_ = 13
                                · have hf := ite_t hc106 hf
                                  refine r_tableIn (tgt := 615) h dL_law_33 hc106 (rIc rfl) (by decide) (by decide) (off := 582) rfl (by decide) ?_
                                  exact c_Law_615 hout hL h hr hw x3 (l_Law_18 xs L fu) ih s0 rx3 hf
                                · have hf := ite_f hc106 hf
                                  by_cases hc110 : x3_ = 14
                                  · have hf := ite_t hc110 hf
                                    refine r_tableIn (tgt := 628) h dL_law_33 hc110 (rIc rfl) (by decide) (by decide) (off := 595) rfl (by decide) ?_
                                    exact c_Law_628 hout hL h hr hw x3 (l_Law_18 xs L fu) ih s0 rx3 hf
                                  · have hf := ite_f hc110 hf
                                    by_cases hc114 : x3_ = 15
                                    · have hf := ite_t hc114 hf
                                      refine r_tableIn (tgt := 641) h dL_law_33 hc114 (rIc rfl) (by decide) (by decide) (off := 608) rfl (by decide) ?_
                                      exact c_Law_641 hout hL h hr hw x3 (l_Law_18 xs L fu) ih s0 rx3 hf
                                    · have hf := ite_f hc114 hf
                                      by_cases hc120 : x3_ = 16
                                      · have hf := ite_t hc120 hf
                                        refine r_tableIn (tgt := 664) h dL_law_33 hc120 (rIc rfl) (by decide) (by decide) (off := 631) rfl (by decide) ?_
                                        exact c_Law_664 hout hL h hr hw x3 (l_Law_18 xs L fu) ih s0 rx3 hf
                                      · have hf := ite_f hc120 hf
                                        by_cases hc126 : x3_ = 17
                                        · have hf := ite_t hc126 hf
                                          refine r_tableIn (tgt := 687) h dL_law_33 hc126 (rIc rfl) (by decide) (by decide) (off := 654) rfl (by decide) ?_
                                          exact c_Law_687 hout hL h hr hw x3 (l_Law_18 xs L fu) ih s0 rx3 hf
                                        · have hf := ite_f hc126 hf
                                          by_cases hc138 : x3_ = 18
                                          · have hf := ite_t hc138 hf
                                            refine r_tableIn (tgt := 740) h dL_law_33 hc138 (rIc rfl) (by decide) (by decide) (off := 707) rfl (by decide) ?_
                                            exact c_Law_740 hout hL h hr hw x3 (l_Law_18 xs L fu) ih s0 rx3 hf
                                          · have hf := ite_f hc138 hf
                                            by_cases hc146 : x3_ = 19
                                            · have hf := ite_t hc146 hf
                                              refine r_tableIn (tgt := 773) h dL_law_33 hc146 (rIc rfl) (by decide) (by decide) (off := 740) rfl (by decide) ?_
                                              exact c_Law_773 hout hL h hr hw x3 (l_Law_18 xs L fu) ih s0 rx3 hf
                                            · have hf := ite_f hc146 hf
                                              by_cases hc154 : x3_ = 20
                                              · have hf := ite_t hc154 hf
                                                refine r_tableIn (tgt := 806) h dL_law_33 hc154 (rIc rfl) (by decide) (by decide) (off := 773) rfl (by decide) ?_
                                                exact c_Law_806 hout hL h hr hw x3 (l_Law_18 xs L fu) ih s0 rx3 hf
                                              · have hf := ite_f hc154 hf
                                                by_cases hc161 : x3_ = 21
                                                · have hf := ite_t hc161 hf
                                                  refine r_tableIn (tgt := 885) h dL_law_33 hc161 (rIc rfl) (by decide) (by decide) (off := 852) rfl (by decide) ?_
                                                  exact c_Law_885 hout hL h hr hw x3 (l_Law_18 xs L fu) ih s0 rx3 hf
                                                · have hf := ite_f hc161 hf
                                                  by_cases hc169 : x3_ = 22
                                                  · have hf := ite_t hc169 hf
                                                    refine r_tableIn (tgt := 918) h dL_law_33 hc169 (rIc rfl) (by decide) (by decide) (off := 885) rfl (by decide) ?_
                                                    exact c_Law_918 hout hL h hr hw x3 (l_Law_18 xs L fu) ih s0 rx3 hf
                                                  · have hf := ite_f hc169 hf
                                                    by_cases hc173 : x3_ = 23
                                                    · have hf := ite_t hc173 hf
                                                      refine r_tableIn (tgt := 931) h dL_law_33 hc173 (rIc rfl) (by decide) (by decide) (off := 898) rfl (by decide) ?_
                                                      exact c_Law_931 hout hL h hr hw x3 (l_Law_18 xs L fu) ih s0 rx3 hf
                                                    · have hf := ite_f hc173 hf
                                                      by_cases hc177 : x3_ = 24
                                                      · have hf := ite_t hc177 hf
                                                        refine r_tableIn (tgt := 944) h dL_law_33 hc177 (rIc rfl) (by decide) (by decide) (off := 911) rfl (by decide) ?_
                                                        exact c_Law_944 hout hL h hr hw x3 (l_Law_18 xs L fu) ih s0 rx3 hf
                                                      · have hf := ite_f hc177 hf
                                                        by_cases hc181 : x3_ = 25
                                                        · have hf := ite_t hc181 hf
                                                          refine r_tableIn (tgt := 957) h dL_law_33 hc181 (rIc rfl) (by decide) (by decide) (off := 924) rfl (by decide) ?_
                                                          exact c_Law_957 hout hL h hr hw x3 (l_Law_18 xs L fu) ih s0 rx3 hf
                                                        · have hf := ite_f hc181 hf
                                                          by_cases hc193 : x3_ = 26
                                                          · have hf := ite_t hc193 hf
                                                            refine r_tableIn (tgt := 1010) h dL_law_33 hc193 (rIc rfl) (by decide) (by decide) (off := 977) rfl (by decide) ?_
                                                            exact c_Law_1010 hout hL h hr hw x3 (l_Law_18 xs L fu) ih s0 rx3 hf
                                                          · have hf := ite_f hc193 hf
                                                            by_cases hc209 : x3_ = 27
                                                            · have hf := ite_t hc209 hf
                                                              refine r_tableIn (tgt := 1085) h dL_law_33 hc209 (rIc rfl) (by decide) (by decide) (off := 1052) rfl (by decide) ?_
                                                              exact c_Law_1085 hout hL h hr hw x3 (l_Law_18 xs L fu) ih s0 rx3 hf
                                                            · have hf := ite_f hc209 hf
                                                              by_cases hc221 : x3_ = 28
                                                              · have hf := ite_t hc221 hf
                                                                refine r_tableIn (tgt := 1138) h dL_law_33 hc221 (rIc rfl) (by decide) (by decide) (off := 1105) rfl (by decide) ?_
                                                                exact c_Law_1138 hout hL h hr hw x3 (l_Law_18 xs L fu) ih s0 rx3 hf
                                                              · have hf := ite_f hc221 hf
                                                                by_cases hc227 : x3_ = 29
                                                                · have hf := ite_t hc227 hf
                                                                  refine r_tableIn (tgt := 1161) h dL_law_33 hc227 (rIc rfl) (by decide) (by decide) (off := 1128) rfl (by decide) ?_
                                                                  exact c_Law_1161 hout hL h hr hw x3 (l_Law_18 xs L fu) ih s0 rx3 hf
                                                                · have hf := ite_f hc227 hf
                                                                  by_cases hc239 : x3_ = 30
                                                                  · have hf := ite_t hc239 hf
                                                                    refine r_tableIn (tgt := 1214) h dL_law_33 hc239 (rIc rfl) (by decide) (by decide) (off := 1181) rfl (by decide) ?_
                                                                    exact c_Law_1214 hout hL h hr hw x3 (l_Law_18 xs L fu) ih s0 rx3 hf
                                                                  · have hf := ite_f hc239 hf
                                                                    by_cases hc245 : x3_ = 31
                                                                    · have hf := ite_t hc245 hf
                                                                      refine r_tableIn (tgt := 1237) h dL_law_33 hc245 (rIc rfl) (by decide) (by decide) (off := 1204) rfl (by decide) ?_
                                                                      exact c_Law_1237 hout hL h hr hw x3 (l_Law_18 xs L fu) ih s0 rx3 hf
                                                                    · have hf := ite_f hc245 hf
                                                                      by_cases hc251 : x3_ = 32
                                                                      · have hf := ite_t hc251 hf
                                                                        refine r_tableIn (tgt := 1260) h dL_law_33 hc251 (rIc rfl) (by decide) (by decide) (off := 1227) rfl (by decide) ?_
                                                                        exact c_Law_1260 hout hL h hr hw x3 (l_Law_18 xs L fu) ih s0 rx3 hf
                                                                      · have hf := ite_f hc251 hf
                                                                        by_cases hc257 : x3_ = 33
                                                                        · have hf := ite_t hc257 hf
                                                                          refine r_tableIn (tgt := 1284) h dL_law_33 hc257 (rIc rfl) (by decide) (by decide) (off := 1251) rfl (by decide) ?_
                                                                          exact c_Law_1284 hout hL h hr hw x3 (l_Law_18 xs L fu) ih s0 rx3 hf
                                                                        · have hf := ite_f hc257 hf
                                                                          by_cases hc265 : x3_ = 34
                                                                          · have hf := ite_t hc265 hf
                                                                            refine r_tableIn (tgt := 1317) h dL_law_33 hc265 (rIc rfl) (by decide) (by decide) (off := 1284) rfl (by decide) ?_
                                                                            exact c_Law_1317 hout hL h hr hw x3 (l_Law_18 xs L fu) ih s0 rx3 hf
                                                                          · have hf := ite_f hc265 hf
                                                                            by_cases hc271 : x3_ = 35
                                                                            · have hf := ite_t hc271 hf
                                                                              refine r_tableIn (tgt := 1340) h dL_law_33 hc271 (rIc rfl) (by decide) (by decide) (off := 1307) rfl (by decide) ?_
                                                                              exact c_Law_1340 hout hL h hr hw x3 (l_Law_18 xs L fu) ih s0 rx3 hf
                                                                            · have hf := ite_f hc271 hf
                                                                              by_cases hc277 : x3_ = 36
                                                                              · have hf := ite_t hc277 hf
                                                                                refine r_tableIn (tgt := 1363) h dL_law_33 hc277 (rIc rfl) (by decide) (by decide) (off := 1330) rfl (by decide) ?_
                                                                                exact c_Law_1363 hout hL h hr hw x3 (l_Law_18 xs L fu) ih s0 rx3 hf
                                                                              · have hf := ite_f hc277 hf
                                                                                refine r_tableOut (tgt := 1386) h dL_law_33 rx3_ (by omega) (by decide) ?_
                                                                                refine r_iinc h [(3, .int (vI (iw (x3 + 7)))), (0, .ref b), (1, .ref (ad 0)), (2, .ref (ad 86))] dL_law_1386 3 rfl (by decide) rfl ?_
                                                                                refine r_goto (tgt := 18) h dL_law_1389 (by decide) ?_
                                                                                refine r_sub h [1, 2, 3, 0] rfl ?_
                                                                                exact ih (iw (x3 + 7)) s0 (rI_iw _) hf
