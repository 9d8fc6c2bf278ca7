/-! longs as sets of roads -/
theorem vJ_nat (N : Nat) (h : N < 18446744073709551616) : (vJ (N : Int)).toBitVec.toNat = N := by
  unfold vJ
  have h2 : (Int64.ofInt (N : Int)).toBitVec = BitVec.ofInt 64 (N : Int) := rfl
  rw [h2, BitVec.toNat_ofInt]
  omega
theorem toJ_nat (x : Int64) (h : x.toBitVec.toNat < 9223372036854775808) : x.toInt = (x.toBitVec.toNat : Int) := by
  show x.toBitVec.toInt = _
  exact BitVec.toInt_eq_toNat_of_lt (by omega)
theorem yand_nat (A B : Nat) (hA : A < 9223372036854775808) (hB : B < 9223372036854775808) : yand (A : Int) (B : Int) = ((A &&& B : Nat) : Int) := by
  rw [yand_def]
  have h : (vJ (A : Int) &&& vJ (B : Int)).toBitVec.toNat = A &&& B := by
    rw [Int64.toBitVec_and, BitVec.toNat_and, vJ_nat A (by omega), vJ_nat B (by omega)]
  have h2 : A &&& B ≤ B := Nat.and_le_right
  rw [toJ_nat _ (by rw [h]; omega), h]
theorem cu_all : ∀ k, k < 64 → ((vI ((k : Nat) : Int)).toInt64.toUInt64 &&& Int64.toUInt64 63).toNat = k := by decide +kernel
theorem cs_all : ∀ k, k < 64 → (((vI ((k : Nat) : Int)).toInt64 &&& 63).toBitVec.smod 64).toNat = k := by decide +kernel
theorem yushr_nat (A k : Nat) (hA : A < 9223372036854775808) (hk : k < 64) : yushr (A : Int) (k : Int) = ((A / 2 ^ k : Nat) : Int) := by
  rw [yushr_def]
  have h : ((vJ (A : Int)).toUInt64 >>> ((vI (k : Int)).toInt64.toUInt64 &&& Int64.toUInt64 63)).toInt64.toBitVec.toNat = A / 2 ^ k := by
    show ((vJ (A : Int)).toUInt64 >>> ((vI (k : Int)).toInt64.toUInt64 &&& Int64.toUInt64 63)).toNat = _
    have e : (vJ (A : Int)).toUInt64.toNat = A := vJ_nat A (by omega)
    rw [UInt64.toNat_shiftRight, cu_all k hk, Nat.mod_eq_of_lt hk, e, Nat.shiftRight_eq_div_pow]
  have h2 : A / 2 ^ k ≤ A := Nat.div_le_self _ _
  rw [toJ_nat _ (by rw [h]; omega), h]
theorem yshr_nat (A k : Nat) (hA : A < 9223372036854775808) (hk : k < 64) : yshr (A : Int) (k : Int) = ((A / 2 ^ k : Nat) : Int) := by
  rw [yshr_def]
  have hm : (vJ (A : Int)).toBitVec.msb = false := by
    rw [BitVec.msb_eq_decide, vJ_nat A (by omega)]
    simp
    omega
  have h : (vJ (A : Int) >>> ((vI (k : Int)).toInt64 &&& 63)).toBitVec.toNat = A / 2 ^ k := by
    rw [Int64.toBitVec_shiftRight]
    show ((vJ (A : Int)).toBitVec.sshiftRight (((vI (k : Int)).toInt64 &&& 63).toBitVec.smod 64).toNat).toNat = _
    rw [cs_all k hk, BitVec.sshiftRight_eq_of_msb_false hm, BitVec.toNat_ushiftRight, vJ_nat A (by omega), Nat.shiftRight_eq_div_pow]
  have h2 : A / 2 ^ k ≤ A := Nat.div_le_self _ _
  rw [toJ_nat _ (by rw [h]; omega), h]
def jb (v : Int) (i : Nat) : Bool := (vJ v).toBitVec.getLsbD i
theorem jb_and (a b : Int) (i : Nat) : jb (yand a b) i = (jb a i && jb b i) := by
  unfold jb
  rw [yand_def, vJ_of, Int64.toBitVec_and, BitVec.getLsbD_and]
theorem jb_or (a b : Int) (i : Nat) : jb (yor a b) i = (jb a i || jb b i) := by
  unfold jb
  rw [yor_def, vJ_of, Int64.toBitVec_or, BitVec.getLsbD_or]
theorem jb_not (a : Int) (i : Nat) (hi : i < 64) : jb (yxor a (-1)) i = !jb a i := by
  unfold jb
  have ha : (vJ (-1)).toBitVec = BitVec.allOnes 64 := by decide
  rw [yxor_def, vJ_of, Int64.toBitVec_xor, BitVec.getLsbD_xor, ha, BitVec.getLsbD_allOnes]
  simp [hi]
theorem sh_all : ∀ k, k < 60 → ∀ i, i < 64 → ((vJ 1 <<< ((vI ((k : Nat) : Int)).toInt64 &&& 63)).toBitVec.getLsbD i) = decide (i = k) := by decide +kernel
theorem jb_shl (k i : Nat) (hk : k < 60) (hi : i < 64) : jb (yshl 1 (k : Int)) i = decide (i = k) := by
  unfold jb
  rw [yshl_def, vJ_of]
  exact sh_all k hk i hi
theorem lo_all : ∀ k, k < 60 → ∀ i, i < 64 → (((vJ 1 <<< ((vI ((k : Nat) : Int)).toInt64 &&& 63)) - vJ 1).toBitVec.getLsbD i) = decide (i < k) := by decide +kernel
theorem jb_low (k i : Nat) (hk : k < 60) (hi : i < 64) : jb (jw (yshl 1 (k : Int) - 1)) i = decide (i < k) := by
  unfold jb
  rw [← vJ_sub, yshl_def, vJ_of]
  exact lo_all k hk i hi
theorem al_all : ∀ i, i < 64 → ((vJ 1152921504606846975).toBitVec.getLsbD i) = decide (i < 60) := by decide +kernel
theorem jb_all (i : Nat) (hi : i < 64) : jb 1152921504606846975 i = decide (i < 60) := al_all i hi
theorem jb_0 (i : Nat) : jb 0 i = false := by
  unfold jb
  have h : (vJ 0).toBitVec = 0#64 := by decide
  rw [h, BitVec.getLsbD_zero]
theorem bset_eq {v w : Int} {P R : Nat → Bool} (hv : bset v P) (hw : bset w R) (h : ∀ i, i < 60 → P i = R i) : v = w := by
  have e : vJ v = vJ w := by
    apply Int64.toBitVec_inj.mp
    apply BitVec.eq_of_getLsbD_eq
    intro i hi
    rw [hv.2 i hi, hw.2 i hi]
    by_cases h60 : i < 60
    · rw [h i h60]
    · simp [h60]
  exact (vJ_eq hv.1 hw.1).mp e
theorem bset_nat {v : Int} {P : Nat → Bool} (h : bset v P) : ∃ N : Nat, v = N ∧ N < 2 ^ 60 ∧ ∀ i, i < 60 → N.testBit i = P i := by
  have hlt : (vJ v).toBitVec.toNat < 2 ^ 60 := by
    apply Nat.lt_pow_two_of_testBit
    intro i hi
    rw [BitVec.testBit_toNat]
    by_cases h64 : i < 64
    · rw [h.2 i h64]; simp; omega
    · exact BitVec.getLsbD_of_ge _ _ (by omega)
  refine ⟨(vJ v).toBitVec.toNat, ?_, hlt, fun i hi => ?_⟩
  · rw [← toJ_nat _ (by omega), vJ_to h.1]
  · rw [BitVec.testBit_toNat, h.2 i (by omega)]; simp [hi]
/-- the roads by a report -/
theorem x_roadsBy (Lc : Int) (L : Int) (hLc : (1 ≤ L ∧ L ≤ 60 ∧ Lc = L) ∨ ((L = -1 ∨ 61 ≤ L ∧ L ≤ 200) ∧ Lc = 61)) (w : Int) (hw : 0 ≤ w ∧ w ≤ 2) (σ : SS) : ∃ v, f_Rp_roadsBy Lc w σ = some (v, σ) ∧ bset v (fun x => rpd L (x + 1) == w) := by
  have hrJ : rJ 1152921504606846975 := by unfold rJ; omega
  unfold f_Rp_roadsBy
  rcases hLc with ⟨h1, h2, rfl⟩ | ⟨h1, rfl⟩
  · obtain ⟨k, hk⟩ : ∃ k : Nat, Lc - 1 = k := ⟨(Lc - 1).toNat, by omega⟩
    rw [if_pos h2, iwc (x := Lc - 1) (by omega) (by omega), hk]
    unfold j_Rp_roadsBy_19
    rw [if_pos h2, iwc (x := Lc - 1) (by omega) (by omega), hk]
    unfold j_Rp_roadsBy_35
    by_cases w2 : w = 2
    · rw [if_pos w2]
      refine ⟨_, rfl, rJ_jw _, fun i hi => ?_⟩
      show jb _ i = _
      rw [jb_low k i (by omega) hi, w2]
      unfold rpd
      dsimp only
      by_cases hlt : i < k
      · simp [hlt, show i < 60 by omega, show (i : Int) + 1 < Lc by omega]
      · have : ¬ ((i : Int) + 1 < Lc) := by omega
        have h0 : ¬ Lc < 0 := by omega
        simp [hlt, this, h0]
        intro _
        split <;> decide
    · rw [if_neg w2]
      by_cases w1 : w = 1
      · rw [if_pos w1]
        refine ⟨_, rfl, rJ_yshl _ _, fun i hi => ?_⟩
        show jb _ i = _
        rw [jb_shl k i (by omega) hi, w1]
        unfold rpd
        dsimp only
        by_cases he : i = k
        · have e1 : ¬ (Lc < 0 ∨ (i : Int) + 1 < Lc) := by omega
          have e2 : Lc = (i : Int) + 1 := by omega
          rw [if_neg e1, if_pos e2]
          simp [he, show k < 60 by omega]
        · have e2 : ¬ Lc = (i : Int) + 1 := by omega
          rw [if_neg e2]
          simp [he]
          intro _
          split <;> decide
      · rw [if_neg w1]
        have w0 : w = 0 := by omega
        refine ⟨_, rfl, rJ_yand _ _, fun i hi => ?_⟩
        show jb _ i = _
        rw [jb_and, jb_and, jb_not _ i hi, jb_not _ i hi, jb_all i hi, jb_low k i (by omega) hi, jb_shl k i (by omega) hi, w0]
        unfold rpd
        dsimp only
        by_cases h60 : i < 60
        · by_cases hlt : i < k
          · have e1 : Lc < 0 ∨ (i : Int) + 1 < Lc := by omega
            rw [if_pos e1]; simp [hlt]
          · by_cases he : i = k
            · have e1 : ¬ (Lc < 0 ∨ (i : Int) + 1 < Lc) := by omega
              have e2 : Lc = (i : Int) + 1 := by omega
              rw [if_neg e1, if_pos e2]; simp [he]
            · have e1 : ¬ (Lc < 0 ∨ (i : Int) + 1 < Lc) := by omega
              have e2 : ¬ Lc = (i : Int) + 1 := by omega
              rw [if_neg e1, if_neg e2]; simp [hlt, he, h60]
        · simp [h60]
  · rw [if_neg (by omega)]
    unfold j_Rp_roadsBy_19
    rw [if_neg (by omega)]
    unfold j_Rp_roadsBy_35
    have key : ∀ i : Nat, i < 60 → rpd L ((i : Int) + 1) = 2 := fun i hi => by unfold rpd; rw [if_pos (by omega)]
    by_cases w2 : w = 2
    · rw [if_pos w2]
      refine ⟨_, rfl, hrJ, fun i hi => ?_⟩
      show jb _ i = _
      rw [jb_all i hi, w2]
      dsimp only
      by_cases h60 : i < 60
      · rw [key i h60]; simp
      · simp [h60]
    · rw [if_neg w2]
      by_cases w1 : w = 1
      · rw [if_pos w1]
        refine ⟨_, rfl, by unfold rJ; omega, fun i hi => ?_⟩
        show jb _ i = _
        rw [jb_0, w1]
        dsimp only
        by_cases h60 : i < 60
        · rw [key i h60]; simp
        · simp [h60]
      · rw [if_neg w1]
        have w0 : w = 0 := by omega
        refine ⟨_, rfl, rJ_yand _ _, fun i hi => ?_⟩
        show jb _ i = _
        rw [jb_and, jb_and, jb_not _ i hi, jb_not _ i hi, jb_all i hi, jb_0, w0]
        dsimp only
        by_cases h60 : i < 60
        · rw [key i h60]; simp
        · simp [h60]
theorem x_reported (L road : Int) (σ : SS) : f_Mo_reported L road σ = some (rpd L road, σ) := by
  unfold f_Mo_reported rpd
  by_cases h0 : L < 0
  · rw [if_pos h0, if_pos (Or.inl h0)]
  · rw [if_neg h0]
    by_cases h1 : L ≤ road
    · rw [if_pos h1, if_neg (show ¬ (L < 0 ∨ road < L) by omega)]
      by_cases h2 : L = road
      · rw [if_pos h2, if_pos h2]
      · rw [if_neg h2, if_neg h2]
    · rw [if_neg h1, if_pos (show L < 0 ∨ road < L by omega)]
/-! the length of a quarrel, of 60 words, of 200 -/
theorem opn_add {ld : SS} {tp : Nat → Int} {a b : Nat} (m : Nat) : ∀ (n : Nat) (q : QQ), opn ld tp a b (n + m) q = opn ld tp a b m (opn ld tp a b n q) := by
  intro n
  induction n with
  | zero => intro q; rw [Nat.zero_add]; rfl
  | succ n ih =>
    intro q
    rw [show n + 1 + m = (n + m) + 1 by omega, opn, opn]
    by_cases h : ovB q = true
    · rw [if_pos h, if_pos h, opn_over _ h]
    · rw [if_neg h, if_neg h, ih]
theorem opn_wd {ld : SS} {tp : Nat → Int} {a b : Nat} : ∀ (n : Nat) (q : QQ), 0 ≤ q.2.1 → q.2.1 + n ≤ 1000 → q.2.1 ≤ (opn ld tp a b n q).2.1 ∧ (opn ld tp a b n q).2.1 ≤ q.2.1 + n ∧ (¬ ovB (opn ld tp a b n q) = true → (opn ld tp a b n q).2.1 = q.2.1 + n) ∧ (¬ ovB q = true → n ≠ 0 → q.2.1 + 1 ≤ (opn ld tp a b n q).2.1) := by
  intro n
  induction n with
  | zero => intro q h0 h1; rw [opn]; refine ⟨by omega, by omega, fun _ => by omega, fun _ h => absurd rfl h⟩
  | succ n ih =>
    intro q h0 h1
    rw [opn]
    by_cases h : ovB q = true
    · rw [if_pos h]
      exact ⟨by omega, by omega, fun z => absurd h z, fun z => absurd h z⟩
    · rw [if_neg h]
      have hw := sayP_w (ld := ld) (tp := tp) (a := a) (b := b) (ovB_f h)
      rw [iwc (by omega) (by omega)] at hw
      obtain ⟨k1, k2, k3, k4⟩ := ih (sayP ld tp a b q) (by omega) (by omega)
      exact ⟨by omega, by omega, fun z => by have := k3 z; omega, fun _ _ => by omega⟩
noncomputable def l60 (ld : SS) (tp : Nat → Int) (a b m : Nat) : Int := if lenP (opn ld tp a b 60 (begP ld m)) = -1 then 61 else lenP (opn ld tp a b 60 (begP ld m))
theorem l60_rel {ld : SS} (hok : LdOK ld) (tp : Nat → Int) {a b m : Nat} (hc : CPL ld a b m) : (1 ≤ olP ld tp a b m ∧ olP ld tp a b m ≤ 60 ∧ l60 ld tp a b m = olP ld tp a b m) ∨ ((olP ld tp a b m = -1 ∨ 61 ≤ olP ld tp a b m ∧ olP ld tp a b m ≤ 200) ∧ l60 ld tp a b m = 61) := by
  obtain ⟨bq1, bq2⟩ := begP_ok hok hc.2.2.2.1
  have hb : ¬ ovB (begP ld m) = true := fun z => bq2 (ovB_t.mp z)
  have hw0 : (begP ld m).2.1 = 0 := rfl
  obtain ⟨k1, k2, k3, k4⟩ := opn_wd (ld := ld) (tp := tp) (a := a) (b := b) 60 (begP ld m) (by omega) (by omega)
  have hadd := opn_add (ld := ld) (tp := tp) (a := a) (b := b) 140 60 (begP ld m)
  unfold l60 olP
  rw [hadd]
  generalize opn ld tp a b 60 (begP ld m) = q at k1 k2 k3 k4 ⊢
  have k4' := k4 hb (by decide)
  by_cases ho : ovB q = true
  · left
    rw [opn_over _ ho]
    have e : lenP q = q.2.1 := if_pos ho
    rw [e, if_neg (by omega)]
    omega
  · right
    have e : lenP q = -1 := if_neg ho
    rw [e, if_pos rfl]
    have h60 := k3 ho
    obtain ⟨j1, j2, j3, j4⟩ := opn_wd (ld := ld) (tp := tp) (a := a) (b := b) 140 q (by omega) (by omega)
    have j4' := j4 ho (by decide)
    refine ⟨?_, rfl⟩
    unfold lenP
    split
    · right; omega
    · left; rfl
