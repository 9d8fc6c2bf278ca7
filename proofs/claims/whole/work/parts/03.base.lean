/-! integers: an int is a whole number in its range -/
def rI (x : Int) : Prop := -2147483648 ≤ x ∧ x < 2147483648
def rJ (x : Int) : Prop := -9223372036854775808 ≤ x ∧ x < 9223372036854775808
def iw (x : Int) : Int := (x + 2147483648) % 4294967296 - 2147483648
def jw (x : Int) : Int := (x + 9223372036854775808) % 18446744073709551616 - 9223372036854775808
def vI (x : Int) : Int32 := Int32.ofInt x
def vJ (x : Int) : Int64 := Int64.ofInt x
theorem rI_iw (x : Int) : rI (iw x) := by unfold rI iw; omega
theorem rJ_jw (x : Int) : rJ (jw x) := by unfold rJ jw; omega
theorem iw_id {x : Int} (h : rI x) : iw x = x := by unfold rI at h; unfold iw; omega
theorem jw_id {x : Int} (h : rJ x) : jw x = x := by unfold rJ at h; unfold jw; omega
theorem bm32 (x : Int) : x.bmod 4294967296 = iw x := by
  rw [Int.bmod_def]; unfold iw; split <;> omega
theorem bm64 (x : Int) : x.bmod 18446744073709551616 = jw x := by
  rw [Int.bmod_def]; unfold jw; split <;> omega
theorem vI_toI (x : Int) : (vI x).toInt = iw x := by
  unfold vI; rw [Int32.toInt_ofInt]; exact bm32 x
theorem vJ_toI (x : Int) : (vJ x).toInt = jw x := by
  unfold vJ; rw [Int64.toInt_ofInt]; exact bm64 x
theorem vI_to {x : Int} (h : rI x) : (vI x).toInt = x := by rw [vI_toI, iw_id h]
theorem vJ_to {x : Int} (h : rJ x) : (vJ x).toInt = x := by rw [vJ_toI, jw_id h]
theorem iw_iw (x : Int) : iw (iw x) = iw x := iw_id (rI_iw x)
theorem jw_jw (x : Int) : jw (jw x) = jw x := jw_id (rJ_jw x)
theorem vI_iw (x : Int) : vI (iw x) = vI x := Int32.toInt_inj.1 (by rw [vI_toI, vI_toI, iw_iw])
theorem vJ_jw (x : Int) : vJ (jw x) = vJ x := Int64.toInt_inj.1 (by rw [vJ_toI, vJ_toI, jw_jw])
theorem vI_of (x : Int32) : vI x.toInt = x := Int32.ofInt_toInt x
theorem vJ_of (x : Int64) : vJ x.toInt = x := Int64.ofInt_toInt x
theorem rI_to (x : Int32) : rI x.toInt := by
  have h1 := Int32.toInt_lt x
  have h2 := Int32.le_toInt x
  unfold rI; omega
theorem rJ_to (x : Int64) : rJ x.toInt := by
  have h1 := Int64.toInt_lt x
  have h2 := Int64.le_toInt x
  unfold rJ; omega
theorem vI_lt {a b : Int} (ha : rI a) (hb : rI b) : vI a < vI b ↔ a < b := by rw [Int32.lt_iff_toInt_lt, vI_to ha, vI_to hb]
theorem vI_le {a b : Int} (ha : rI a) (hb : rI b) : vI a ≤ vI b ↔ a ≤ b := by rw [Int32.le_iff_toInt_le, vI_to ha, vI_to hb]
theorem vI_eq {a b : Int} (ha : rI a) (hb : rI b) : vI a = vI b ↔ a = b := ⟨fun h => by rw [← vI_to ha, ← vI_to hb, h], fun h => by rw [h]⟩
theorem vJ_lt {a b : Int} (ha : rJ a) (hb : rJ b) : vJ a < vJ b ↔ a < b := by rw [Int64.lt_iff_toInt_lt, vJ_to ha, vJ_to hb]
theorem vJ_eq {a b : Int} (ha : rJ a) (hb : rJ b) : vJ a = vJ b ↔ a = b := ⟨fun h => by rw [← vJ_to ha, ← vJ_to hb, h], fun h => by rw [h]⟩
theorem vI_add (a b : Int) : vI a + vI b = vI (iw (a + b)) := by rw [vI_iw]; exact (Int32.ofInt_add a b).symm
theorem vI_sub (a b : Int) : vI a - vI b = vI (iw (a - b)) := by rw [vI_iw]; exact (Int32.ofInt_sub a b).symm
theorem vI_mul (a b : Int) : vI a * vI b = vI (iw (a * b)) := by rw [vI_iw]; exact (Int32.ofInt_mul a b).symm
theorem vI_neg (a : Int) : -vI a = vI (iw (-a)) := by rw [vI_iw]; exact (Int32.ofInt_neg a).symm
theorem vJ_add (a b : Int) : vJ a + vJ b = vJ (jw (a + b)) := by rw [vJ_jw]; exact (Int64.ofInt_add a b).symm
theorem vJ_sub (a b : Int) : vJ a - vJ b = vJ (jw (a - b)) := by rw [vJ_jw]; exact (Int64.ofInt_sub a b).symm
theorem vJ_mul (a b : Int) : vJ a * vJ b = vJ (jw (a * b)) := by rw [vJ_jw]; exact (Int64.ofInt_mul a b).symm
theorem vI_div {a b : Int} (ha : rI a) (hb : rI b) : vI a / vI b = vI (iw (Int.tdiv a b)) := Int32.toInt_inj.1 (by
  rw [Int32.toInt_div, vI_to ha, vI_to hb, vI_iw, vI_toI]; exact bm32 _)
theorem vI_rem {a b : Int} (ha : rI a) (hb : rI b) : vI a - vI a / vI b * vI b = vI (Int.tmod a b) := by
  rw [vI_div ha hb, vI_iw, show vI (Int.tdiv a b) * vI b = vI (Int.tdiv a b * b) from (Int32.ofInt_mul _ _).symm, show vI a - vI (Int.tdiv a b * b) = vI (a - Int.tdiv a b * b) from (Int32.ofInt_sub _ _).symm]
  congr 1
  rw [Int.tmod_def, Int.mul_comm]
theorem rI_tmod {a b : Int} (ha : rI a) (hb : rI b) : rI (Int.tmod a b) := by
  have h := Int32.toInt_mod (vI a) (vI b)
  rw [vI_to ha, vI_to hb] at h
  rw [← h]; exact rI_to _
theorem vI_clamp {a : Int} (ha : rI a) (h0 : 0 ≤ a) : (vI a).toNatClampNeg = a.toNat := by
  show (vI a).toInt.toNat = _
  rw [vI_to ha]
theorem vI_in {a : Int} (ha : rI a) {n : Nat} (h : 0 ≤ a ∧ a < n) : vp_in (vI a) n := vp_in_iff.mpr (by rw [vI_to ha]; exact h)
def zand (a b : Int) : Int := (vI a &&& vI b).toInt
def zor (a b : Int) : Int := (vI a ||| vI b).toInt
def zxor (a b : Int) : Int := (vI a ^^^ vI b).toInt
def zshl (a b : Int) : Int := (vI a <<< (vI b &&& 31)).toInt
def zshr (a b : Int) : Int := (vI a >>> (vI b &&& 31)).toInt
def zi2b (a : Int) : Int := (vI a).toInt8.toInt
def zi2c (a : Int) : Int := ((vI a).toUInt32 % 65536).toInt32.toInt
def yand (a b : Int) : Int := (vJ a &&& vJ b).toInt
def yor (a b : Int) : Int := (vJ a ||| vJ b).toInt
def yxor (a b : Int) : Int := (vJ a ^^^ vJ b).toInt
def ycmp (a b : Int) : Int := if a < b then -1 else if a = b then 0 else 1
def zmax (a b : Int) : Int := if a < b then b else a
def zmin (a b : Int) : Int := if b < a then b else a
def zabs (a : Int) : Int := if 0 ≤ a then a else iw (0 - a)
def yshl (a b : Int) : Int := (vJ a <<< ((vI b).toInt64 &&& 63)).toInt
def yshr (a b : Int) : Int := (vJ a >>> ((vI b).toInt64 &&& 63)).toInt
def yushr (a b : Int) : Int := ((vJ a).toUInt64 >>> ((vI b).toInt64.toUInt64 &&& Int64.toUInt64 63)).toInt64.toInt
theorem vI_i2l {a : Int} (ha : rI a) : (vI a).toInt64 = vJ a := Int64.toInt_inj.1 (by rw [Int32.toInt_toInt64, vI_to ha, vJ_to (by unfold rI at ha; unfold rJ; omega)])
theorem vJ_l2i {a : Int} (ha : rJ a) : (vJ a).toInt32 = vI (iw a) := Int32.toInt_inj.1 (by rw [Int64.toInt_toInt32, vJ_to ha, vI_toI, iw_iw]; exact bm32 a)
theorem rJ_rI {a : Int} (h : rI a) : rJ a := by unfold rI at h; unfold rJ; omega
theorem ycmp_eq {a b : Int} (ha : rJ a) (hb : rJ b) : lg_cmp (vJ a) (vJ b) = vI (ycmp a b) := by
  unfold lg_cmp ycmp
  by_cases h1 : a < b
  · have h2 : ¬ b < a := by omega
    have h3 : ¬ a = b := by omega
    simp [h1, h2, h3, vJ_lt hb ha, vJ_eq ha hb, vI]
  · by_cases h2 : a = b
    · subst h2; simp [vI, Int64.lt_irrefl]
    · have h3 : b < a := by omega
      simp [h1, h2, h3, vJ_lt hb ha, vI]
theorem rI_ycmp (a b : Int) : rI (ycmp a b) := by
  unfold ycmp rI
  split
  · omega
  · split <;> omega
theorem zmax_eq {a b : Int} (ha : rI a) (hb : rI b) : (if vI a < vI b then vI b else vI a) = vI (zmax a b) := by
  unfold zmax; by_cases h : a < b <;> simp [h, vI_lt ha hb]
theorem zmin_eq {a b : Int} (ha : rI a) (hb : rI b) : (if vI b < vI a then vI b else vI a) = vI (zmin a b) := by
  unfold zmin; by_cases h : b < a <;> simp [h, vI_lt hb ha]
theorem zabs_eq {a : Int} (ha : rI a) : (if 0 ≤ vI a then vI a else 0 - vI a) = vI (zabs a) := by
  have h0 : (0 : Int32) = vI 0 := by decide
  have r0 : rI 0 := by unfold rI; omega
  unfold zabs; rw [h0]
  by_cases h : 0 ≤ a
  · rw [if_pos h, if_pos ((vI_le r0 ha).mpr h)]
  · rw [if_neg h, if_neg (fun z => h ((vI_le r0 ha).mp z)), vI_sub]
theorem rI_zmax {a b : Int} (ha : rI a) (hb : rI b) : rI (zmax a b) := by unfold zmax; split <;> assumption
theorem rI_zmin {a b : Int} (ha : rI a) (hb : rI b) : rI (zmin a b) := by unfold zmin; split <;> assumption
theorem rI_zabs {a : Int} (ha : rI a) : rI (zabs a) := by unfold zabs; split; exact ha; exact rI_iw _
/-! the store: ints, longs, by cell and place -/
abbrev SS : Type := (Nat → Nat → Int) × (Nat → Nat → Int)
abbrev OO : Type := Option (Int × SS)
def gi (σ : SS) (r k : Nat) : Int := σ.1 r k
def gj (σ : SS) (r k : Nat) : Int := σ.2 r k
def si (σ : SS) (r k : Nat) (v : Int) : SS := (fun r' k' => if r' = r ∧ k' = k then v else σ.1 r' k', σ.2)
def sj (σ : SS) (r k : Nat) (v : Int) : SS := (σ.1, fun r' k' => if r' = r ∧ k' = k then v else σ.2 r' k')
theorem gi_si (σ : SS) (r k : Nat) (v : Int) (r' k' : Nat) : gi (si σ r k v) r' k' = if r' = r ∧ k' = k then v else gi σ r' k' := rfl
theorem gj_sj (σ : SS) (r k : Nat) (v : Int) (r' k' : Nat) : gj (sj σ r k v) r' k' = if r' = r ∧ k' = k then v else gj σ r' k' := rfl
theorem gi_sj (σ : SS) (r k : Nat) (v : Int) (r' k' : Nat) : gi (sj σ r k v) r' k' = gi σ r' k' := rfl
theorem gj_si (σ : SS) (r k : Nat) (v : Int) (r' k' : Nat) : gj (si σ r k v) r' k' = gj σ r' k' := rfl
def rS (σ : SS) : Prop := (∀ r k, rI (gi σ r k)) ∧ ∀ r k, rJ (gj σ r k)
theorem rS_si {σ : SS} (h : rS σ) (r k : Nat) {v : Int} (hv : rI v) : rS (si σ r k v) := ⟨fun r' k' => by rw [gi_si]; split; exact hv; exact h.1 _ _, h.2⟩
theorem rS_sj {σ : SS} (h : rS σ) (r k : Nat) {v : Int} (hv : rJ v) : rS (sj σ r k v) := ⟨h.1, fun r' k' => by rw [gj_sj]; split; exact hv; exact h.2 _ _⟩
/-! how the functions are written: a test, a name for a number, for a store, a call -/
def oc (c : Prop) [d : Decidable c] (k : OO) : OO := if c then k else none
def ol (e : Int) (k : Int → OO) : OO := k e
def os (σ : SS) (k : SS → OO) : OO := k σ
def ob (o : OO) (k : Int → SS → OO) : OO := match o with
  | none => none
  | some q => k q.1 q.2
theorem oc_some {c : Prop} [d : Decidable c] {k : OO} {o : Int × SS} (h : oc c k = some o) : c ∧ k = some o := by
  unfold oc at h
  by_cases hc : c
  · rw [if_pos hc] at h; exact ⟨hc, h⟩
  · rw [if_neg hc] at h; cases h
theorem ob_some {x : OO} {k : Int → SS → OO} {o : Int × SS} (h : ob x k = some o) : ∃ q : Int × SS, x = some q ∧ k q.1 q.2 = some o := by
  cases x with
  | none => cases h
  | some q => exact ⟨q, rfl, h⟩
theorem ite_t {c : Prop} {d : Decidable c} {a b : OO} {o : Int × SS} (hc : c) (h : @ite _ c d a b = some o) : a = some o := by rw [if_pos hc] at h; exact h
theorem ite_f {c : Prop} {d : Decidable c} {a b : OO} {o : Int × SS} (hc : ¬ c) (h : @ite _ c d a b = some o) : b = some o := by rw [if_neg hc] at h; exact h
theorem ite_nf {c : Prop} {d : Decidable c} {a b : OO} {o : Int × SS} (hc : ¬ ¬ c) (h : @ite _ c d a b = some o) : a = some o := ite_t (Classical.not_not.mp hc) h
theorem rIc {x : Int} (h : (decide (-2147483648 ≤ x) && decide (x < 2147483648)) = true) : rI x := by simpa [rI] using h
theorem rJc {x : Int} (h : (decide (-9223372036854775808 ≤ x) && decide (x < 9223372036854775808)) = true) : rJ x := by simpa [rJ] using h
theorem rI_zand (a b : Int) : rI (zand a b) := rI_to _
theorem rI_zor (a b : Int) : rI (zor a b) := rI_to _
theorem rI_zxor (a b : Int) : rI (zxor a b) := rI_to _
theorem rI_zshl (a b : Int) : rI (zshl a b) := rI_to _
theorem rI_zshr (a b : Int) : rI (zshr a b) := rI_to _
theorem rJ_yand (a b : Int) : rJ (yand a b) := rJ_to _
theorem rJ_yor (a b : Int) : rJ (yor a b) := rJ_to _
theorem rJ_yxor (a b : Int) : rJ (yxor a b) := rJ_to _
theorem rJ_yshl (a b : Int) : rJ (yshl a b) := rJ_to _
theorem rJ_yshr (a b : Int) : rJ (yshr a b) := rJ_to _
theorem rJ_yushr (a b : Int) : rJ (yushr a b) := rJ_to _
theorem rI_zi2b (x : Int) : rI (zi2b x) := by
  unfold zi2b
  have h1 := Int8.toInt_lt (vI x).toInt8
  have h2 := Int8.le_toInt (vI x).toInt8
  unfold rI; omega
theorem rI_b {x : Int} (h : x = 0 ∨ x = 1) : rI x := by unfold rI; omega
/-- how many rounds a loop may take, at the most -/
def FU : Nat := 100000000
/-! tables of the cells by the order in which they are made: class (0 .. 12; 13 bytes, 14 ints, 15 longs, 16 booleans), length, what the references are -/
def rCl : List Nat := [11, 13, 4, 15, 14, 14, 14, 14, 14, 14, 15, 14, 15, 14, 14, 14, 2, 14, 14, 2, 14, 14, 4, 15, 14, 14, 14, 14, 14, 14, 15, 14, 15, 14, 14, 14, 2, 14, 14, 2, 14, 14, 5, 10, 3, 14, 0, 14, 14, 14, 16, 9, 14, 14, 7, 14, 14, 8, 9, 14, 14, 1, 7, 14, 14, 14, 14, 14, 14, 14, 14, 14, 14, 14, 14, 8, 9, 14, 14, 6, 14, 14, 15, 9, 14, 14, 12, 13, 13, 14, 14, 14, 14, 14, 14, 14, 14, 14, 14, 14, 14, 14, 14, 14, 14, 14, 14, 14, 16, 16, 15, 15, 15, 14, 14, 14, 14, 14, 14, 14, 14, 14, 14, 14, 14, 14, 14, 14, 14, 14, 14, 14, 14, 14, 14, 14, 14, 16]
def rNl : List Nat := [10, 1600, 20, 8, 8, 8, 14, 14, 14, 14, 6, 12, 6, 6, 6, 48, 4, 320, 32, 4, 320, 32, 20, 8, 8, 8, 14, 14, 14, 14, 6, 12, 6, 6, 6, 48, 4, 320, 32, 4, 320, 32, 6, 7, 5, 60, 14, 12, 1681, 123, 3, 7, 6, 20, 4, 12, 12, 4, 7, 6, 20, 20, 4, 12, 12, 12, 8, 180, 180, 12, 4, 4, 4, 4, 96, 4, 7, 6, 20, 7, 30, 30, 30, 7, 6, 20, 84, 1620, 1600, 2, 2, 2, 2, 2, 2, 16, 16, 28, 28, 28, 28, 12, 12, 12, 12, 96, 4, 4, 2, 4, 16, 12, 12, 1120, 1120, 90, 90, 60, 44, 44, 1804, 12, 12, 8, 8, 216, 1, 4, 4, 4, 4, 30, 30, 30, 30, 3, 132, 3]
def rFl : List (List Nat) := [[1, 0, 2, 22, 42, 46, 54, 57, 61, 79], [], [0, 3, 4, 5, 0, 6, 7, 8, 9, 0, 10, 11, 0, 12, 13, 14, 15, 0, 16, 19], [], [], [], [], [], [], [], [], [], [], [], [], [], [17, 18, 0, 0], [], [], [20, 21, 0, 0], [], [], [0, 23, 24, 25, 0, 26, 27, 28, 29, 0, 30, 31, 0, 32, 33, 34, 35, 0, 36, 39], [], [], [], [], [], [], [], [], [], [], [], [], [], [37, 38, 0, 0], [], [], [40, 41, 0, 0], [], [], [43, 44, 0, 0, 0, 0], [1, 0, 0, 0, 0, 0, 0], [43, 45, 0, 0, 0], [], [2, 47, 0, 51, 0, 0, 0, 0, 48, 0, 0, 0, 49, 50], [], [], [], [], [2, 52, 53, 0, 0, 0, 0], [], [], [55, 56, 0, 0], [], [], [2, 58, 0, 0], [2, 59, 60, 0, 0, 0, 0], [], [], [2, 47, 75, 62, 65, 0, 66, 67, 68, 0, 69, 70, 71, 0, 72, 73, 74, 0, 0, 0], [63, 64, 0, 0], [], [], [], [], [], [], [], [], [], [], [], [], [2, 76, 0, 0], [2, 77, 78, 0, 0, 0, 0], [], [], [2, 83, 0, 0, 80, 81, 82], [], [], [], [2, 84, 85, 0, 0, 0, 0], [], [], [87, 88, 0, 0, 0, 0, 0, 0, 0, 0, 0, 89, 90, 91, 92, 93, 94, 95, 96, 97, 98, 99, 100, 101, 102, 103, 104, 105, 106, 107, 108, 109, 110, 111, 112, 113, 114, 115, 116, 117, 0, 0, 0, 0, 0, 0, 0, 0, 0, 0, 0, 0, 118, 119, 0, 120, 0, 0, 121, 122, 0, 0, 0, 0, 0, 123, 124, 0, 0, 125, 126, 127, 128, 129, 130, 131, 132, 133, 134, 0, 0, 135, 136, 137], [], [], [], [], [], [], [], [], [], [], [], [], [], [], [], [], [], [], [], [], [], [], [], [], [], [], [], [], [], [], [], [], [], [], [], [], [], [], [], [], [], [], [], [], [], [], [], [], [], [], []]
def vTl : List (List Nat) := [[2, 2, 0, 2, 0, 0, 0, 0, 2, 0, 0, 0, 2, 2], [2, 2, 2, 2, 2, 0, 2, 2, 2, 0, 2, 2, 2, 0, 2, 2, 2, 0, 0, 0], [2, 2, 0, 0], [2, 2, 0, 0, 0], [0, 2, 2, 2, 0, 2, 2, 2, 2, 0, 2, 2, 0, 2, 2, 2, 2, 0, 2, 2], [2, 2, 0, 0, 0, 0], [2, 2, 0, 0, 2, 2, 2], [2, 2, 0, 0], [2, 2, 0, 0], [2, 2, 2, 0, 0, 0, 0], [2, 0, 0, 0, 0, 0, 1], [2, 0, 2, 2, 2, 2, 2, 2, 2, 2], [2, 2, 0, 0, 0, 0, 0, 0, 0, 0, 1, 2, 2, 2, 2, 2, 2, 2, 2, 2, 2, 2, 2, 2, 2, 2, 2, 2, 2, 2, 2, 2, 2, 2, 2, 2, 2, 2, 2, 2, 0, 0, 0, 0, 0, 0, 0, 0, 0, 0, 0, 0, 2, 2, 0, 2, 0, 0, 2, 2, 0, 0, 0, 0, 0, 2, 2, 0, 0, 2, 2, 2, 2, 2, 2, 2, 2, 2, 2, 0, 0, 2, 2, 2]]
def rC (i : Nat) : Nat := rCl.getD i 99
def rN (i : Nat) : Nat := rNl.getD i 0
def rf (i k : Nat) : Nat := (rFl.getD i []).getD k 0
def vt (c k : Nat) : Nat := (vTl.getD c []).getD k 3

theorem rf_all {c k : Nat} {f : Nat → Nat} (h : ∀ i, i < 138 → rC i = c → rf i k = f i) (h99 : c ≠ 99 := by decide) : ∀ i, rC i = c → rf i k = f i := by
  intro i hi
  by_cases h1 : i < 138
  · exact h i h1 hi
  · exfalso
    apply h99
    rw [← hi]
    unfold rC
    rw [List.getD_eq_getElem?_getD, List.getElem?_eq_none]
    · rfl
    · show 138 ≤ i
      omega
theorem rC_lt {i c : Nat} (hi : rC i = c) (h99 : c ≠ 99) : i < 138 := by
  by_cases h1 : i < 138
  · exact h1
  · exfalso
    apply h99
    rw [← hi]
    unfold rC
    rw [List.getD_eq_getElem?_getD, List.getElem?_eq_none]
    · rfl
    · show 138 ≤ i
      omega
theorem rf_0_0 : ∀ i, rC i = 0 → rf i 0 = 2 := rf_all (by decide +kernel)
theorem rf_0_1 : ∀ i, rC i = 0 → rf i 1 = 47 := rf_all (by decide +kernel)
theorem rf_0_3 : ∀ i, rC i = 0 → rf i 3 = 51 := rf_all (by decide +kernel)
theorem rf_0_8 : ∀ i, rC i = 0 → rf i 8 = 48 := rf_all (by decide +kernel)
theorem rf_0_12 : ∀ i, rC i = 0 → rf i 12 = 49 := rf_all (by decide +kernel)
theorem rf_0_13 : ∀ i, rC i = 0 → rf i 13 = 50 := rf_all (by decide +kernel)
theorem rf_1_0 : ∀ i, rC i = 1 → rf i 0 = 2 := rf_all (by decide +kernel)
theorem rf_1_1 : ∀ i, rC i = 1 → rf i 1 = 47 := rf_all (by decide +kernel)
theorem rf_1_2 : ∀ i, rC i = 1 → rf i 2 = 75 := rf_all (by decide +kernel)
theorem rf_1_3 : ∀ i, rC i = 1 → rf i 3 = 62 := rf_all (by decide +kernel)
theorem rf_1_4 : ∀ i, rC i = 1 → rf i 4 = 65 := rf_all (by decide +kernel)
theorem rf_1_6 : ∀ i, rC i = 1 → rf i 6 = 66 := rf_all (by decide +kernel)
theorem rf_1_7 : ∀ i, rC i = 1 → rf i 7 = 67 := rf_all (by decide +kernel)
theorem rf_1_8 : ∀ i, rC i = 1 → rf i 8 = 68 := rf_all (by decide +kernel)
theorem rf_1_10 : ∀ i, rC i = 1 → rf i 10 = 69 := rf_all (by decide +kernel)
theorem rf_1_11 : ∀ i, rC i = 1 → rf i 11 = 70 := rf_all (by decide +kernel)
theorem rf_1_12 : ∀ i, rC i = 1 → rf i 12 = 71 := rf_all (by decide +kernel)
theorem rf_1_14 : ∀ i, rC i = 1 → rf i 14 = 72 := rf_all (by decide +kernel)
theorem rf_1_15 : ∀ i, rC i = 1 → rf i 15 = 73 := rf_all (by decide +kernel)
theorem rf_1_16 : ∀ i, rC i = 1 → rf i 16 = 74 := rf_all (by decide +kernel)
theorem rf_2_0 : ∀ i, rC i = 2 → rf i 0 = i + 1 := rf_all (by decide +kernel)
theorem rf_2_1 : ∀ i, rC i = 2 → rf i 1 = i + 2 := rf_all (by decide +kernel)
theorem rf_3_0 : ∀ i, rC i = 3 → rf i 0 = 43 := rf_all (by decide +kernel)
theorem rf_3_1 : ∀ i, rC i = 3 → rf i 1 = 45 := rf_all (by decide +kernel)
theorem rf_4_1 : ∀ i, rC i = 4 → rf i 1 = i + 1 := rf_all (by decide +kernel)
theorem rf_4_2 : ∀ i, rC i = 4 → rf i 2 = i + 2 := rf_all (by decide +kernel)
theorem rf_4_3 : ∀ i, rC i = 4 → rf i 3 = i + 3 := rf_all (by decide +kernel)
theorem rf_4_5 : ∀ i, rC i = 4 → rf i 5 = i + 4 := rf_all (by decide +kernel)
theorem rf_4_6 : ∀ i, rC i = 4 → rf i 6 = i + 5 := rf_all (by decide +kernel)
theorem rf_4_7 : ∀ i, rC i = 4 → rf i 7 = i + 6 := rf_all (by decide +kernel)
theorem rf_4_8 : ∀ i, rC i = 4 → rf i 8 = i + 7 := rf_all (by decide +kernel)
theorem rf_4_10 : ∀ i, rC i = 4 → rf i 10 = i + 8 := rf_all (by decide +kernel)
theorem rf_4_11 : ∀ i, rC i = 4 → rf i 11 = i + 9 := rf_all (by decide +kernel)
theorem rf_4_13 : ∀ i, rC i = 4 → rf i 13 = i + 10 := rf_all (by decide +kernel)
theorem rf_4_14 : ∀ i, rC i = 4 → rf i 14 = i + 11 := rf_all (by decide +kernel)
theorem rf_4_15 : ∀ i, rC i = 4 → rf i 15 = i + 12 := rf_all (by decide +kernel)
theorem rf_4_16 : ∀ i, rC i = 4 → rf i 16 = i + 13 := rf_all (by decide +kernel)
theorem rf_4_18 : ∀ i, rC i = 4 → rf i 18 = i + 14 := rf_all (by decide +kernel)
theorem rf_4_19 : ∀ i, rC i = 4 → rf i 19 = i + 17 := rf_all (by decide +kernel)
theorem rf_5_0 : ∀ i, rC i = 5 → rf i 0 = 43 := rf_all (by decide +kernel)
theorem rf_5_1 : ∀ i, rC i = 5 → rf i 1 = 44 := rf_all (by decide +kernel)
theorem rf_6_0 : ∀ i, rC i = 6 → rf i 0 = 2 := rf_all (by decide +kernel)
theorem rf_6_1 : ∀ i, rC i = 6 → rf i 1 = 83 := rf_all (by decide +kernel)
theorem rf_6_4 : ∀ i, rC i = 6 → rf i 4 = 80 := rf_all (by decide +kernel)
theorem rf_6_5 : ∀ i, rC i = 6 → rf i 5 = 81 := rf_all (by decide +kernel)
theorem rf_6_6 : ∀ i, rC i = 6 → rf i 6 = 82 := rf_all (by decide +kernel)
theorem rf_7_0 : ∀ i, rC i = 7 → rf i 0 = i + 1 := rf_all (by decide +kernel)
theorem rf_7_1 : ∀ i, rC i = 7 → rf i 1 = i + 2 := rf_all (by decide +kernel)
theorem rf_8_0 : ∀ i, rC i = 8 → rf i 0 = 2 := rf_all (by decide +kernel)
theorem rf_8_1 : ∀ i, rC i = 8 → rf i 1 = i + 1 := rf_all (by decide +kernel)
theorem rf_9_0 : ∀ i, rC i = 9 → rf i 0 = 2 := rf_all (by decide +kernel)
theorem rf_9_1 : ∀ i, rC i = 9 → rf i 1 = i + 1 := rf_all (by decide +kernel)
theorem rf_9_2 : ∀ i, rC i = 9 → rf i 2 = i + 2 := rf_all (by decide +kernel)
theorem rf_10_0 : ∀ i, rC i = 10 → rf i 0 = 1 := rf_all (by decide +kernel)
theorem rf_11_0 : ∀ i, rC i = 11 → rf i 0 = 1 := rf_all (by decide +kernel)
theorem rf_11_2 : ∀ i, rC i = 11 → rf i 2 = 2 := rf_all (by decide +kernel)
theorem rf_11_3 : ∀ i, rC i = 11 → rf i 3 = 22 := rf_all (by decide +kernel)
theorem rf_11_4 : ∀ i, rC i = 11 → rf i 4 = 42 := rf_all (by decide +kernel)
theorem rf_11_5 : ∀ i, rC i = 11 → rf i 5 = 46 := rf_all (by decide +kernel)
theorem rf_11_6 : ∀ i, rC i = 11 → rf i 6 = 54 := rf_all (by decide +kernel)
theorem rf_11_7 : ∀ i, rC i = 11 → rf i 7 = 57 := rf_all (by decide +kernel)
theorem rf_11_8 : ∀ i, rC i = 11 → rf i 8 = 61 := rf_all (by decide +kernel)
theorem rf_11_9 : ∀ i, rC i = 11 → rf i 9 = 79 := rf_all (by decide +kernel)
theorem rf_12_0 : ∀ i, rC i = 12 → rf i 0 = 87 := rf_all (by decide +kernel)
theorem rf_12_1 : ∀ i, rC i = 12 → rf i 1 = 88 := rf_all (by decide +kernel)
theorem rf_12_11 : ∀ i, rC i = 12 → rf i 11 = 89 := rf_all (by decide +kernel)
theorem rf_12_12 : ∀ i, rC i = 12 → rf i 12 = 90 := rf_all (by decide +kernel)
theorem rf_12_13 : ∀ i, rC i = 12 → rf i 13 = 91 := rf_all (by decide +kernel)
theorem rf_12_14 : ∀ i, rC i = 12 → rf i 14 = 92 := rf_all (by decide +kernel)
theorem rf_12_15 : ∀ i, rC i = 12 → rf i 15 = 93 := rf_all (by decide +kernel)
theorem rf_12_16 : ∀ i, rC i = 12 → rf i 16 = 94 := rf_all (by decide +kernel)
theorem rf_12_17 : ∀ i, rC i = 12 → rf i 17 = 95 := rf_all (by decide +kernel)
theorem rf_12_18 : ∀ i, rC i = 12 → rf i 18 = 96 := rf_all (by decide +kernel)
theorem rf_12_19 : ∀ i, rC i = 12 → rf i 19 = 97 := rf_all (by decide +kernel)
theorem rf_12_20 : ∀ i, rC i = 12 → rf i 20 = 98 := rf_all (by decide +kernel)
theorem rf_12_21 : ∀ i, rC i = 12 → rf i 21 = 99 := rf_all (by decide +kernel)
theorem rf_12_22 : ∀ i, rC i = 12 → rf i 22 = 100 := rf_all (by decide +kernel)
theorem rf_12_23 : ∀ i, rC i = 12 → rf i 23 = 101 := rf_all (by decide +kernel)
theorem rf_12_24 : ∀ i, rC i = 12 → rf i 24 = 102 := rf_all (by decide +kernel)
theorem rf_12_25 : ∀ i, rC i = 12 → rf i 25 = 103 := rf_all (by decide +kernel)
theorem rf_12_26 : ∀ i, rC i = 12 → rf i 26 = 104 := rf_all (by decide +kernel)
theorem rf_12_27 : ∀ i, rC i = 12 → rf i 27 = 105 := rf_all (by decide +kernel)
theorem rf_12_28 : ∀ i, rC i = 12 → rf i 28 = 106 := rf_all (by decide +kernel)
theorem rf_12_29 : ∀ i, rC i = 12 → rf i 29 = 107 := rf_all (by decide +kernel)
theorem rf_12_30 : ∀ i, rC i = 12 → rf i 30 = 108 := rf_all (by decide +kernel)
theorem rf_12_31 : ∀ i, rC i = 12 → rf i 31 = 109 := rf_all (by decide +kernel)
theorem rf_12_32 : ∀ i, rC i = 12 → rf i 32 = 110 := rf_all (by decide +kernel)
theorem rf_12_33 : ∀ i, rC i = 12 → rf i 33 = 111 := rf_all (by decide +kernel)
theorem rf_12_34 : ∀ i, rC i = 12 → rf i 34 = 112 := rf_all (by decide +kernel)
theorem rf_12_35 : ∀ i, rC i = 12 → rf i 35 = 113 := rf_all (by decide +kernel)
theorem rf_12_36 : ∀ i, rC i = 12 → rf i 36 = 114 := rf_all (by decide +kernel)
theorem rf_12_37 : ∀ i, rC i = 12 → rf i 37 = 115 := rf_all (by decide +kernel)
theorem rf_12_38 : ∀ i, rC i = 12 → rf i 38 = 116 := rf_all (by decide +kernel)
theorem rf_12_39 : ∀ i, rC i = 12 → rf i 39 = 117 := rf_all (by decide +kernel)
theorem rf_12_52 : ∀ i, rC i = 12 → rf i 52 = 118 := rf_all (by decide +kernel)
theorem rf_12_53 : ∀ i, rC i = 12 → rf i 53 = 119 := rf_all (by decide +kernel)
theorem rf_12_55 : ∀ i, rC i = 12 → rf i 55 = 120 := rf_all (by decide +kernel)
theorem rf_12_58 : ∀ i, rC i = 12 → rf i 58 = 121 := rf_all (by decide +kernel)
theorem rf_12_59 : ∀ i, rC i = 12 → rf i 59 = 122 := rf_all (by decide +kernel)
theorem rf_12_65 : ∀ i, rC i = 12 → rf i 65 = 123 := rf_all (by decide +kernel)
theorem rf_12_66 : ∀ i, rC i = 12 → rf i 66 = 124 := rf_all (by decide +kernel)
theorem rf_12_69 : ∀ i, rC i = 12 → rf i 69 = 125 := rf_all (by decide +kernel)
theorem rf_12_70 : ∀ i, rC i = 12 → rf i 70 = 126 := rf_all (by decide +kernel)
theorem rf_12_71 : ∀ i, rC i = 12 → rf i 71 = 127 := rf_all (by decide +kernel)
theorem rf_12_72 : ∀ i, rC i = 12 → rf i 72 = 128 := rf_all (by decide +kernel)
theorem rf_12_73 : ∀ i, rC i = 12 → rf i 73 = 129 := rf_all (by decide +kernel)
theorem rf_12_74 : ∀ i, rC i = 12 → rf i 74 = 130 := rf_all (by decide +kernel)
theorem rf_12_75 : ∀ i, rC i = 12 → rf i 75 = 131 := rf_all (by decide +kernel)
theorem rf_12_76 : ∀ i, rC i = 12 → rf i 76 = 132 := rf_all (by decide +kernel)
theorem rf_12_77 : ∀ i, rC i = 12 → rf i 77 = 133 := rf_all (by decide +kernel)
theorem rf_12_78 : ∀ i, rC i = 12 → rf i 78 = 134 := rf_all (by decide +kernel)
theorem rf_12_81 : ∀ i, rC i = 12 → rf i 81 = 135 := rf_all (by decide +kernel)
theorem rf_12_82 : ∀ i, rC i = 12 → rf i 82 = 136 := rf_all (by decide +kernel)
theorem rf_12_83 : ∀ i, rC i = 12 → rf i 83 = 137 := rf_all (by decide +kernel)
