/-! integers: an int is a whole number in its range -/
def rI (x : Int) : Prop := -2147483648 ≤ x ∧ x < 2147483648
def rJ (x : Int) : Prop := -9223372036854775808 ≤ x ∧ x < 9223372036854775808
theorem iw_ex : ∃ f : Int → Int, ∀ x, f x = (x + 2147483648) % 4294967296 - 2147483648 := ⟨_, fun _ => rfl⟩
theorem jw_ex : ∃ f : Int → Int, ∀ x, f x = (x + 9223372036854775808) % 18446744073709551616 - 9223372036854775808 := ⟨_, fun _ => rfl⟩
/-- a number as an int, as a long (not to be unfolded) -/
noncomputable def iw : Int → Int := Classical.choose iw_ex
noncomputable def jw : Int → Int := Classical.choose jw_ex
theorem iw_def (x : Int) : iw x = (x + 2147483648) % 4294967296 - 2147483648 := Classical.choose_spec iw_ex x
theorem jw_def (x : Int) : jw x = (x + 9223372036854775808) % 18446744073709551616 - 9223372036854775808 := Classical.choose_spec jw_ex x
def vI (x : Int) : Int32 := Int32.ofInt x
def vJ (x : Int) : Int64 := Int64.ofInt x
theorem rI_iw (x : Int) : rI (iw x) := by unfold rI; rw [iw_def]; omega
theorem rJ_jw (x : Int) : rJ (jw x) := by unfold rJ; rw [jw_def]; omega
theorem iw_id {x : Int} (h : rI x) : iw x = x := by unfold rI at h; rw [iw_def]; omega
theorem jw_id {x : Int} (h : rJ x) : jw x = x := by unfold rJ at h; rw [jw_def]; omega
theorem bm32 (x : Int) : x.bmod 4294967296 = iw x := by
  rw [Int.bmod_def, iw_def]; split <;> omega
theorem bm64 (x : Int) : x.bmod 18446744073709551616 = jw x := by
  rw [Int.bmod_def, jw_def]; split <;> omega
theorem vI_toI (x : Int) : (vI x).toInt = iw x := by
  unfold vI; rw [Int32.toInt_ofInt]; exact bm32 x
theorem vJ_toI (x : Int) : (vJ x).toInt = jw x := by
  unfold vJ; rw [Int64.toInt_ofInt]; exact bm64 x
theorem vI_to {x : Int} (h : rI x) : (vI x).toInt = x := by rw [vI_toI, iw_id h]
theorem vJ_to {x : Int} (h : rJ x) : (vJ x).toInt = x := by rw [vJ_toI, jw_id h]
theorem iw_iw (x : Int) : iw (iw x) = iw x := iw_id (rI_iw x)
theorem jw_jw (x : Int) : jw (jw x) = jw x := jw_id (rJ_jw x)
theorem vI_iw (x : Int) : vI (iw x) = vI x := Int32.toInt_inj.1 (by rw [vI_toI, vI_toI, iw_iw])
theorem vJ_jw (x : Int) : vJ (jw x) = vJ x := Int64.toInt_inj.1 (by rw [vJ_toI, vJ_toI, jw_jw])
theorem vI_of (x : Int32) : vI x.toInt = x := Int32.ofInt_toInt x
theorem vJ_of (x : Int64) : vJ x.toInt = x := Int64.ofInt_toInt x
theorem rI_to (x : Int32) : rI x.toInt := by
  have h1 := Int32.toInt_lt x
  have h2 := Int32.le_toInt x
  unfold rI; omega
theorem rJ_to (x : Int64) : rJ x.toInt := by
  have h1 := Int64.toInt_lt x
  have h2 := Int64.le_toInt x
  unfold rJ; omega
theorem vI_lt {a b : Int} (ha : rI a) (hb : rI b) : vI a < vI b ↔ a < b := by rw [Int32.lt_iff_toInt_lt, vI_to ha, vI_to hb]
theorem vI_le {a b : Int} (ha : rI a) (hb : rI b) : vI a ≤ vI b ↔ a ≤ b := by rw [Int32.le_iff_toInt_le, vI_to ha, vI_to hb]
theorem vI_eq {a b : Int} (ha : rI a) (hb : rI b) : vI a = vI b ↔ a = b := ⟨fun h => by rw [← vI_to ha, ← vI_to hb, h], fun h => by rw [h]⟩
theorem vJ_lt {a b : Int} (ha : rJ a) (hb : rJ b) : vJ a < vJ b ↔ a < b := by rw [Int64.lt_iff_toInt_lt, vJ_to ha, vJ_to hb]
theorem vJ_eq {a b : Int} (ha : rJ a) (hb : rJ b) : vJ a = vJ b ↔ a = b := ⟨fun h => by rw [← vJ_to ha, ← vJ_to hb, h], fun h => by rw [h]⟩
theorem vI_add (a b : Int) : vI a + vI b = vI (iw (a + b)) := by rw [vI_iw]; exact (Int32.ofInt_add a b).symm
theorem vI_sub (a b : Int) : vI a - vI b = vI (iw (a - b)) := by rw [vI_iw]; exact (Int32.ofInt_sub a b).symm
theorem vI_mul (a b : Int) : vI a * vI b = vI (iw (a * b)) := by rw [vI_iw]; exact (Int32.ofInt_mul a b).symm
theorem vI_neg (a : Int) : -vI a = vI (iw (-a)) := by rw [vI_iw]; exact (Int32.ofInt_neg a).symm
theorem vJ_add (a b : Int) : vJ a + vJ b = vJ (jw (a + b)) := by rw [vJ_jw]; exact (Int64.ofInt_add a b).symm
theorem vJ_sub (a b : Int) : vJ a - vJ b = vJ (jw (a - b)) := by rw [vJ_jw]; exact (Int64.ofInt_sub a b).symm
theorem vJ_mul (a b : Int) : vJ a * vJ b = vJ (jw (a * b)) := by rw [vJ_jw]; exact (Int64.ofInt_mul a b).symm
theorem vI_div {a b : Int} (ha : rI a) (hb : rI b) : vI a / vI b = vI (iw (Int.tdiv a b)) := Int32.toInt_inj.1 (by
  rw [Int32.toInt_div, vI_to ha, vI_to hb, vI_iw, vI_toI]; exact bm32 _)
theorem vI_rem {a b : Int} (ha : rI a) (hb : rI b) : vI a - vI a / vI b * vI b = vI (Int.tmod a b) := by
  rw [vI_div ha hb, vI_iw, show vI (Int.tdiv a b) * vI b = vI (Int.tdiv a b * b) from (Int32.ofInt_mul _ _).symm, show vI a - vI (Int.tdiv a b * b) = vI (a - Int.tdiv a b * b) from (Int32.ofInt_sub _ _).symm]
  congr 1
  rw [Int.tmod_def, Int.mul_comm]
theorem rI_tmod {a b : Int} (ha : rI a) (hb : rI b) : rI (Int.tmod a b) := by
  have h := Int32.toInt_mod (vI a) (vI b)
  rw [vI_to ha, vI_to hb] at h
  rw [← h]; exact rI_to _
theorem vI_clamp {a : Int} (ha : rI a) (h0 : 0 ≤ a) : (vI a).toNatClampNeg = a.toNat := by
  show (vI a).toInt.toNat = _
  rw [vI_to ha]
theorem vI_in {a : Int} (ha : rI a) {n : Nat} (h : 0 ≤ a ∧ a < n) : vp_in (vI a) n := vp_in_iff.mpr (by rw [vI_to ha]; exact h)
theorem zand_ex : ∃ f : Int → Int → Int, ∀ a b, f a b = (vI a &&& vI b).toInt := ⟨_, fun _ _ => rfl⟩
noncomputable def zand : Int → Int → Int := Classical.choose zand_ex
theorem zand_def (a b : Int) : zand a b = (vI a &&& vI b).toInt := Classical.choose_spec zand_ex a b
theorem zor_ex : ∃ f : Int → Int → Int, ∀ a b, f a b = (vI a ||| vI b).toInt := ⟨_, fun _ _ => rfl⟩
noncomputable def zor : Int → Int → Int := Classical.choose zor_ex
theorem zor_def (a b : Int) : zor a b = (vI a ||| vI b).toInt := Classical.choose_spec zor_ex a b
theorem zxor_ex : ∃ f : Int → Int → Int, ∀ a b, f a b = (vI a ^^^ vI b).toInt := ⟨_, fun _ _ => rfl⟩
noncomputable def zxor : Int → Int → Int := Classical.choose zxor_ex
theorem zxor_def (a b : Int) : zxor a b = (vI a ^^^ vI b).toInt := Classical.choose_spec zxor_ex a b
theorem zshl_ex : ∃ f : Int → Int → Int, ∀ a b, f a b = (vI a <<< (vI b &&& 31)).toInt := ⟨_, fun _ _ => rfl⟩
noncomputable def zshl : Int → Int → Int := Classical.choose zshl_ex
theorem zshl_def (a b : Int) : zshl a b = (vI a <<< (vI b &&& 31)).toInt := Classical.choose_spec zshl_ex a b
theorem zshr_ex : ∃ f : Int → Int → Int, ∀ a b, f a b = (vI a >>> (vI b &&& 31)).toInt := ⟨_, fun _ _ => rfl⟩
noncomputable def zshr : Int → Int → Int := Classical.choose zshr_ex
theorem zshr_def (a b : Int) : zshr a b = (vI a >>> (vI b &&& 31)).toInt := Classical.choose_spec zshr_ex a b
theorem zi2b_ex : ∃ f : Int → Int, ∀ a, f a = (vI a).toInt8.toInt := ⟨_, fun _ => rfl⟩
noncomputable def zi2b : Int → Int := Classical.choose zi2b_ex
theorem zi2b_def (a : Int) : zi2b a = (vI a).toInt8.toInt := Classical.choose_spec zi2b_ex a
theorem zi2c_ex : ∃ f : Int → Int, ∀ a, f a = ((vI a).toUInt32 % 65536).toInt32.toInt := ⟨_, fun _ => rfl⟩
noncomputable def zi2c : Int → Int := Classical.choose zi2c_ex
theorem zi2c_def (a : Int) : zi2c a = ((vI a).toUInt32 % 65536).toInt32.toInt := Classical.choose_spec zi2c_ex a
theorem yand_ex : ∃ f : Int → Int → Int, ∀ a b, f a b = (vJ a &&& vJ b).toInt := ⟨_, fun _ _ => rfl⟩
noncomputable def yand : Int → Int → Int := Classical.choose yand_ex
theorem yand_def (a b : Int) : yand a b = (vJ a &&& vJ b).toInt := Classical.choose_spec yand_ex a b
theorem yor_ex : ∃ f : Int → Int → Int, ∀ a b, f a b = (vJ a ||| vJ b).toInt := ⟨_, fun _ _ => rfl⟩
noncomputable def yor : Int → Int → Int := Classical.choose yor_ex
theorem yor_def (a b : Int) : yor a b = (vJ a ||| vJ b).toInt := Classical.choose_spec yor_ex a b
theorem yxor_ex : ∃ f : Int → Int → Int, ∀ a b, f a b = (vJ a ^^^ vJ b).toInt := ⟨_, fun _ _ => rfl⟩
noncomputable def yxor : Int → Int → Int := Classical.choose yxor_ex
theorem yxor_def (a b : Int) : yxor a b = (vJ a ^^^ vJ b).toInt := Classical.choose_spec yxor_ex a b
def ycmp (a b : Int) : Int := if a < b then -1 else if a = b then 0 else 1
def zmax (a b : Int) : Int := if a < b then b else a
def zmin (a b : Int) : Int := if b < a then b else a
noncomputable def zabs (a : Int) : Int := if 0 ≤ a then a else iw (0 - a)
theorem yshl_ex : ∃ f : Int → Int → Int, ∀ a b, f a b = (vJ a <<< ((vI b).toInt64 &&& 63)).toInt := ⟨_, fun _ _ => rfl⟩
noncomputable def yshl : Int → Int → Int := Classical.choose yshl_ex
theorem yshl_def (a b : Int) : yshl a b = (vJ a <<< ((vI b).toInt64 &&& 63)).toInt := Classical.choose_spec yshl_ex a b
theorem yshr_ex : ∃ f : Int → Int → Int, ∀ a b, f a b = (vJ a >>> ((vI b).toInt64 &&& 63)).toInt := ⟨_, fun _ _ => rfl⟩
noncomputable def yshr : Int → Int → Int := Classical.choose yshr_ex
theorem yshr_def (a b : Int) : yshr a b = (vJ a >>> ((vI b).toInt64 &&& 63)).toInt := Classical.choose_spec yshr_ex a b
theorem yushr_ex : ∃ f : Int → Int → Int, ∀ a b, f a b = ((vJ a).toUInt64 >>> ((vI b).toInt64.toUInt64 &&& Int64.toUInt64 63)).toInt64.toInt := ⟨_, fun _ _ => rfl⟩
noncomputable def yushr : Int → Int → Int := Classical.choose yushr_ex
theorem yushr_def (a b : Int) : yushr a b = ((vJ a).toUInt64 >>> ((vI b).toInt64.toUInt64 &&& Int64.toUInt64 63)).toInt64.toInt := Classical.choose_spec yushr_ex a b
theorem vI_i2l {a : Int} (ha : rI a) : (vI a).toInt64 = vJ a := Int64.toInt_inj.1 (by rw [Int32.toInt_toInt64, vI_to ha, vJ_to (by unfold rI at ha; unfold rJ; omega)])
theorem vJ_l2i {a : Int} (ha : rJ a) : (vJ a).toInt32 = vI (iw a) := Int32.toInt_inj.1 (by rw [Int64.toInt_toInt32, vJ_to ha, vI_toI, iw_iw]; exact bm32 a)
theorem rJ_rI {a : Int} (h : rI a) : rJ a := by unfold rI at h; unfold rJ; omega
theorem ycmp_eq {a b : Int} (ha : rJ a) (hb : rJ b) : lg_cmp (vJ a) (vJ b) = vI (ycmp a b) := by
  unfold lg_cmp ycmp
  by_cases h1 : a < b
  · have h2 : ¬ b < a := by omega
    have h3 : ¬ a = b := by omega
    simp [h1, h2, h3, vJ_lt hb ha, vJ_eq ha hb, vI]
  · by_cases h2 : a = b
    · subst h2; simp [vI, Int64.lt_irrefl]
    · have h3 : b < a := by omega
      simp [h1, h2, h3, vJ_lt hb ha, vI]
theorem rI_ycmp (a b : Int) : rI (ycmp a b) := by
  unfold ycmp rI
  split
  · omega
  · split <;> omega
theorem zmax_eq {a b : Int} (ha : rI a) (hb : rI b) : (if vI a < vI b then vI b else vI a) = vI (zmax a b) := by
  unfold zmax; by_cases h : a < b <;> simp [h, vI_lt ha hb]
theorem zmin_eq {a b : Int} (ha : rI a) (hb : rI b) : (if vI b < vI a then vI b else vI a) = vI (zmin a b) := by
  unfold zmin; by_cases h : b < a <;> simp [h, vI_lt hb ha]
theorem zabs_eq {a : Int} (ha : rI a) : (if 0 ≤ vI a then vI a else 0 - vI a) = vI (zabs a) := by
  have h0 : (0 : Int32) = vI 0 := by decide
  have r0 : rI 0 := by unfold rI; omega
  unfold zabs; rw [h0]
  by_cases h : 0 ≤ a
  · rw [if_pos h, if_pos ((vI_le r0 ha).mpr h)]
  · rw [if_neg h, if_neg (fun z => h ((vI_le r0 ha).mp z)), vI_sub]
theorem rI_zmax {a b : Int} (ha : rI a) (hb : rI b) : rI (zmax a b) := by unfold zmax; split <;> assumption
theorem rI_zmin {a b : Int} (ha : rI a) (hb : rI b) : rI (zmin a b) := by unfold zmin; split <;> assumption
theorem rI_zabs {a : Int} (ha : rI a) : rI (zabs a) := by unfold zabs; split; exact ha; exact rI_iw _
/-! the store: ints, longs, by cell and place -/
abbrev SS : Type := (Nat → Nat → Int) × (Nat → Nat → Int)
abbrev OO : Type := Option (Int × SS)
def gi (σ : SS) (r k : Nat) : Int := σ.1 r k
def gj (σ : SS) (r k : Nat) : Int := σ.2 r k
def si (σ : SS) (r k : Nat) (v : Int) : SS := (fun r' k' => if r' = r ∧ k' = k then v else σ.1 r' k', σ.2)
def sj (σ : SS) (r k : Nat) (v : Int) : SS := (σ.1, fun r' k' => if r' = r ∧ k' = k then v else σ.2 r' k')
theorem gi_si (σ : SS) (r k : Nat) (v : Int) (r' k' : Nat) : gi (si σ r k v) r' k' = if r' = r ∧ k' = k then v else gi σ r' k' := rfl
theorem gj_sj (σ : SS) (r k : Nat) (v : Int) (r' k' : Nat) : gj (sj σ r k v) r' k' = if r' = r ∧ k' = k then v else gj σ r' k' := rfl
theorem gi_sj (σ : SS) (r k : Nat) (v : Int) (r' k' : Nat) : gi (sj σ r k v) r' k' = gi σ r' k' := rfl
theorem gj_si (σ : SS) (r k : Nat) (v : Int) (r' k' : Nat) : gj (si σ r k v) r' k' = gj σ r' k' := rfl
def rS (σ : SS) : Prop := (∀ r k, rI (gi σ r k)) ∧ ∀ r k, rJ (gj σ r k)
theorem rS_si {σ : SS} (h : rS σ) (r k : Nat) {v : Int} (hv : rI v) : rS (si σ r k v) := ⟨fun r' k' => by rw [gi_si]; split; exact hv; exact h.1 _ _, h.2⟩
theorem rS_sj {σ : SS} (h : rS σ) (r k : Nat) {v : Int} (hv : rJ v) : rS (sj σ r k v) := ⟨h.1, fun r' k' => by rw [gj_sj]; split; exact hv; exact h.2 _ _⟩
/-! how the functions are written: a test, a name for a number, for a store, a call -/
def oc (c : Prop) [d : Decidable c] (k : OO) : OO := if c then k else none
def ol (e : Int) (k : Int → OO) : OO := k e
def os (σ : SS) (k : SS → OO) : OO := k σ
def ob (o : OO) (k : Int → SS → OO) : OO := match o with
  | none => none
  | some q => k q.1 q.2
theorem oc_some {c : Prop} [d : Decidable c] {k : OO} {o : Int × SS} (h : oc c k = some o) : c ∧ k = some o := by
  unfold oc at h
  by_cases hc : c
  · rw [if_pos hc] at h; exact ⟨hc, h⟩
  · rw [if_neg hc] at h; cases h
theorem ob_some {x : OO} {k : Int → SS → OO} {o : Int × SS} (h : ob x k = some o) : ∃ (r : Int) (τ : SS), x = some (r, τ) ∧ k r τ = some o := by
  cases x with
  | none => cases h
  | some q => exact ⟨q.1, q.2, rfl, h⟩
theorem ite_t {c : Prop} {d : Decidable c} {a b : OO} {o : Int × SS} (hc : c) (h : @ite _ c d a b = some o) : a = some o := by rw [if_pos hc] at h; exact h
theorem ite_f {c : Prop} {d : Decidable c} {a b : OO} {o : Int × SS} (hc : ¬ c) (h : @ite _ c d a b = some o) : b = some o := by rw [if_neg hc] at h; exact h
theorem ite_nf {c : Prop} {d : Decidable c} {a b : OO} {o : Int × SS} (hc : ¬ ¬ c) (h : @ite _ c d a b = some o) : a = some o := ite_t (Classical.not_not.mp hc) h
theorem rIc {x : Int} (h : (decide (-2147483648 ≤ x) && decide (x < 2147483648)) = true) : rI x := by simpa [rI] using h
theorem rJc {x : Int} (h : (decide (-9223372036854775808 ≤ x) && decide (x < 9223372036854775808)) = true) : rJ x := by simpa [rJ] using h
theorem rI_tdivP {x y : Int} (hx : rI x) (h1 : 1 ≤ y) : rI (Int.tdiv x y) := by
  have h := Int.natAbs_tdiv x y
  have h2 : (x.tdiv y).natAbs ≤ x.natAbs := by rw [h]; exact Nat.div_le_self _ _
  have h3 : 0 ≤ x → 0 ≤ x.tdiv y := fun z => Int.tdiv_nonneg z (by omega)
  have h4 : 0 ≤ -x → 0 ≤ (-x).tdiv y := fun z => Int.tdiv_nonneg z (by omega)
  rw [Int.neg_tdiv] at h4
  unfold rI at *
  omega
theorem rI_zand (a b : Int) : rI (zand a b) := by rw [zand_def]; exact rI_to _
theorem rI_zor (a b : Int) : rI (zor a b) := by rw [zor_def]; exact rI_to _
theorem rI_zxor (a b : Int) : rI (zxor a b) := by rw [zxor_def]; exact rI_to _
theorem rI_zshl (a b : Int) : rI (zshl a b) := by rw [zshl_def]; exact rI_to _
theorem rI_zshr (a b : Int) : rI (zshr a b) := by rw [zshr_def]; exact rI_to _
theorem rJ_yand (a b : Int) : rJ (yand a b) := by rw [yand_def]; exact rJ_to _
theorem rJ_yor (a b : Int) : rJ (yor a b) := by rw [yor_def]; exact rJ_to _
theorem rJ_yxor (a b : Int) : rJ (yxor a b) := by rw [yxor_def]; exact rJ_to _
theorem rJ_yshl (a b : Int) : rJ (yshl a b) := by rw [yshl_def]; exact rJ_to _
theorem rJ_yshr (a b : Int) : rJ (yshr a b) := by rw [yshr_def]; exact rJ_to _
theorem rJ_yushr (a b : Int) : rJ (yushr a b) := by rw [yushr_def]; exact rJ_to _
theorem rI_zi2b (x : Int) : rI (zi2b x) := by
  rw [zi2b_def]
  have h1 := Int8.toInt_lt (vI x).toInt8
  have h2 := Int8.le_toInt (vI x).toInt8
  unfold rI; omega
theorem rI_b {x : Int} (h : x = 0 ∨ x = 1) : rI x := by unfold rI; omega
/-- how many rounds a loop may take, at the most -/
def FU : Nat := 100000000
/-! tables of the cells by the order in which they are made: class (0 .. 12; 13 bytes, 14 ints, 15 longs, 16 booleans), length, what the references are -/
def rCl : List Nat := [11, 13, 4, 15, 14, 14, 14, 14, 14, 14, 15, 14, 15, 14, 14, 14, 2, 14, 14, 2, 14, 14, 4, 15, 14, 14, 14, 14, 14, 14, 15, 14, 15, 14, 14, 14, 2, 14, 14, 2, 14, 14, 5, 10, 3, 14, 0, 14, 14, 14, 16, 9, 14, 14, 7, 14, 14, 8, 9, 14, 14, 1, 7, 14, 14, 14, 14, 14, 14, 14, 14, 14, 14, 14, 14, 8, 9, 14, 14, 6, 14, 14, 15, 9, 14, 14, 12, 13, 13, 14, 14, 14, 14, 14, 14, 14, 14, 14, 14, 14, 14, 14, 14, 14, 14, 14, 14, 14, 16, 16, 15, 15, 15, 14, 14, 14, 14, 14, 14, 14, 14, 14, 14, 14, 14, 14, 14, 14, 14, 14, 14, 14, 14, 14, 14, 14, 14, 16]
def rNl : List Nat := [10, 1600, 20, 8, 8, 8, 14, 14, 14, 14, 6, 12, 6, 6, 6, 48, 4, 320, 32, 4, 320, 32, 20, 8, 8, 8, 14, 14, 14, 14, 6, 12, 6, 6, 6, 48, 4, 320, 32, 4, 320, 32, 6, 7, 5, 60, 14, 12, 1681, 123, 3, 7, 6, 20, 4, 12, 12, 4, 7, 6, 20, 20, 4, 12, 12, 12, 8, 180, 180, 12, 4, 4, 4, 4, 96, 4, 7, 6, 20, 7, 30, 30, 30, 7, 6, 20, 84, 1620, 1600, 2, 2, 2, 2, 2, 2, 16, 16, 28, 28, 28, 28, 12, 12, 12, 12, 96, 4, 4, 2, 4, 16, 12, 12, 1120, 1120, 90, 90, 60, 44, 44, 1804, 12, 12, 8, 8, 216, 1, 4, 4, 4, 4, 30, 30, 30, 30, 3, 132, 3]
def rFl : List (List Nat) := [[1, 0, 2, 22, 42, 46, 54, 57, 61, 79], [], [0, 3, 4, 5, 0, 6, 7, 8, 9, 0, 10, 11, 0, 12, 13, 14, 15, 0, 16, 19], [], [], [], [], [], [], [], [], [], [], [], [], [], [17, 18, 0, 0], [], [], [20, 21, 0, 0], [], [], [0, 23, 24, 25, 0, 26, 27, 28, 29, 0, 30, 31, 0, 32, 33, 34, 35, 0, 36, 39], [], [], [], [], [], [], [], [], [], [], [], [], [], [37, 38, 0, 0], [], [], [40, 41, 0, 0], [], [], [43, 44, 0, 0, 0, 0], [1, 0, 0, 0, 0, 0, 0], [43, 45, 0, 0, 0], [], [2, 47, 0, 51, 0, 0, 0, 0, 48, 0, 0, 0, 49, 50], [], [], [], [], [2, 52, 53, 0, 0, 0, 0], [], [], [55, 56, 0, 0], [], [], [2, 58, 0, 0], [2, 59, 60, 0, 0, 0, 0], [], [], [2, 47, 75, 62, 65, 0, 66, 67, 68, 0, 69, 70, 71, 0, 72, 73, 74, 0, 0, 0], [63, 64, 0, 0], [], [], [], [], [], [], [], [], [], [], [], [], [2, 76, 0, 0], [2, 77, 78, 0, 0, 0, 0], [], [], [2, 83, 0, 0, 80, 81, 82], [], [], [], [2, 84, 85, 0, 0, 0, 0], [], [], [87, 88, 0, 0, 0, 0, 0, 0, 0, 0, 0, 89, 90, 91, 92, 93, 94, 95, 96, 97, 98, 99, 100, 101, 102, 103, 104, 105, 106, 107, 108, 109, 110, 111, 112, 113, 114, 115, 116, 117, 0, 0, 0, 0, 0, 0, 0, 0, 0, 0, 0, 0, 118, 119, 0, 120, 0, 0, 121, 122, 0, 0, 0, 0, 0, 123, 124, 0, 0, 125, 126, 127, 128, 129, 130, 131, 132, 133, 134, 0, 0, 135, 136, 137], [], [], [], [], [], [], [], [], [], [], [], [], [], [], [], [], [], [], [], [], [], [], [], [], [], [], [], [], [], [], [], [], [], [], [], [], [], [], [], [], [], [], [], [], [], [], [], [], [], [], []]
def vTl : List (List Nat) := [[2, 2, 0, 2, 0, 0, 0, 0, 2, 0, 0, 0, 2, 2], [2, 2, 2, 2, 2, 0, 2, 2, 2, 0, 2, 2, 2, 0, 2, 2, 2, 0, 0, 0], [2, 2, 0, 0], [2, 2, 0, 0, 0], [0, 2, 2, 2, 0, 2, 2, 2, 2, 0, 2, 2, 0, 2, 2, 2, 2, 0, 2, 2], [2, 2, 0, 0, 0, 0], [2, 2, 0, 0, 2, 2, 2], [2, 2, 0, 0], [2, 2, 0, 0], [2, 2, 2, 0, 0, 0, 0], [2, 0, 0, 0, 0, 0, 1], [2, 0, 2, 2, 2, 2, 2, 2, 2, 2], [2, 2, 0, 0, 0, 0, 0, 0, 0, 0, 1, 2, 2, 2, 2, 2, 2, 2, 2, 2, 2, 2, 2, 2, 2, 2, 2, 2, 2, 2, 2, 2, 2, 2, 2, 2, 2, 2, 2, 2, 0, 0, 0, 0, 0, 0, 0, 0, 0, 0, 0, 0, 2, 2, 0, 2, 0, 0, 2, 2, 0, 0, 0, 0, 0, 2, 2, 0, 0, 2, 2, 2, 2, 2, 2, 2, 2, 2, 2, 0, 0, 2, 2, 2]]
def rC (i : Nat) : Nat := rCl.getD i 99
def rN (i : Nat) : Nat := rNl.getD i 0
def rf (i k : Nat) : Nat := (rFl.getD i []).getD k 0
def vt (c k : Nat) : Nat := (vTl.getD c []).getD k 3

theorem rf_all {c k : Nat} {f : Nat → Nat} (h : ∀ i, i < 138 → rC i = c → rf i k = f i) (h99 : c ≠ 99 := by decide) : ∀ i, rC i = c → rf i k = f i := by
  intro i hi
  by_cases h1 : i < 138
  · exact h i h1 hi
  · exfalso
    apply h99
    rw [← hi]
    unfold rC
    rw [List.getD_eq_getElem?_getD, List.getElem?_eq_none]
    · rfl
    · show 138 ≤ i
      omega
theorem rC_lt {i c : Nat} (hi : rC i = c) (h99 : c ≠ 99) : i < 138 := by
  by_cases h1 : i < 138
  · exact h1
  · exfalso
    apply h99
    rw [← hi]
    unfold rC
    rw [List.getD_eq_getElem?_getD, List.getElem?_eq_none]
    · rfl
    · show 138 ≤ i
      omega
theorem rI_rN (i : Nat) : rI ((rN i : Nat) : Int) := by
  have h : ∀ x ∈ rNl, x < 2000 := by decide +kernel
  have h2 : rN i < 2000 := by
    unfold rN
    rw [List.getD_eq_getElem?_getD]
    cases hx : rNl[i]? with
    | none => show 0 < 2000; omega
    | some v => exact h v (List.mem_of_getElem? hx)
  unfold rI; omega
theorem rf_rel {c : Nat} {P : Nat → Prop} (h : ∀ i, i < 138 → rC i = c → P i) (h99 : c ≠ 99 := by decide) : ∀ i, rC i = c → P i := fun i hi => h i (rC_lt hi h99) hi
theorem rC_0 : rC 0 = 11 := by decide +kernel
theorem rN_0 : rN 0 = 10 := by decide +kernel
theorem rC_1 : rC 1 = 13 := by decide +kernel
theorem rN_1 : rN 1 = 1600 := by decide +kernel
theorem rC_2 : rC 2 = 4 := by decide +kernel
theorem rN_2 : rN 2 = 20 := by decide +kernel
theorem rC_3 : rC 3 = 15 := by decide +kernel
theorem rN_3 : rN 3 = 8 := by decide +kernel
theorem rC_4 : rC 4 = 14 := by decide +kernel
theorem rN_4 : rN 4 = 8 := by decide +kernel
theorem rC_5 : rC 5 = 14 := by decide +kernel
theorem rN_5 : rN 5 = 8 := by decide +kernel
theorem rC_6 : rC 6 = 14 := by decide +kernel
theorem rN_6 : rN 6 = 14 := by decide +kernel
theorem rC_7 : rC 7 = 14 := by decide +kernel
theorem rN_7 : rN 7 = 14 := by decide +kernel
theorem rC_8 : rC 8 = 14 := by decide +kernel
theorem rN_8 : rN 8 = 14 := by decide +kernel
theorem rC_9 : rC 9 = 14 := by decide +kernel
theorem rN_9 : rN 9 = 14 := by decide +kernel
theorem rC_10 : rC 10 = 15 := by decide +kernel
theorem rN_10 : rN 10 = 6 := by decide +kernel
theorem rC_11 : rC 11 = 14 := by decide +kernel
theorem rN_11 : rN 11 = 12 := by decide +kernel
theorem rC_12 : rC 12 = 15 := by decide +kernel
theorem rN_12 : rN 12 = 6 := by decide +kernel
theorem rC_13 : rC 13 = 14 := by decide +kernel
theorem rN_13 : rN 13 = 6 := by decide +kernel
theorem rC_14 : rC 14 = 14 := by decide +kernel
theorem rN_14 : rN 14 = 6 := by decide +kernel
theorem rC_15 : rC 15 = 14 := by decide +kernel
theorem rN_15 : rN 15 = 48 := by decide +kernel
theorem rC_16 : rC 16 = 2 := by decide +kernel
theorem rN_16 : rN 16 = 4 := by decide +kernel
theorem rC_17 : rC 17 = 14 := by decide +kernel
theorem rN_17 : rN 17 = 320 := by decide +kernel
theorem rC_18 : rC 18 = 14 := by decide +kernel
theorem rN_18 : rN 18 = 32 := by decide +kernel
theorem rC_19 : rC 19 = 2 := by decide +kernel
theorem rN_19 : rN 19 = 4 := by decide +kernel
theorem rC_20 : rC 20 = 14 := by decide +kernel
theorem rN_20 : rN 20 = 320 := by decide +kernel
theorem rC_21 : rC 21 = 14 := by decide +kernel
theorem rN_21 : rN 21 = 32 := by decide +kernel
theorem rC_22 : rC 22 = 4 := by decide +kernel
theorem rN_22 : rN 22 = 20 := by decide +kernel
theorem rC_23 : rC 23 = 15 := by decide +kernel
theorem rN_23 : rN 23 = 8 := by decide +kernel
theorem rC_24 : rC 24 = 14 := by decide +kernel
theorem rN_24 : rN 24 = 8 := by decide +kernel
theorem rC_25 : rC 25 = 14 := by decide +kernel
theorem rN_25 : rN 25 = 8 := by decide +kernel
theorem rC_26 : rC 26 = 14 := by decide +kernel
theorem rN_26 : rN 26 = 14 := by decide +kernel
theorem rC_27 : rC 27 = 14 := by decide +kernel
theorem rN_27 : rN 27 = 14 := by decide +kernel
theorem rC_28 : rC 28 = 14 := by decide +kernel
theorem rN_28 : rN 28 = 14 := by decide +kernel
theorem rC_29 : rC 29 = 14 := by decide +kernel
theorem rN_29 : rN 29 = 14 := by decide +kernel
theorem rC_30 : rC 30 = 15 := by decide +kernel
theorem rN_30 : rN 30 = 6 := by decide +kernel
theorem rC_31 : rC 31 = 14 := by decide +kernel
theorem rN_31 : rN 31 = 12 := by decide +kernel
theorem rC_32 : rC 32 = 15 := by decide +kernel
theorem rN_32 : rN 32 = 6 := by decide +kernel
theorem rC_33 : rC 33 = 14 := by decide +kernel
theorem rN_33 : rN 33 = 6 := by decide +kernel
theorem rC_34 : rC 34 = 14 := by decide +kernel
theorem rN_34 : rN 34 = 6 := by decide +kernel
theorem rC_35 : rC 35 = 14 := by decide +kernel
theorem rN_35 : rN 35 = 48 := by decide +kernel
theorem rC_36 : rC 36 = 2 := by decide +kernel
theorem rN_36 : rN 36 = 4 := by decide +kernel
theorem rC_37 : rC 37 = 14 := by decide +kernel
theorem rN_37 : rN 37 = 320 := by decide +kernel
theorem rC_38 : rC 38 = 14 := by decide +kernel
theorem rN_38 : rN 38 = 32 := by decide +kernel
theorem rC_39 : rC 39 = 2 := by decide +kernel
theorem rN_39 : rN 39 = 4 := by decide +kernel
theorem rC_40 : rC 40 = 14 := by decide +kernel
theorem rN_40 : rN 40 = 320 := by decide +kernel
theorem rC_41 : rC 41 = 14 := by decide +kernel
theorem rN_41 : rN 41 = 32 := by decide +kernel
theorem rC_42 : rC 42 = 5 := by decide +kernel
theorem rN_42 : rN 42 = 6 := by decide +kernel
theorem rC_43 : rC 43 = 10 := by decide +kernel
theorem rN_43 : rN 43 = 7 := by decide +kernel
theorem rC_44 : rC 44 = 3 := by decide +kernel
theorem rN_44 : rN 44 = 5 := by decide +kernel
theorem rC_45 : rC 45 = 14 := by decide +kernel
theorem rN_45 : rN 45 = 60 := by decide +kernel
theorem rC_46 : rC 46 = 0 := by decide +kernel
theorem rN_46 : rN 46 = 14 := by decide +kernel
theorem rC_47 : rC 47 = 14 := by decide +kernel
theorem rN_47 : rN 47 = 12 := by decide +kernel
theorem rC_48 : rC 48 = 14 := by decide +kernel
theorem rN_48 : rN 48 = 1681 := by decide +kernel
theorem rC_49 : rC 49 = 14 := by decide +kernel
theorem rN_49 : rN 49 = 123 := by decide +kernel
theorem rC_50 : rC 50 = 16 := by decide +kernel
theorem rN_50 : rN 50 = 3 := by decide +kernel
theorem rC_51 : rC 51 = 9 := by decide +kernel
theorem rN_51 : rN 51 = 7 := by decide +kernel
theorem rC_52 : rC 52 = 14 := by decide +kernel
theorem rN_52 : rN 52 = 6 := by decide +kernel
theorem rC_53 : rC 53 = 14 := by decide +kernel
theorem rN_53 : rN 53 = 20 := by decide +kernel
theorem rC_54 : rC 54 = 7 := by decide +kernel
theorem rN_54 : rN 54 = 4 := by decide +kernel
theorem rC_55 : rC 55 = 14 := by decide +kernel
theorem rN_55 : rN 55 = 12 := by decide +kernel
theorem rC_56 : rC 56 = 14 := by decide +kernel
theorem rN_56 : rN 56 = 12 := by decide +kernel
theorem rC_57 : rC 57 = 8 := by decide +kernel
theorem rN_57 : rN 57 = 4 := by decide +kernel
theorem rC_58 : rC 58 = 9 := by decide +kernel
theorem rN_58 : rN 58 = 7 := by decide +kernel
theorem rC_59 : rC 59 = 14 := by decide +kernel
theorem rN_59 : rN 59 = 6 := by decide +kernel
theorem rC_60 : rC 60 = 14 := by decide +kernel
theorem rN_60 : rN 60 = 20 := by decide +kernel
theorem rC_61 : rC 61 = 1 := by decide +kernel
theorem rN_61 : rN 61 = 20 := by decide +kernel
theorem rC_62 : rC 62 = 7 := by decide +kernel
theorem rN_62 : rN 62 = 4 := by decide +kernel
theorem rC_63 : rC 63 = 14 := by decide +kernel
theorem rN_63 : rN 63 = 12 := by decide +kernel
theorem rC_64 : rC 64 = 14 := by decide +kernel
theorem rN_64 : rN 64 = 12 := by decide +kernel
theorem rC_65 : rC 65 = 14 := by decide +kernel
theorem rN_65 : rN 65 = 12 := by decide +kernel
theorem rC_66 : rC 66 = 14 := by decide +kernel
theorem rN_66 : rN 66 = 8 := by decide +kernel
theorem rC_67 : rC 67 = 14 := by decide +kernel
theorem rN_67 : rN 67 = 180 := by decide +kernel
theorem rC_68 : rC 68 = 14 := by decide +kernel
theorem rN_68 : rN 68 = 180 := by decide +kernel
theorem rC_69 : rC 69 = 14 := by decide +kernel
theorem rN_69 : rN 69 = 12 := by decide +kernel
theorem rC_70 : rC 70 = 14 := by decide +kernel
theorem rN_70 : rN 70 = 4 := by decide +kernel
theorem rC_71 : rC 71 = 14 := by decide +kernel
theorem rN_71 : rN 71 = 4 := by decide +kernel
theorem rC_72 : rC 72 = 14 := by decide +kernel
theorem rN_72 : rN 72 = 4 := by decide +kernel
theorem rC_73 : rC 73 = 14 := by decide +kernel
theorem rN_73 : rN 73 = 4 := by decide +kernel
theorem rC_74 : rC 74 = 14 := by decide +kernel
theorem rN_74 : rN 74 = 96 := by decide +kernel
theorem rC_75 : rC 75 = 8 := by decide +kernel
theorem rN_75 : rN 75 = 4 := by decide +kernel
theorem rC_76 : rC 76 = 9 := by decide +kernel
theorem rN_76 : rN 76 = 7 := by decide +kernel
theorem rC_77 : rC 77 = 14 := by decide +kernel
theorem rN_77 : rN 77 = 6 := by decide +kernel
theorem rC_78 : rC 78 = 14 := by decide +kernel
theorem rN_78 : rN 78 = 20 := by decide +kernel
theorem rC_79 : rC 79 = 6 := by decide +kernel
theorem rN_79 : rN 79 = 7 := by decide +kernel
theorem rC_80 : rC 80 = 14 := by decide +kernel
theorem rN_80 : rN 80 = 30 := by decide +kernel
theorem rC_81 : rC 81 = 14 := by decide +kernel
theorem rN_81 : rN 81 = 30 := by decide +kernel
theorem rC_82 : rC 82 = 15 := by decide +kernel
theorem rN_82 : rN 82 = 30 := by decide +kernel
theorem rC_83 : rC 83 = 9 := by decide +kernel
theorem rN_83 : rN 83 = 7 := by decide +kernel
theorem rC_84 : rC 84 = 14 := by decide +kernel
theorem rN_84 : rN 84 = 6 := by decide +kernel
theorem rC_85 : rC 85 = 14 := by decide +kernel
theorem rN_85 : rN 85 = 20 := by decide +kernel
theorem rC_86 : rC 86 = 12 := by decide +kernel
theorem rN_86 : rN 86 = 84 := by decide +kernel
theorem rC_87 : rC 87 = 13 := by decide +kernel
theorem rN_87 : rN 87 = 1620 := by decide +kernel
theorem rC_88 : rC 88 = 13 := by decide +kernel
theorem rN_88 : rN 88 = 1600 := by decide +kernel
theorem rC_89 : rC 89 = 14 := by decide +kernel
theorem rN_89 : rN 89 = 2 := by decide +kernel
theorem rC_90 : rC 90 = 14 := by decide +kernel
theorem rN_90 : rN 90 = 2 := by decide +kernel
theorem rC_91 : rC 91 = 14 := by decide +kernel
theorem rN_91 : rN 91 = 2 := by decide +kernel
theorem rC_92 : rC 92 = 14 := by decide +kernel
theorem rN_92 : rN 92 = 2 := by decide +kernel
theorem rC_93 : rC 93 = 14 := by decide +kernel
theorem rN_93 : rN 93 = 2 := by decide +kernel
theorem rC_94 : rC 94 = 14 := by decide +kernel
theorem rN_94 : rN 94 = 2 := by decide +kernel
theorem rC_95 : rC 95 = 14 := by decide +kernel
theorem rN_95 : rN 95 = 16 := by decide +kernel
theorem rC_96 : rC 96 = 14 := by decide +kernel
theorem rN_96 : rN 96 = 16 := by decide +kernel
theorem rC_97 : rC 97 = 14 := by decide +kernel
theorem rN_97 : rN 97 = 28 := by decide +kernel
theorem rC_98 : rC 98 = 14 := by decide +kernel
theorem rN_98 : rN 98 = 28 := by decide +kernel
theorem rC_99 : rC 99 = 14 := by decide +kernel
theorem rN_99 : rN 99 = 28 := by decide +kernel
theorem rC_100 : rC 100 = 14 := by decide +kernel
theorem rN_100 : rN 100 = 28 := by decide +kernel
theorem rC_101 : rC 101 = 14 := by decide +kernel
theorem rN_101 : rN 101 = 12 := by decide +kernel
theorem rC_102 : rC 102 = 14 := by decide +kernel
theorem rN_102 : rN 102 = 12 := by decide +kernel
theorem rC_103 : rC 103 = 14 := by decide +kernel
theorem rN_103 : rN 103 = 12 := by decide +kernel
theorem rC_104 : rC 104 = 14 := by decide +kernel
theorem rN_104 : rN 104 = 12 := by decide +kernel
theorem rC_105 : rC 105 = 14 := by decide +kernel
theorem rN_105 : rN 105 = 96 := by decide +kernel
theorem rC_106 : rC 106 = 14 := by decide +kernel
theorem rN_106 : rN 106 = 4 := by decide +kernel
theorem rC_107 : rC 107 = 14 := by decide +kernel
theorem rN_107 : rN 107 = 4 := by decide +kernel
theorem rC_108 : rC 108 = 16 := by decide +kernel
theorem rN_108 : rN 108 = 2 := by decide +kernel
theorem rC_109 : rC 109 = 16 := by decide +kernel
theorem rN_109 : rN 109 = 4 := by decide +kernel
theorem rC_110 : rC 110 = 15 := by decide +kernel
theorem rN_110 : rN 110 = 16 := by decide +kernel
theorem rC_111 : rC 111 = 15 := by decide +kernel
theorem rN_111 : rN 111 = 12 := by decide +kernel
theorem rC_112 : rC 112 = 15 := by decide +kernel
theorem rN_112 : rN 112 = 12 := by decide +kernel
theorem rC_113 : rC 113 = 14 := by decide +kernel
theorem rN_113 : rN 113 = 1120 := by decide +kernel
theorem rC_114 : rC 114 = 14 := by decide +kernel
theorem rN_114 : rN 114 = 1120 := by decide +kernel
theorem rC_115 : rC 115 = 14 := by decide +kernel
theorem rN_115 : rN 115 = 90 := by decide +kernel
theorem rC_116 : rC 116 = 14 := by decide +kernel
theorem rN_116 : rN 116 = 90 := by decide +kernel
theorem rC_117 : rC 117 = 14 := by decide +kernel
theorem rN_117 : rN 117 = 60 := by decide +kernel
theorem rC_118 : rC 118 = 14 := by decide +kernel
theorem rN_118 : rN 118 = 44 := by decide +kernel
theorem rC_119 : rC 119 = 14 := by decide +kernel
theorem rN_119 : rN 119 = 44 := by decide +kernel
theorem rC_120 : rC 120 = 14 := by decide +kernel
theorem rN_120 : rN 120 = 1804 := by decide +kernel
theorem rC_121 : rC 121 = 14 := by decide +kernel
theorem rN_121 : rN 121 = 12 := by decide +kernel
theorem rC_122 : rC 122 = 14 := by decide +kernel
theorem rN_122 : rN 122 = 12 := by decide +kernel
theorem rC_123 : rC 123 = 14 := by decide +kernel
theorem rN_123 : rN 123 = 8 := by decide +kernel
theorem rC_124 : rC 124 = 14 := by decide +kernel
theorem rN_124 : rN 124 = 8 := by decide +kernel
theorem rC_125 : rC 125 = 14 := by decide +kernel
theorem rN_125 : rN 125 = 216 := by decide +kernel
theorem rC_126 : rC 126 = 14 := by decide +kernel
theorem rN_126 : rN 126 = 1 := by decide +kernel
theorem rC_127 : rC 127 = 14 := by decide +kernel
theorem rN_127 : rN 127 = 4 := by decide +kernel
theorem rC_128 : rC 128 = 14 := by decide +kernel
theorem rN_128 : rN 128 = 4 := by decide +kernel
theorem rC_129 : rC 129 = 14 := by decide +kernel
theorem rN_129 : rN 129 = 4 := by decide +kernel
theorem rC_130 : rC 130 = 14 := by decide +kernel
theorem rN_130 : rN 130 = 4 := by decide +kernel
theorem rC_131 : rC 131 = 14 := by decide +kernel
theorem rN_131 : rN 131 = 30 := by decide +kernel
theorem rC_132 : rC 132 = 14 := by decide +kernel
theorem rN_132 : rN 132 = 30 := by decide +kernel
theorem rC_133 : rC 133 = 14 := by decide +kernel
theorem rN_133 : rN 133 = 30 := by decide +kernel
theorem rC_134 : rC 134 = 14 := by decide +kernel
theorem rN_134 : rN 134 = 30 := by decide +kernel
theorem rC_135 : rC 135 = 14 := by decide +kernel
theorem rN_135 : rN 135 = 3 := by decide +kernel
theorem rC_136 : rC 136 = 14 := by decide +kernel
theorem rN_136 : rN 136 = 132 := by decide +kernel
theorem rC_137 : rC 137 = 16 := by decide +kernel
theorem rN_137 : rN 137 = 3 := by decide +kernel
theorem rf_0_0 : rf 46 0 = 2 := by decide +kernel
theorem rf_0_1 : rf 46 1 = 47 := by decide +kernel
theorem rf_0_3 : rf 46 3 = 51 := by decide +kernel
theorem rf_0_8 : rf 46 8 = 48 := by decide +kernel
theorem rf_0_12 : rf 46 12 = 49 := by decide +kernel
theorem rf_0_13 : rf 46 13 = 50 := by decide +kernel
theorem rNo_0 : ∀ i, rC i = 0 → rN i = 14 := rf_rel (by decide +kernel)
theorem rf_1_0 : rf 61 0 = 2 := by decide +kernel
theorem rf_1_1 : rf 61 1 = 47 := by decide +kernel
theorem rf_1_2 : rf 61 2 = 75 := by decide +kernel
theorem rf_1_3 : rf 61 3 = 62 := by decide +kernel
theorem rf_1_4 : rf 61 4 = 65 := by decide +kernel
theorem rf_1_6 : rf 61 6 = 66 := by decide +kernel
theorem rf_1_7 : rf 61 7 = 67 := by decide +kernel
theorem rf_1_8 : rf 61 8 = 68 := by decide +kernel
theorem rf_1_10 : rf 61 10 = 69 := by decide +kernel
theorem rf_1_11 : rf 61 11 = 70 := by decide +kernel
theorem rf_1_12 : rf 61 12 = 71 := by decide +kernel
theorem rf_1_14 : rf 61 14 = 72 := by decide +kernel
theorem rf_1_15 : rf 61 15 = 73 := by decide +kernel
theorem rf_1_16 : rf 61 16 = 74 := by decide +kernel
theorem rNo_1 : ∀ i, rC i = 1 → rN i = 20 := rf_rel (by decide +kernel)
theorem rf_2_0 : ∀ i, rC i = 2 → rf i 0 = i + 1 ∧ rC (i + 1) = 14 ∧ rN (i + 1) = 320 := rf_rel (by decide +kernel)
theorem rf_2_1 : ∀ i, rC i = 2 → rf i 1 = i + 2 ∧ rC (i + 2) = 14 ∧ rN (i + 2) = 32 := rf_rel (by decide +kernel)
theorem rNo_2 : ∀ i, rC i = 2 → rN i = 4 := rf_rel (by decide +kernel)
theorem rf_3_0 : rf 44 0 = 43 := by decide +kernel
theorem rf_3_1 : rf 44 1 = 45 := by decide +kernel
theorem rNo_3 : ∀ i, rC i = 3 → rN i = 5 := rf_rel (by decide +kernel)
theorem rf_4_1 : ∀ i, rC i = 4 → rf i 1 = i + 1 ∧ rC (i + 1) = 15 ∧ rN (i + 1) = 8 := rf_rel (by decide +kernel)
theorem rf_4_2 : ∀ i, rC i = 4 → rf i 2 = i + 2 ∧ rC (i + 2) = 14 ∧ rN (i + 2) = 8 := rf_rel (by decide +kernel)
theorem rf_4_3 : ∀ i, rC i = 4 → rf i 3 = i + 3 ∧ rC (i + 3) = 14 ∧ rN (i + 3) = 8 := rf_rel (by decide +kernel)
theorem rf_4_5 : ∀ i, rC i = 4 → rf i 5 = i + 4 ∧ rC (i + 4) = 14 ∧ rN (i + 4) = 14 := rf_rel (by decide +kernel)
theorem rf_4_6 : ∀ i, rC i = 4 → rf i 6 = i + 5 ∧ rC (i + 5) = 14 ∧ rN (i + 5) = 14 := rf_rel (by decide +kernel)
theorem rf_4_7 : ∀ i, rC i = 4 → rf i 7 = i + 6 ∧ rC (i + 6) = 14 ∧ rN (i + 6) = 14 := rf_rel (by decide +kernel)
theorem rf_4_8 : ∀ i, rC i = 4 → rf i 8 = i + 7 ∧ rC (i + 7) = 14 ∧ rN (i + 7) = 14 := rf_rel (by decide +kernel)
theorem rf_4_10 : ∀ i, rC i = 4 → rf i 10 = i + 8 ∧ rC (i + 8) = 15 ∧ rN (i + 8) = 6 := rf_rel (by decide +kernel)
theorem rf_4_11 : ∀ i, rC i = 4 → rf i 11 = i + 9 ∧ rC (i + 9) = 14 ∧ rN (i + 9) = 12 := rf_rel (by decide +kernel)
theorem rf_4_13 : ∀ i, rC i = 4 → rf i 13 = i + 10 ∧ rC (i + 10) = 15 ∧ rN (i + 10) = 6 := rf_rel (by decide +kernel)
theorem rf_4_14 : ∀ i, rC i = 4 → rf i 14 = i + 11 ∧ rC (i + 11) = 14 ∧ rN (i + 11) = 6 := rf_rel (by decide +kernel)
theorem rf_4_15 : ∀ i, rC i = 4 → rf i 15 = i + 12 ∧ rC (i + 12) = 14 ∧ rN (i + 12) = 6 := rf_rel (by decide +kernel)
theorem rf_4_16 : ∀ i, rC i = 4 → rf i 16 = i + 13 ∧ rC (i + 13) = 14 ∧ rN (i + 13) = 48 := rf_rel (by decide +kernel)
theorem rf_4_18 : ∀ i, rC i = 4 → rf i 18 = i + 14 ∧ rC (i + 14) = 2 ∧ rN (i + 14) = 4 := rf_rel (by decide +kernel)
theorem rf_4_19 : ∀ i, rC i = 4 → rf i 19 = i + 17 ∧ rC (i + 17) = 2 ∧ rN (i + 17) = 4 := rf_rel (by decide +kernel)
theorem rNo_4 : ∀ i, rC i = 4 → rN i = 20 := rf_rel (by decide +kernel)
theorem rf_5_0 : rf 42 0 = 43 := by decide +kernel
theorem rf_5_1 : rf 42 1 = 44 := by decide +kernel
theorem rNo_5 : ∀ i, rC i = 5 → rN i = 6 := rf_rel (by decide +kernel)
theorem rf_6_0 : rf 79 0 = 2 := by decide +kernel
theorem rf_6_1 : rf 79 1 = 83 := by decide +kernel
theorem rf_6_4 : rf 79 4 = 80 := by decide +kernel
theorem rf_6_5 : rf 79 5 = 81 := by decide +kernel
theorem rf_6_6 : rf 79 6 = 82 := by decide +kernel
theorem rNo_6 : ∀ i, rC i = 6 → rN i = 7 := rf_rel (by decide +kernel)
theorem rf_7_0 : ∀ i, rC i = 7 → rf i 0 = i + 1 ∧ rC (i + 1) = 14 ∧ rN (i + 1) = 12 := rf_rel (by decide +kernel)
theorem rf_7_1 : ∀ i, rC i = 7 → rf i 1 = i + 2 ∧ rC (i + 2) = 14 ∧ rN (i + 2) = 12 := rf_rel (by decide +kernel)
theorem rNo_7 : ∀ i, rC i = 7 → rN i = 4 := rf_rel (by decide +kernel)
theorem rf_8_0 : ∀ i, rC i = 8 → rf i 0 = 2 ∧ rC (2) = 4 ∧ rN (2) = 20 := rf_rel (by decide +kernel)
theorem rf_8_1 : ∀ i, rC i = 8 → rf i 1 = i + 1 ∧ rC (i + 1) = 9 ∧ rN (i + 1) = 7 := rf_rel (by decide +kernel)
theorem rNo_8 : ∀ i, rC i = 8 → rN i = 4 := rf_rel (by decide +kernel)
theorem rf_9_0 : ∀ i, rC i = 9 → rf i 0 = 2 ∧ rC (2) = 4 ∧ rN (2) = 20 := rf_rel (by decide +kernel)
theorem rf_9_1 : ∀ i, rC i = 9 → rf i 1 = i + 1 ∧ rC (i + 1) = 14 ∧ rN (i + 1) = 6 := rf_rel (by decide +kernel)
theorem rf_9_2 : ∀ i, rC i = 9 → rf i 2 = i + 2 ∧ rC (i + 2) = 14 ∧ rN (i + 2) = 20 := rf_rel (by decide +kernel)
theorem rNo_9 : ∀ i, rC i = 9 → rN i = 7 := rf_rel (by decide +kernel)
theorem rf_10_0 : rf 43 0 = 1 := by decide +kernel
theorem rNo_10 : ∀ i, rC i = 10 → rN i = 7 := rf_rel (by decide +kernel)
theorem rf_11_0 : rf 0 0 = 1 := by decide +kernel
theorem rf_11_2 : rf 0 2 = 2 := by decide +kernel
theorem rf_11_3 : rf 0 3 = 22 := by decide +kernel
theorem rf_11_4 : rf 0 4 = 42 := by decide +kernel
theorem rf_11_5 : rf 0 5 = 46 := by decide +kernel
theorem rf_11_6 : rf 0 6 = 54 := by decide +kernel
theorem rf_11_7 : rf 0 7 = 57 := by decide +kernel
theorem rf_11_8 : rf 0 8 = 61 := by decide +kernel
theorem rf_11_9 : rf 0 9 = 79 := by decide +kernel
theorem rNo_11 : ∀ i, rC i = 11 → rN i = 10 := rf_rel (by decide +kernel)
theorem rf_12_0 : rf 86 0 = 87 := by decide +kernel
theorem rf_12_1 : rf 86 1 = 88 := by decide +kernel
theorem rf_12_11 : rf 86 11 = 89 := by decide +kernel
theorem rf_12_12 : rf 86 12 = 90 := by decide +kernel
theorem rf_12_13 : rf 86 13 = 91 := by decide +kernel
theorem rf_12_14 : rf 86 14 = 92 := by decide +kernel
theorem rf_12_15 : rf 86 15 = 93 := by decide +kernel
theorem rf_12_16 : rf 86 16 = 94 := by decide +kernel
theorem rf_12_17 : rf 86 17 = 95 := by decide +kernel
theorem rf_12_18 : rf 86 18 = 96 := by decide +kernel
theorem rf_12_19 : rf 86 19 = 97 := by decide +kernel
theorem rf_12_20 : rf 86 20 = 98 := by decide +kernel
theorem rf_12_21 : rf 86 21 = 99 := by decide +kernel
theorem rf_12_22 : rf 86 22 = 100 := by decide +kernel
theorem rf_12_23 : rf 86 23 = 101 := by decide +kernel
theorem rf_12_24 : rf 86 24 = 102 := by decide +kernel
theorem rf_12_25 : rf 86 25 = 103 := by decide +kernel
theorem rf_12_26 : rf 86 26 = 104 := by decide +kernel
theorem rf_12_27 : rf 86 27 = 105 := by decide +kernel
theorem rf_12_28 : rf 86 28 = 106 := by decide +kernel
theorem rf_12_29 : rf 86 29 = 107 := by decide +kernel
theorem rf_12_30 : rf 86 30 = 108 := by decide +kernel
theorem rf_12_31 : rf 86 31 = 109 := by decide +kernel
theorem rf_12_32 : rf 86 32 = 110 := by decide +kernel
theorem rf_12_33 : rf 86 33 = 111 := by decide +kernel
theorem rf_12_34 : rf 86 34 = 112 := by decide +kernel
theorem rf_12_35 : rf 86 35 = 113 := by decide +kernel
theorem rf_12_36 : rf 86 36 = 114 := by decide +kernel
theorem rf_12_37 : rf 86 37 = 115 := by decide +kernel
theorem rf_12_38 : rf 86 38 = 116 := by decide +kernel
theorem rf_12_39 : rf 86 39 = 117 := by decide +kernel
theorem rf_12_52 : rf 86 52 = 118 := by decide +kernel
theorem rf_12_53 : rf 86 53 = 119 := by decide +kernel
theorem rf_12_55 : rf 86 55 = 120 := by decide +kernel
theorem rf_12_58 : rf 86 58 = 121 := by decide +kernel
theorem rf_12_59 : rf 86 59 = 122 := by decide +kernel
theorem rf_12_65 : rf 86 65 = 123 := by decide +kernel
theorem rf_12_66 : rf 86 66 = 124 := by decide +kernel
theorem rf_12_69 : rf 86 69 = 125 := by decide +kernel
theorem rf_12_70 : rf 86 70 = 126 := by decide +kernel
theorem rf_12_71 : rf 86 71 = 127 := by decide +kernel
theorem rf_12_72 : rf 86 72 = 128 := by decide +kernel
theorem rf_12_73 : rf 86 73 = 129 := by decide +kernel
theorem rf_12_74 : rf 86 74 = 130 := by decide +kernel
theorem rf_12_75 : rf 86 75 = 131 := by decide +kernel
theorem rf_12_76 : rf 86 76 = 132 := by decide +kernel
theorem rf_12_77 : rf 86 77 = 133 := by decide +kernel
theorem rf_12_78 : rf 86 78 = 134 := by decide +kernel
theorem rf_12_81 : rf 86 81 = 135 := by decide +kernel
theorem rf_12_82 : rf 86 82 = 136 := by decide +kernel
theorem rf_12_83 : rf 86 83 = 137 := by decide +kernel
theorem rNo_12 : ∀ i, rC i = 12 → rN i = 84 := rf_rel (by decide +kernel)
