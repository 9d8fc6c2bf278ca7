/-! cover: pure -/
theorem vI_nat (A : Nat) (h : A < 2147483648) : (vI (A : Int)).toBitVec.toNat = A := by
  unfold vI
  have h2 : (Int32.ofInt (A : Int)).toBitVec = BitVec.ofInt 32 (A : Int) := rfl
  rw [h2, BitVec.toNat_ofInt]
  omega
theorem toI_nat (x : Int32) (h : x.toBitVec.toNat < 2147483648) : x.toInt = (x.toBitVec.toNat : Int) := by
  show x.toBitVec.toInt = _
  exact BitVec.toInt_eq_toNat_of_lt (by omega)
theorem zor_nat (A B : Nat) (hA : A < 2147483648) (hB : B < 2147483648) : zor (A : Int) (B : Int) = ((A ||| B : Nat) : Int) := by
  rw [zor_def]
  have h : (vI (A : Int) ||| vI (B : Int)).toBitVec.toNat = A ||| B := by
    rw [Int32.toBitVec_or, BitVec.toNat_or, vI_nat A hA, vI_nat B hB]
  have h2 : A ||| B < 2 ^ 31 := Nat.or_lt_two_pow hA hB
  rw [toI_nat _ (by rw [h]; exact h2), h]
theorem zor_0 {x : Int} (h : rI x) : zor x 0 = x := by
  rw [zor_def, show vI 0 = (0 : Int32) from rfl, Int32.or_zero, vI_to h]
theorem z0_or {x : Int} (h : rI x) : zor 0 x = x := by
  rw [zor_def, show vI 0 = (0 : Int32) from rfl, Int32.zero_or, vI_to h]
theorem zshl_all : ∀ y, y < 15 → (vI 1 <<< (vI ((y : Nat) : Int) &&& 31)).toInt = ((2 ^ y : Nat) : Int) := by decide +kernel
theorem zshl_1 (y : Nat) (h : y < 15) : zshl 1 (y : Int) = ((2 ^ y : Nat) : Int) := by rw [zshl_def]; exact zshl_all y h
noncomputable def enS (ld : SS) (tp : Nat → Int) (t : T3) (y : Nat) (x : Int) : Int := if ejP ld tp 1 (fun _ => y) (fun _ => (gi ld 7 y).toNat) t = true then zor x (zshl 1 y) else x
noncomputable def enP (ld : SS) (tp : Nat → Int) (t : T3) : Int := (List.range' 0 (gi ld 2 4).toNat).foldl (fun x y => enS ld tp t y x) 0
theorem enS_rng {ld : SS} {tp : Nat → Int} {t : T3} {y : Nat} (hy : y < 15) {x : Int} (h : 0 ≤ x ∧ x < 2147483648) : 0 ≤ enS ld tp t y x ∧ enS ld tp t y x < 2147483648 := by
  unfold enS
  split
  · obtain ⟨X, rfl⟩ : ∃ X : Nat, x = X := ⟨x.toNat, by omega⟩
    have h2 : 2 ^ y < 2 ^ 31 := Nat.pow_lt_pow_right (by omega) (by omega)
    rw [zshl_1 y hy, zor_nat X _ (by omega) h2]
    have h3 : X ||| 2 ^ y < 2 ^ 31 := Nat.or_lt_two_pow (by omega) h2
    omega
  · exact h
theorem enF_rng {ld : SS} {tp : Nat → Int} {t : T3} : ∀ (l : List Nat) (x : Int), (∀ y ∈ l, y < 15) → (0 ≤ x ∧ x < 2147483648) → 0 ≤ l.foldl (fun x y => enS ld tp t y x) x ∧ l.foldl (fun x y => enS ld tp t y x) x < 2147483648 := by
  intro l
  induction l with
  | nil => intro x _ h; exact h
  | cons y l ih => intro x hl h; exact ih _ (fun z hz => hl z (List.mem_cons_of_mem _ hz)) (enS_rng (hl y List.mem_cons_self) h)
theorem enP_rng {ld : SS} (hok : LdOK ld) {tp : Nat → Int} {t : T3} : 0 ≤ enP ld tp t ∧ enP ld tp t < 2147483648 := by
  have := hok.2.1
  exact enF_rng _ 0 (fun y hy => by rw [List.mem_range'_1] at hy; omega) (by omega)
noncomputable def enG (ld : SS) (tp : Nat → Int) (t : T3) : Int := if cpB ld t = true then enP ld tp t else 0
theorem enG_rng {ld : SS} (hok : LdOK ld) {tp : Nat → Int} {t : T3} : 0 ≤ enG ld tp t ∧ enG ld tp t < 2147483648 := by
  unfold enG; split
  · exact enP_rng hok
  · omega
/-! the searches on a list -/
noncomputable def s1 (e : T3 → Int) (full x : Int) (l : List T3) : Option T3 := l.find? (fun b => decide (zor x (e b) = full))
noncomputable def s2 (e : T3 → Int) (full x : Int) : List T3 → Option (T3 × T3)
  | [] => none
  | b :: l => match s1 e full (zor x (e b)) l with
    | some c => some (b, c)
    | none => s2 e full x l
noncomputable def t2 (e : T3 → Int) (full : Int) : List T3 → Option (T3 × T3)
  | [] => none
  | a :: l => match s1 e full (e a) l with
    | some c => some (a, c)
    | none => t2 e full l
noncomputable def t3 (e : T3 → Int) (full : Int) : List T3 → Option (T3 × T3 × T3)
  | [] => none
  | a :: l => match s2 e full (e a) l with
    | some c => some (a, c)
    | none => t3 e full l
noncomputable def s2g (e : T3 → Int) (full x : Int) : List T3 → Option (T3 × T3)
  | [] => none
  | b :: l => if e b ≤ 0 then s2g e full x l else match s1 e full (zor x (e b)) l with
    | some c => some (b, c)
    | none => s2g e full x l
noncomputable def t2g (e : T3 → Int) (full : Int) : List T3 → Option (T3 × T3)
  | [] => none
  | a :: l => if e a ≤ 0 then t2g e full l else match s1 e full (e a) l with
    | some c => some (a, c)
    | none => t2g e full l
noncomputable def t3g (e : T3 → Int) (full : Int) : List T3 → Option (T3 × T3 × T3)
  | [] => none
  | a :: l => if e a ≤ 0 then t3g e full l else match s2g e full (e a) l with
    | some c => some (a, c)
    | none => t3g e full l
noncomputable def nz (e : T3 → Int) (t : T3) : Bool := decide (e t ≠ 0)
theorem s1_filt {e : T3 → Int} {full x : Int} (hx : rI x) (hne : x ≠ full) (l : List T3) : s1 e full x (l.filter (nz e)) = s1 e full x l := by
  unfold s1
  rw [List.find?_filter]
  congr 1
  funext b
  unfold nz
  by_cases h : e b = 0
  · rw [h, zor_0 hx]; simp [hne]
  · simp [h]
theorem s2_filt {e : T3 → Int} (he : ∀ t, 0 ≤ e t ∧ e t < 2147483648) {full x : Int} : ∀ (l : List T3), (∀ b ∈ l, ¬ e b ≤ 0 → zor x (e b) ≠ full) → s2 e full x (l.filter (nz e)) = s2g e full x l := by
  intro l
  induction l with
  | nil => intro _; rfl
  | cons b l ih =>
    intro h
    have ih' := ih (fun c hc => h c (List.mem_cons_of_mem _ hc))
    have hb := he b
    by_cases h0 : e b = 0
    · rw [List.filter_cons_of_neg (by unfold nz; simp [h0]), s2g, if_pos (by omega)]
      exact ih'
    · rw [List.filter_cons_of_pos (by unfold nz; simp [h0]), s2, s2g, if_neg (by omega), s1_filt (rI_zor _ _) (h b List.mem_cons_self (by omega)), ih']
theorem t2_filt {e : T3 → Int} (he : ∀ t, 0 ≤ e t ∧ e t < 2147483648) {full : Int} : ∀ (l : List T3), (∀ b ∈ l, e b ≠ full) → t2 e full (l.filter (nz e)) = t2g e full l := by
  intro l
  induction l with
  | nil => intro _; rfl
  | cons b l ih =>
    intro h
    have ih' := ih (fun c hc => h c (List.mem_cons_of_mem _ hc))
    have hb := he b
    by_cases h0 : e b = 0
    · rw [List.filter_cons_of_neg (by unfold nz; simp [h0]), t2g, if_pos (by omega)]
      exact ih'
    · rw [List.filter_cons_of_pos (by unfold nz; simp [h0]), t2, t2g, if_neg (by omega), s1_filt (by unfold rI; omega) (h b List.mem_cons_self), ih']
theorem t3_filt {e : T3 → Int} (he : ∀ t, 0 ≤ e t ∧ e t < 2147483648) {full : Int} : ∀ (l : List T3), t2g e full l = none → t3 e full (l.filter (nz e)) = t3g e full l := by
  intro l
  induction l with
  | nil => intro _; rfl
  | cons b l ih =>
    intro h
    have hb := he b
    rw [t2g] at h
    by_cases h0 : e b = 0
    · rw [if_pos (by omega)] at h
      rw [List.filter_cons_of_neg (by unfold nz; simp [h0]), t3g, if_pos (by omega)]
      exact ih h
    · rw [if_neg (by omega)] at h
      have hs : s1 e full (e b) l = none := by
        cases hq : s1 e full (e b) l with
        | none => rfl
        | some c => rw [hq] at h; cases h
      rw [hs] at h
      rw [List.filter_cons_of_pos (by unfold nz; simp [h0]), t3, t3g, if_neg (by omega), s2_filt he l (fun c hc _ => ?_), ih h]
      unfold s1 at hs
      rw [List.find?_eq_none] at hs
      have := hs c hc
      simpa using this
theorem cps_len {ld : SS} (hok : LdOK ld) : (cps ld).length ≤ 180 := by
  have h : ∀ S, S < 7 → ∀ M, M < 7 → (TRp.filter (cpN S M)).length ≤ 180 := by decide +kernel
  rw [cps_N hok]
  have s6 := hok.2.2.1
  have m6 := hok.2.2.2.1
  exact h _ (by omega) _ (by omega)
noncomputable def EL (ld : SS) (tp : Nat → Int) : List T3 := (cps ld).filter (nz (enP ld tp))
theorem EL_eq (ld : SS) (tp : Nat → Int) : EL ld tp = TRp.filter (nz (enG ld tp)) := by
  unfold EL cps
  rw [List.filter_filter]
  congr 1
  funext t
  unfold nz enG
  by_cases h : cpB ld t = true
  · simp [h]
  · simp [h]
theorem EL_len {ld : SS} (hok : LdOK ld) (tp : Nat → Int) : (EL ld tp).length ≤ 180 := Nat.le_trans (List.length_filter_le _ _) (cps_len hok)
theorem EL_en {ld : SS} {tp : Nat → Int} {t : T3} (h : t ∈ EL ld tp) : enG ld tp t = enP ld tp t := by
  unfold EL cps at h
  rw [List.mem_filter, List.mem_filter] at h
  unfold enG
  rw [if_pos h.1.2]
theorem s1_congr {e e' : T3 → Int} {full x : Int} {l : List T3} (h : ∀ t ∈ l, e t = e' t) : s1 e full x l = s1 e' full x l := by
  unfold s1
  induction l with
  | nil => rfl
  | cons b l ih =>
    rw [List.find?_cons, List.find?_cons, h b List.mem_cons_self, ih (fun t ht => h t (List.mem_cons_of_mem _ ht))]
