/-! the text's signs, on both sides -/
theorem zand_255 (b : Int) (h : -128 ≤ b ∧ b < 128) : zand b 255 = if b < 0 then b + 256 else b := by
  rw [zand_def]
  have key : ∀ k : Nat, k < 256 → (vI ((k : Int) - 128) &&& vI 255).toInt = if ((k : Int) - 128) < 0 then ((k : Int) - 128) + 256 else ((k : Int) - 128) := by decide +kernel
  have e : b = (((b + 128).toNat : Nat) : Int) - 128 := by omega
  have h2 := key (b + 128).toNat (by omega)
  rw [← e] at h2
  exact h2
abbrev isL (b : Int) : Prop := 97 ≤ b ∧ b ≤ 122
abbrev isD (b : Int) : Prop := 48 ≤ b ∧ b ≤ 57
abbrev isBl (b : Int) : Prop := b = 32 ∨ b = 10
abbrev isSg (b : Int) : Prop := b = 59 ∨ b = 40 ∨ b = 41 ∨ b = 60 ∨ b = 62 ∨ b = 61 ∨ b = 43 ∨ b = 45 ∨ b = 42 ∨ b = 47 ∨ b = 37
def TXC (B : Nat → Int) (N : Nat) (σ : SS) : Prop := gi σ 43 1 = N ∧ N ≤ 1600 ∧ ∀ i, i < N → gi σ 1 i = B i ∧ -128 ≤ B i ∧ B i < 128
def TXM (B : Nat → Int) (N : Nat) (τ : SS) : Prop := gi τ 86 3 = N ∧ N ≤ 1600 ∧ ∀ i, i < N → gi τ 88 i = B i ∧ -128 ≤ B i ∧ B i < 128
theorem TXC.of {P : Nat → Nat → Prop} {B : Nat → Int} {N : Nat} {σ τ : SS} (h : TXC B N σ) (he : EqP P σ τ) (hp : ∀ r k, P r k → r ≠ 1 ∧ (r ≠ 43 ∨ k ≠ 1)) : TXC B N τ := by
  obtain ⟨h1, h2, h3⟩ := h
  refine ⟨by rw [he.i _ _ (fun z => by have := hp _ _ z; omega)]; exact h1, h2, fun i hi => ?_⟩
  rw [he.i _ _ (fun z => by have := hp _ _ z; omega)]
  exact h3 i hi
theorem TXM.of {P : Nat → Nat → Prop} {B : Nat → Int} {N : Nat} {σ τ : SS} (h : TXM B N σ) (he : EqP P σ τ) (hp : ∀ r k, P r k → r ≠ 88 ∧ (r ≠ 86 ∨ k ≠ 3)) : TXM B N τ := by
  obtain ⟨h1, h2, h3⟩ := h
  refine ⟨by rw [he.i _ _ (fun z => by have := hp _ _ z; omega)]; exact h1, h2, fun i hi => ?_⟩
  rw [he.i _ _ (fun z => by have := hp _ _ z; omega)]
  exact h3 i hi
noncomputable def sgC (B : Nat → Int) (N i : Nat) : Int := if i < N then B i else -1
noncomputable def sgM (B : Nat → Int) (N i : Nat) : Int := if i < N then (if B i < 0 then B i + 256 else B i) else 0
theorem x_signC {B : Nat → Int} {N : Nat} {σ : SS} (h : TXC B N σ) (i : Nat) : f_To_sign (i : Int) σ = some (sgC B N i, σ) := by
  obtain ⟨h1, h2, h3⟩ := h
  unfold f_To_sign sgC
  rw [if_neg (by omega), h1]
  by_cases hi : i < N
  · rw [if_neg (by omega), if_neg (by omega), oc_pos (by omega), Int.toNat_natCast, (h3 i hi).1, if_pos hi]
  · rw [if_pos (by omega), if_neg hi]
theorem x_signM {B : Nat → Int} {N : Nat} {σ : SS} (h : TXM B N σ) (i : Nat) : f_Mo_sign (i : Int) σ = some (sgM B N i, σ) := by
  obtain ⟨h1, h2, h3⟩ := h
  unfold f_Mo_sign sgM
  rw [h1]
  by_cases hi : i < N
  · rw [if_neg (by omega), oc_pos (by omega), Int.toNat_natCast, (h3 i hi).1, if_pos hi, zand_255 _ (h3 i hi).2]
  · rw [if_pos (by omega), if_neg hi]
theorem sg_l {B : Nat → Int} {N : Nat} (hB : ∀ i, i < N → -128 ≤ B i ∧ B i < 128) (i : Nat) : (isL (sgC B N i) ↔ i < N ∧ isL (B i)) ∧ (isL (sgM B N i) ↔ i < N ∧ isL (B i)) ∧ (isD (sgC B N i) ↔ i < N ∧ isD (B i)) ∧ (isD (sgM B N i) ↔ i < N ∧ isD (B i)) := by
  unfold sgC sgM
  by_cases h : i < N
  · have := hB i h
    rw [if_pos h, if_pos h]
    by_cases h2 : B i < 0
    · rw [if_pos h2]; omega
    · rw [if_neg h2]; omega
  · rw [if_neg h, if_neg h]; omega
theorem sgM_eq {B : Nat → Int} {N : Nat} (i : Nat) (h : i < N) (h2 : 0 ≤ B i) : sgM B N i = B i := by
  unfold sgM; rw [if_pos h, if_neg (by omega)]
theorem sgC_eq {B : Nat → Int} {N : Nat} (i : Nat) (h : i < N) : sgC B N i = B i := by
  unfold sgC; rw [if_pos h]
theorem x_isLetterC (a : Int) (σ : SS) : f_To_isLetter a σ = some (if isL a then 1 else 0, σ) := by
  unfold f_To_isLetter isL
  by_cases h1 : a < 97
  · rw [if_pos h1, if_neg (by omega)]
  · rw [if_neg h1]
    by_cases h2 : 122 < a
    · rw [if_pos h2, if_neg (by omega)]
    · rw [if_neg h2, if_pos (by omega)]
theorem x_isDigitC (a : Int) (σ : SS) : f_To_isDigit a σ = some (if isD a then 1 else 0, σ) := by
  unfold f_To_isDigit isD
  by_cases h1 : a < 48
  · rw [if_pos h1, if_neg (by omega)]
  · rw [if_neg h1]
    by_cases h2 : 57 < a
    · rw [if_pos h2, if_neg (by omega)]
    · rw [if_neg h2, if_pos (by omega)]
theorem x_isDigitM (a : Int) (σ : SS) : f_Mo_isDigit a σ = some (if isD a then 1 else 0, σ) := by
  unfold f_Mo_isDigit isD
  by_cases h1 : a < 48
  · rw [if_pos h1, if_neg (by omega)]
  · rw [if_neg h1]
    by_cases h2 : 57 < a
    · rw [if_pos h2, if_neg (by omega)]
    · rw [if_neg h2, if_pos (by omega)]
theorem x_isBlank (a : Int) (σ : SS) : f_To_isBlank a σ = some (if isBl a then 1 else 0, σ) := by
  unfold f_To_isBlank isBl
  by_cases h1 : a = 32
  · rw [if_pos h1, if_pos (by omega)]
  · rw [if_neg h1]
    by_cases h2 : a = 10
    · rw [if_pos h2, if_pos (by omega)]
    · rw [if_neg h2, if_neg (by omega)]
theorem x_isSignC (a : Int) (σ : SS) : f_To_isSign a σ = some (if isSg a then 1 else 0, σ) := by
  unfold f_To_isSign
  by_cases h : isSg a
  · rw [if_pos h]
    rcases h with rfl | rfl | rfl | rfl | rfl | rfl | rfl | rfl | rfl | rfl | rfl <;> rfl
  · rw [if_neg h, if_neg (by omega), if_neg (by omega), if_neg (by omega), if_neg (by omega), if_neg (by omega), if_neg (by omega), if_neg (by omega), if_neg (by omega), if_neg (by omega), if_neg (by omega), if_neg (by omega)]
theorem x_isSignM (a : Int) (σ : SS) : f_Mo_isSign a σ = some (if isSg a then 1 else 0, σ) := by
  unfold f_Mo_isSign
  by_cases h : isSg a
  · rw [if_pos h]
    rcases h with rfl | rfl | rfl | rfl | rfl | rfl | rfl | rfl | rfl | rfl | rfl <;> rfl
  · rw [if_neg h, if_neg (by omega), if_neg (by omega), if_neg (by omega), if_neg (by omega), if_neg (by omega), if_neg (by omega), if_neg (by omega), if_neg (by omega), if_neg (by omega), if_neg (by omega), if_neg (by omega)]
/-! names as numbers -/
def wl (B : Nat → Int) (p : Nat) : Nat → List Int
  | 0 => []
  | n + 1 => (B (p + n) - 96) :: wl B p n
def r32 : List Int → Int
  | [] => 0
  | x :: xs => 32 * r32 xs + x
def r256 : List Int → Int
  | [] => 0
  | x :: xs => 256 * r256 xs + (x + 96)
def dv (B : Nat → Int) (p : Nat) : Nat → Int
  | 0 => 0
  | n + 1 => 10 * dv B p n + (B (p + n) - 48)
def pw (b : Int) : Nat → Int
  | 0 => 1
  | n + 1 => b * pw b n
def lts (w : List Int) : Prop := ∀ x ∈ w, 1 ≤ x ∧ x ≤ 26
theorem wl_len (B : Nat → Int) (p : Nat) : ∀ n, (wl B p n).length = n := by
  intro n
  induction n with
  | zero => rfl
  | succ n ih => rw [wl, List.length_cons, ih]
theorem wl_lts (B : Nat → Int) (p : Nat) : ∀ n, (∀ i, p ≤ i → i < p + n → isL (B i)) → lts (wl B p n) := by
  intro n
  induction n with
  | zero => intro _ x hx; simp [wl] at hx
  | succ n ih =>
    intro h x hx
    rw [wl, List.mem_cons] at hx
    rcases hx with rfl | hx
    · have := h (p + n) (by omega) (by omega)
      omega
    · exact ih (fun i h1 h2 => h i h1 (by omega)) x hx
theorem r32_b : ∀ w : List Int, lts w → 0 ≤ r32 w ∧ r32 w < pw 32 w.length := by
  intro w
  induction w with
  | nil => intro _; simp [r32, pw]
  | cons x w ih =>
    intro h
    have h1 := ih (fun y hy => h y (List.mem_cons_of_mem _ hy))
    have h2 := h x List.mem_cons_self
    rw [r32, List.length_cons, pw]
    omega
theorem r256_b : ∀ w : List Int, lts w → 0 ≤ r256 w ∧ 2 * r256 w < pw 256 w.length := by
  intro w
  induction w with
  | nil => intro _; simp [r256, pw]
  | cons x w ih =>
    intro h
    have h1 := ih (fun y hy => h y (List.mem_cons_of_mem _ hy))
    have h2 := h x List.mem_cons_self
    rw [r256, List.length_cons, pw]
    omega
theorem pw_mo (b : Int) (hb : 1 ≤ b) : ∀ m n, n ≤ m → pw b n ≤ pw b m := by
  have pos : ∀ n, 0 < pw b n := by
    intro n
    induction n with
    | zero => simp [pw]
    | succ n ih => rw [pw]; exact Int.mul_pos (by omega) ih
  intro m
  induction m with
  | zero => intro n h; obtain rfl : n = 0 := by omega
            exact Int.le_refl _
  | succ m ih =>
    intro n h
    by_cases h2 : n = m + 1
    · rw [h2]; exact Int.le_refl _
    · have h3 := ih n (by omega)
      have h4 := pos m
      have h5 : 1 * pw b m ≤ b * pw b m := Int.mul_le_mul_of_nonneg_right hb (by omega)
      rw [pw]
      omega
theorem r32_8 (w : List Int) (h : lts w) (n : Nat) (hw : w.length ≤ 7) : 0 ≤ r32 w ∧ r32 w < 34359738368 := by
  have h1 := r32_b w h
  have h2 := pw_mo 32 (by omega) 7 w.length hw
  have h3 : pw 32 7 = 34359738368 := by decide
  omega
theorem r256_8 (w : List Int) (h : lts w) (hw : w.length ≤ 7) : 0 ≤ r256 w ∧ r256 w < 36028797018963968 := by
  have h1 := r256_b w h
  have h2 := pw_mo 256 (by omega) 7 w.length hw
  have h3 : pw 256 7 = 72057594037927936 := by decide
  omega
theorem dv_b (B : Nat → Int) (p : Nat) : ∀ n, (∀ i, p ≤ i → i < p + n → isD (B i)) → n ≤ 4 → 0 ≤ dv B p n ∧ dv B p n ≤ 9999 := by
  have key : ∀ n, (∀ i, p ≤ i → i < p + n → isD (B i)) → 0 ≤ dv B p n ∧ dv B p n < pw 10 n := by
    intro n
    induction n with
    | zero => intro _; simp [dv, pw]
    | succ n ih =>
      intro h
      have h1 := ih (fun i h1 h2 => h i h1 (by omega))
      have h2 := h (p + n) (by omega) (by omega)
      rw [dv, pw]
      omega
  intro n h hn
  have h1 := key n h
  have h2 := pw_mo 10 (by omega) 4 n hn
  have h3 : pw 10 4 = 10000 := by decide
  omega
/-- the class's number of a name and the reference's -/
def NR (c m : Int) : Prop := ∃ w, lts w ∧ c = r32 w ∧ m = r256 w
theorem r_inj : ∀ w v : List Int, lts w → lts v → (r32 w = r32 v ∨ r256 w = r256 v) → w = v := by
  intro w
  induction w with
  | nil =>
    intro v _ hv h
    cases v with
    | nil => rfl
    | cons y v =>
      exfalso
      have h1 := r32_b v (fun z hz => hv z (List.mem_cons_of_mem _ hz))
      have h2 := r256_b v (fun z hz => hv z (List.mem_cons_of_mem _ hz))
      have h3 := hv y List.mem_cons_self
      rw [r32, r256, r32, r256] at h
      omega
  | cons x w ih =>
    intro v hw hv h
    have k1 := r32_b w (fun z hz => hw z (List.mem_cons_of_mem _ hz))
    have k2 := r256_b w (fun z hz => hw z (List.mem_cons_of_mem _ hz))
    have k3 := hw x List.mem_cons_self
    cases v with
    | nil =>
      exfalso
      rw [r32, r256, r32, r256] at h
      omega
    | cons y v =>
      have h3 := hv y List.mem_cons_self
      rw [r32, r256, r32, r256] at h
      have e : x = y ∧ (r32 w = r32 v ∨ r256 w = r256 v) := by omega
      rw [e.1, ih v (fun z hz => hw z (List.mem_cons_of_mem _ hz)) (fun z hz => hv z (List.mem_cons_of_mem _ hz)) e.2]
theorem NR_eq {c m c' m' : Int} (h : NR c m) (h' : NR c' m') : c = c' ↔ m = m' := by
  obtain ⟨w, hw, rfl, rfl⟩ := h
  obtain ⟨v, hv, rfl, rfl⟩ := h'
  constructor
  · intro e; rw [r_inj w v hw hv (Or.inl e)]
  · intro e; rw [r_inj w v hw hv (Or.inr e)]
theorem vJ_natI (N : Nat) (h : N < 9223372036854775808) : (vJ (N : Int)).toBitVec.toNat = N := vJ_nat N (by omega)
theorem yshl_nat (A k : Nat) (hk : k < 64) (hA : A * 2 ^ k < 9223372036854775808) : yshl (A : Int) (k : Int) = ((A * 2 ^ k : Nat) : Int) := by
  have hA2 : A < 9223372036854775808 := by
    have : 1 ≤ 2 ^ k := Nat.one_le_two_pow
    have h2 : A * 1 ≤ A * 2 ^ k := Nat.mul_le_mul_left _ this
    omega
  rw [yshl_def]
  have h : (vJ (A : Int) <<< ((vI (k : Int)).toInt64 &&& 63)).toBitVec.toNat = A * 2 ^ k := by
    rw [Int64.toBitVec_shiftLeft]
    show ((vJ (A : Int)).toBitVec <<< (((vI (k : Int)).toInt64 &&& 63).toBitVec.smod 64).toNat).toNat = _
    rw [cs_all k hk, BitVec.toNat_shiftLeft, vJ_nat A (by omega), Nat.shiftLeft_eq]
    exact Nat.mod_eq_of_lt (by omega)
  rw [toJ_nat _ (by rw [h]; exact hA), h]
theorem yor_nat (A B : Nat) (hA : A < 9223372036854775808) (hB : B < 9223372036854775808) (hAB : A ||| B < 9223372036854775808) : yor (A : Int) (B : Int) = ((A ||| B : Nat) : Int) := by
  rw [yor_def]
  have h : (vJ (A : Int) ||| vJ (B : Int)).toBitVec.toNat = A ||| B := by
    rw [Int64.toBitVec_or, BitVec.toNat_or, vJ_nat A (by omega), vJ_nat B (by omega)]
  rw [toJ_nat _ (by rw [h]; exact hAB), h]
theorem y_name (x l : Int) (hx : 0 ≤ x ∧ x < 36028797018963968) (hl : 0 ≤ l ∧ l < 256) : yor (yshl x 8) l = 256 * x + l := by
  obtain ⟨X, rfl⟩ : ∃ X : Nat, x = X := ⟨x.toNat, by omega⟩
  obtain ⟨L, rfl⟩ : ∃ L : Nat, l = L := ⟨l.toNat, by omega⟩
  have e8 : X * 2 ^ 8 = X * 256 := by rfl
  have e : yshl (X : Int) ((8 : Nat) : Int) = ((X * 2 ^ 8 : Nat) : Int) := yshl_nat X 8 (by omega) (by omega)
  have e2 : X * 2 ^ 8 ||| L = X * 2 ^ 8 + L := by
    have := Nat.shiftLeft_add_eq_or_of_lt (a := X) (i := 8) (b := L) (by omega)
    rw [Nat.shiftLeft_eq] at this
    exact this.symm
  rw [show (8 : Int) = ((8 : Nat) : Int) from rfl, e, yor_nat _ _ (by omega) (by omega) (by rw [e2]; omega), e2]
  omega
