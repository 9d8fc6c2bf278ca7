/-! how many bits -/
def vl : List Nat → Nat
  | [] => 0
  | b :: l => b + 256 * vl l
theorem and256 (x X y Y : Nat) (hx : x < 256) (hy : y < 256) : (x + 256 * X) &&& (y + 256 * Y) = (x &&& y) + 256 * (X &&& Y) := by
  have h1 := Nat.and_mod_two_pow (a := x + 256 * X) (b := y + 256 * Y) (n := 8)
  have h2 := Nat.and_div_two_pow (a := x + 256 * X) (b := y + 256 * Y) (n := 8)
  rw [show 2 ^ 8 = 256 from rfl] at h1 h2
  rw [show (x + 256 * X) % 256 = x by omega, show (y + 256 * Y) % 256 = y by omega] at h1
  rw [show (x + 256 * X) / 256 = X by omega, show (y + 256 * Y) / 256 = Y by omega] at h2
  rw [← h1, ← h2]
  omega
def g1 (b : Nat) : Nat := b - ((b / 2) &&& 85)
def g2 (b : Nat) : Nat := (b &&& 51) + ((b / 4) &&& 51)
def g3 (b : Nat) : Nat := b % 16 + b / 16
theorem k1_all : ∀ b, b < 256 → ∀ t, t < 2 → ((b / 2 + 128 * t) &&& 85) = ((b / 2) &&& 85) ∧ ((b / 2) &&& 85) ≤ b ∧ b / 2 + 128 * t < 256 := by decide +kernel
theorem k2_all : ∀ b, b < 256 → ∀ t, t < 4 → ((b / 4 + 64 * t) &&& 51) = ((b / 4) &&& 51) ∧ b / 4 + 64 * t < 256 := by decide +kernel
theorem k3_all : ∀ b, b < 256 → b % 16 ≤ 4 → b / 16 ≤ 4 → ∀ t, t < 5 → ((b + b / 16 + 16 * t) &&& 15) = g3 b ∧ b + b / 16 + 16 * t < 256 := by decide +kernel
def cst (m : Nat) (l : List Nat) : Nat := vl (l.map fun _ => m)
theorem st1 : ∀ l : List Nat, (∀ b ∈ l, b < 256) → ((vl l / 2) &&& cst 85 l) ≤ vl l ∧ vl l - ((vl l / 2) &&& cst 85 l) = vl (l.map g1) := by
  intro l
  induction l with
  | nil => intro _; exact ⟨Nat.zero_le _, rfl⟩
  | cons b l ih =>
    intro h
    obtain ⟨i1, i2⟩ := ih (fun c hc => h c (List.mem_cons_of_mem _ hc))
    have hb := h b List.mem_cons_self
    obtain ⟨k1, k2, k3⟩ := k1_all b hb (vl l % 2) (Nat.mod_lt _ (by decide))
    have e : (vl (b :: l) / 2) &&& cst 85 (b :: l) = ((b / 2) &&& 85) + 256 * ((vl l / 2) &&& cst 85 l) := by
      rw [← k1, ← and256 _ _ _ _ k3 (by decide)]
      congr 1
      rw [vl]; omega
    rw [e, List.map_cons, vl, vl, ← i2]
    unfold g1
    omega
theorem st2 : ∀ l : List Nat, (∀ b ∈ l, b < 256) → (vl l &&& cst 51 l) + ((vl l / 4) &&& cst 51 l) = vl (l.map g2) := by
  intro l
  induction l with
  | nil => intro _; rfl
  | cons b l ih =>
    intro h
    have i2 := ih (fun c hc => h c (List.mem_cons_of_mem _ hc))
    have hb := h b List.mem_cons_self
    obtain ⟨k1, k3⟩ := k2_all b hb (vl l % 4) (Nat.mod_lt _ (by decide))
    have e : (vl (b :: l) / 4) &&& cst 51 (b :: l) = ((b / 4) &&& 51) + 256 * ((vl l / 4) &&& cst 51 l) := by
      rw [← k1, ← and256 _ _ _ _ k3 (by decide)]
      congr 1
      rw [vl]; omega
    have e2 : vl (b :: l) &&& cst 51 (b :: l) = (b &&& 51) + 256 * (vl l &&& cst 51 l) := by
      rw [← and256 _ _ _ _ hb (by decide)]
      rfl
    rw [e, e2, List.map_cons, vl, ← i2]
    unfold g2
    omega
theorem vl_hd : ∀ l : List Nat, (∀ b ∈ l, b < 256 ∧ b % 16 ≤ 4) → vl l % 16 ≤ 4 := by
  intro l h
  cases l with
  | nil => decide
  | cons b l => have := h b List.mem_cons_self; rw [vl]; omega
theorem st3 : ∀ l : List Nat, (∀ b ∈ l, b < 256 ∧ b % 16 ≤ 4 ∧ b / 16 ≤ 4) → ((vl l + vl l / 16) &&& cst 15 l) = vl (l.map g3) := by
  intro l
  induction l with
  | nil => intro _; rfl
  | cons b l ih =>
    intro h
    have i2 := ih (fun c hc => h c (List.mem_cons_of_mem _ hc))
    obtain ⟨hb, hb2, hb3⟩ := h b List.mem_cons_self
    have hv := vl_hd l (fun c hc => by have := h c (List.mem_cons_of_mem _ hc); exact ⟨this.1, this.2.1⟩)
    obtain ⟨k1, k3⟩ := k3_all b hb hb2 hb3 (vl l % 16) (by omega)
    have e : (vl (b :: l) + vl (b :: l) / 16) &&& cst 15 (b :: l) = g3 b + 256 * ((vl l + vl l / 16) &&& cst 15 l) := by
      rw [← k1, ← and256 _ _ _ _ k3 (by decide)]
      congr 1
      rw [vl]; omega
    rw [e, i2]
    rfl
def pop8 (b : Nat) : Nat := b % 2 + b / 2 % 2 + b / 4 % 2 + b / 8 % 2 + b / 16 % 2 + b / 32 % 2 + b / 64 % 2 + b / 128 % 2
theorem pop_all : ∀ b, b < 256 → g1 b < 256 ∧ g2 (g1 b) < 256 ∧ g2 (g1 b) % 16 ≤ 4 ∧ g2 (g1 b) / 16 ≤ 4 ∧ g3 (g2 (g1 b)) = pop8 b ∧ pop8 b ≤ 8 := by decide +kernel
theorem tb_if (N k : Nat) : (if N.testBit k = true then 1 else 0) = N / 2 ^ k % 2 := by
  rw [Nat.testBit_eq_decide_div_mod_eq]
  have := Nat.mod_lt (N / 2 ^ k) (show 0 < 2 by decide)
  by_cases h : N / 2 ^ k % 2 = 1
  · simp [h]
  · simp [h]; omega
theorem cto_8 (N j : Nat) : cto (N.testBit) (8 * j + 8) = cto (N.testBit) (8 * j) + pop8 (N / 256 ^ j % 256) := by
  rw [show 8 * j + 8 = 8 * j + 1 + 1 + 1 + 1 + 1 + 1 + 1 + 1 by omega, cto, cto, cto, cto, cto, cto, cto, cto]
  simp only [tb_if]
  have hp : 2 ^ (8 * j) = 256 ^ j := by rw [Nat.pow_mul]
  have e : ∀ i, N / 2 ^ (8 * j + i) = N / 256 ^ j / 2 ^ i := fun i => by rw [Nat.pow_add, hp, Nat.div_div_eq_div_mul]
  rw [show 8 * j + 1 + 1 + 1 + 1 + 1 + 1 + 1 = 8 * j + 7 by omega, show 8 * j + 1 + 1 + 1 + 1 + 1 + 1 = 8 * j + 6 by omega, show 8 * j + 1 + 1 + 1 + 1 + 1 = 8 * j + 5 by omega, show 8 * j + 1 + 1 + 1 + 1 = 8 * j + 4 by omega, show 8 * j + 1 + 1 + 1 = 8 * j + 3 by omega, show 8 * j + 1 + 1 = 8 * j + 2 by omega, e 7, e 6, e 5, e 4, e 3, e 2, e 1, hp]
  generalize N / 256 ^ j = M
  unfold pop8
  rw [show (2 : Nat) ^ 1 = 2 from rfl, show (2 : Nat) ^ 2 = 4 from rfl, show (2 : Nat) ^ 3 = 8 from rfl, show (2 : Nat) ^ 4 = 16 from rfl, show (2 : Nat) ^ 5 = 32 from rfl, show (2 : Nat) ^ 6 = 64 from rfl, show (2 : Nat) ^ 7 = 128 from rfl]
  have h0 : M % 256 % 2 = M % 2 := by omega
  have h1 : M % 256 / 2 % 2 = M / 2 % 2 := by omega
  have h2 : M % 256 / 4 % 2 = M / 4 % 2 := by omega
  have h3 : M % 256 / 8 % 2 = M / 8 % 2 := by omega
  have h4 : M % 256 / 16 % 2 = M / 16 % 2 := by omega
  have h5 : M % 256 / 32 % 2 = M / 32 % 2 := by omega
  have h6 : M % 256 / 64 % 2 = M / 64 % 2 := by omega
  have h7 : M % 256 / 128 % 2 = M / 128 % 2 := by omega
  rw [h0, h1, h2, h3, h4, h5, h6, h7]
  omega
theorem zand_127 (X : Nat) (h : X < 9223372036854775808) : zand (iw (X : Int)) 127 = ((X % 128 : Nat) : Int) := by
  rw [zand_def, vI_iw]
  have e1 : (vI (X : Int)).toBitVec.toNat = X % 4294967296 := by
    unfold vI
    have h2 : (Int32.ofInt (X : Int)).toBitVec = BitVec.ofInt 32 (X : Int) := rfl
    rw [h2, BitVec.toNat_ofInt]
    omega
  have e2 : (vI (127 : Int)).toBitVec.toNat = 127 := by decide
  have e3 : (vI (X : Int) &&& vI 127).toBitVec.toNat = X % 128 := by
    rw [Int32.toBitVec_and, BitVec.toNat_and, e1, e2, show (127 : Nat) = 2 ^ 7 - 1 from rfl, Nat.and_two_pow_sub_one_eq_mod]
    omega
  rw [toI_nat _ (by rw [e3]; omega), e3]
