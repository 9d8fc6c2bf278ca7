/-! how many bits -/
def vl : List Nat → Nat
  | [] => 0
  | b :: l => b + 256 * vl l
theorem and256 (x X y Y : Nat) (hx : x < 256) (hy : y < 256) : (x + 256 * X) &&& (y + 256 * Y) = (x &&& y) + 256 * (X &&& Y) := by
  have h1 := Nat.and_mod_two_pow (a := x + 256 * X) (b := y + 256 * Y) (n := 8)
  have h2 := Nat.and_div_two_pow (a := x + 256 * X) (b := y + 256 * Y) (n := 8)
  rw [show 2 ^ 8 = 256 from rfl] at h1 h2
  rw [show (x + 256 * X) % 256 = x by omega, show (y + 256 * Y) % 256 = y by omega] at h1
  rw [show (x + 256 * X) / 256 = X by omega, show (y + 256 * Y) / 256 = Y by omega] at h2
  rw [← h1, ← h2]
  omega
def g1 (b : Nat) : Nat := b - ((b / 2) &&& 85)
def g2 (b : Nat) : Nat := (b &&& 51) + ((b / 4) &&& 51)
def g3 (b : Nat) : Nat := b % 16 + b / 16
theorem k1_all : ∀ b, b < 256 → ∀ t, t < 2 → ((b / 2 + 128 * t) &&& 85) = ((b / 2) &&& 85) ∧ ((b / 2) &&& 85) ≤ b ∧ b / 2 + 128 * t < 256 := by decide +kernel
theorem k2_all : ∀ b, b < 256 → ∀ t, t < 4 → ((b / 4 + 64 * t) &&& 51) = ((b / 4) &&& 51) ∧ b / 4 + 64 * t < 256 := by decide +kernel
theorem k3_all : ∀ b, b < 256 → b % 16 ≤ 4 → b / 16 ≤ 4 → ∀ t, t < 5 → ((b + b / 16 + 16 * t) &&& 15) = g3 b ∧ b + b / 16 + 16 * t < 256 := by decide +kernel
def cst (m : Nat) (l : List Nat) : Nat := vl (l.map fun _ => m)
theorem st1 : ∀ l : List Nat, (∀ b ∈ l, b < 256) → ((vl l / 2) &&& cst 85 l) ≤ vl l ∧ vl l - ((vl l / 2) &&& cst 85 l) = vl (l.map g1) := by
  intro l
  induction l with
  | nil => intro _; exact ⟨Nat.zero_le _, rfl⟩
  | cons b l ih =>
    intro h
    obtain ⟨i1, i2⟩ := ih (fun c hc => h c (List.mem_cons_of_mem _ hc))
    have hb := h b List.mem_cons_self
    obtain ⟨k1, k2, k3⟩ := k1_all b hb (vl l % 2) (Nat.mod_lt _ (by decide))
    have e : (vl (b :: l) / 2) &&& cst 85 (b :: l) = ((b / 2) &&& 85) + 256 * ((vl l / 2) &&& cst 85 l) := by
      rw [← k1, ← and256 _ _ _ _ k3 (by decide)]
      congr 1
      rw [vl]; omega
    rw [e, List.map_cons, vl, vl, ← i2]
    unfold g1
    omega
theorem st2 : ∀ l : List Nat, (∀ b ∈ l, b < 256) → (vl l &&& cst 51 l) + ((vl l / 4) &&& cst 51 l) = vl (l.map g2) := by
  intro l
  induction l with
  | nil => intro _; rfl
  | cons b l ih =>
    intro h
    have i2 := ih (fun c hc => h c (List.mem_cons_of_mem _ hc))
    have hb := h b List.mem_cons_self
    obtain ⟨k1, k3⟩ := k2_all b hb (vl l % 4) (Nat.mod_lt _ (by decide))
    have e : (vl (b :: l) / 4) &&& cst 51 (b :: l) = ((b / 4) &&& 51) + 256 * ((vl l / 4) &&& cst 51 l) := by
      rw [← k1, ← and256 _ _ _ _ k3 (by decide)]
      congr 1
      rw [vl]; omega
    have e2 : vl (b :: l) &&& cst 51 (b :: l) = (b &&& 51) + 256 * (vl l &&& cst 51 l) := by
      rw [← and256 _ _ _ _ hb (by decide)]
      rfl
    rw [e, e2, List.map_cons, vl, ← i2]
    unfold g2
    omega
theorem vl_hd : ∀ l : List Nat, (∀ b ∈ l, b < 256 ∧ b % 16 ≤ 4) → vl l % 16 ≤ 4 := by
  intro l h
  cases l with
  | nil => decide
  | cons b l => have := h b List.mem_cons_self; rw [vl]; omega
theorem st3 : ∀ l : List Nat, (∀ b ∈ l, b < 256 ∧ b % 16 ≤ 4 ∧ b / 16 ≤ 4) → ((vl l + vl l / 16) &&& cst 15 l) = vl (l.map g3) := by
  intro l
  induction l with
  | nil => intro _; rfl
  | cons b l ih =>
    intro h
    have i2 := ih (fun c hc => h c (List.mem_cons_of_mem _ hc))
    obtain ⟨hb, hb2, hb3⟩ := h b List.mem_cons_self
    have hv := vl_hd l (fun c hc => by have := h c (List.mem_cons_of_mem _ hc); exact ⟨this.1, this.2.1⟩)
    obtain ⟨k1, k3⟩ := k3_all b hb hb2 hb3 (vl l % 16) (by omega)
    have e : (vl (b :: l) + vl (b :: l) / 16) &&& cst 15 (b :: l) = g3 b + 256 * ((vl l + vl l / 16) &&& cst 15 l) := by
      rw [← k1, ← and256 _ _ _ _ k3 (by decide)]
      congr 1
      rw [vl]; omega
    rw [e, i2]
    rfl
def pop8 (b : Nat) : Nat := b % 2 + b / 2 % 2 + b / 4 % 2 + b / 8 % 2 + b / 16 % 2 + b / 32 % 2 + b / 64 % 2 + b / 128 % 2
theorem pop_all : ∀ b, b < 256 → g1 b < 256 ∧ g2 (g1 b) < 256 ∧ g2 (g1 b) % 16 ≤ 4 ∧ g2 (g1 b) / 16 ≤ 4 ∧ g3 (g2 (g1 b)) = pop8 b ∧ pop8 b ≤ 8 := by decide +kernel
theorem tb_if (N k : Nat) : (if N.testBit k = true then 1 else 0) = N / 2 ^ k % 2 := by
  rw [Nat.testBit_eq_decide_div_mod_eq]
  have := Nat.mod_lt (N / 2 ^ k) (show 0 < 2 by decide)
  by_cases h : N / 2 ^ k % 2 = 1
  · simp [h]
  · simp [h]; omega
theorem cto_8 (N j : Nat) : cto (N.testBit) (8 * j + 8) = cto (N.testBit) (8 * j) + pop8 (N / 256 ^ j % 256) := by
  rw [show 8 * j + 8 = 8 * j + 1 + 1 + 1 + 1 + 1 + 1 + 1 + 1 by omega, cto, cto, cto, cto, cto, cto, cto, cto]
  simp only [tb_if]
  have hp : 2 ^ (8 * j) = 256 ^ j := by rw [Nat.pow_mul]
  have e : ∀ i, N / 2 ^ (8 * j + i) = N / 256 ^ j / 2 ^ i := fun i => by rw [Nat.pow_add, hp, Nat.div_div_eq_div_mul]
  rw [show 8 * j + 1 + 1 + 1 + 1 + 1 + 1 + 1 = 8 * j + 7 by omega, show 8 * j + 1 + 1 + 1 + 1 + 1 + 1 = 8 * j + 6 by omega, show 8 * j + 1 + 1 + 1 + 1 + 1 = 8 * j + 5 by omega, show 8 * j + 1 + 1 + 1 + 1 = 8 * j + 4 by omega, show 8 * j + 1 + 1 + 1 = 8 * j + 3 by omega, show 8 * j + 1 + 1 = 8 * j + 2 by omega, e 7, e 6, e 5, e 4, e 3, e 2, e 1, hp]
  generalize N / 256 ^ j = M
  unfold pop8
  rw [show (2 : Nat) ^ 1 = 2 from rfl, show (2 : Nat) ^ 2 = 4 from rfl, show (2 : Nat) ^ 3 = 8 from rfl, show (2 : Nat) ^ 4 = 16 from rfl, show (2 : Nat) ^ 5 = 32 from rfl, show (2 : Nat) ^ 6 = 64 from rfl, show (2 : Nat) ^ 7 = 128 from rfl]
  have h0 : M % 256 % 2 = M % 2 := by omega
  have h1 : M % 256 / 2 % 2 = M / 2 % 2 := by omega
  have h2 : M % 256 / 4 % 2 = M / 4 % 2 := by omega
  have h3 : M % 256 / 8 % 2 = M / 8 % 2 := by omega
  have h4 : M % 256 / 16 % 2 = M / 16 % 2 := by omega
  have h5 : M % 256 / 32 % 2 = M / 32 % 2 := by omega
  have h6 : M % 256 / 64 % 2 = M / 64 % 2 := by omega
  have h7 : M % 256 / 128 % 2 = M / 128 % 2 := by omega
  rw [h0, h1, h2, h3, h4, h5, h6, h7]
  omega
theorem zand_127 (X : Nat) (h : X < 9223372036854775808) : zand (iw (X : Int)) 127 = ((X % 128 : Nat) : Int) := by
  rw [zand_def, vI_iw]
  have e1 : (vI (X : Int)).toBitVec.toNat = X % 4294967296 := by
    unfold vI
    have h2 : (Int32.ofInt (X : Int)).toBitVec = BitVec.ofInt 32 (X : Int) := rfl
    rw [h2, BitVec.toNat_ofInt]
    omega
  have e2 : (vI (127 : Int)).toBitVec.toNat = 127 := by decide
  have e3 : (vI (X : Int) &&& vI 127).toBitVec.toNat = X % 128 := by
    rw [Int32.toBitVec_and, BitVec.toNat_and, e1, e2, show (127 : Nat) = 2 ^ 7 - 1 from rfl, Nat.and_two_pow_sub_one_eq_mod]
    omega
  rw [toI_nat _ (by rw [e3]; omega), e3]
theorem yu1 (A : Nat) (h : A < 9223372036854775808) : yushr (A : Int) 1 = ((A / 2 : Nat) : Int) := yushr_nat A 1 h (by decide)
theorem yu2 (A : Nat) (h : A < 9223372036854775808) : yushr (A : Int) 2 = ((A / 4 : Nat) : Int) := yushr_nat A 2 h (by decide)
theorem yu4 (A : Nat) (h : A < 9223372036854775808) : yushr (A : Int) 4 = ((A / 16 : Nat) : Int) := yushr_nat A 4 h (by decide)
theorem yu8 (A : Nat) (h : A < 9223372036854775808) : yushr (A : Int) 8 = ((A / 256 : Nat) : Int) := yushr_nat A 8 h (by decide)
theorem yu16 (A : Nat) (h : A < 9223372036854775808) : yushr (A : Int) 16 = ((A / 65536 : Nat) : Int) := yushr_nat A 16 h (by decide)
theorem yu32 (A : Nat) (h : A < 9223372036854775808) : yushr (A : Int) 32 = ((A / 4294967296 : Nat) : Int) := yushr_nat A 32 h (by decide)
theorem yma (A : Nat) (h : A < 9223372036854775808) : yand (A : Int) 6148914691236517205 = ((A &&& 6148914691236517205 : Nat) : Int) := yand_nat A 6148914691236517205 h (by omega)
theorem ymb (A : Nat) (h : A < 9223372036854775808) : yand (A : Int) 3689348814741910323 = ((A &&& 3689348814741910323 : Nat) : Int) := yand_nat A 3689348814741910323 h (by omega)
theorem ymc (A : Nat) (h : A < 9223372036854775808) : yand (A : Int) 1085102592571150095 = ((A &&& 1085102592571150095 : Nat) : Int) := yand_nat A 1085102592571150095 h (by omega)
theorem x_bitCount (N : Nat) (hN : N < 2 ^ 60) (σ : SS) : f_Lo_bitCount_95d88 (N : Int) σ = some (((cto (N.testBit) 60 : Nat) : Int), σ) := by
  -- its bytes
  have hl : ∃ b0 b1 b2 b3 b4 b5 b6 b7 : Nat, N = vl [b0, b1, b2, b3, b4, b5, b6, b7] ∧ b0 = N / 256 ^ 0 % 256 ∧ b1 = N / 256 ^ 1 % 256 ∧ b2 = N / 256 ^ 2 % 256 ∧ b3 = N / 256 ^ 3 % 256 ∧ b4 = N / 256 ^ 4 % 256 ∧ b5 = N / 256 ^ 5 % 256 ∧ b6 = N / 256 ^ 6 % 256 ∧ b7 = N / 256 ^ 7 % 256 := by
    refine ⟨_, _, _, _, _, _, _, _, ?_, rfl, rfl, rfl, rfl, rfl, rfl, rfl, rfl⟩
    simp only [vl]
    omega
  obtain ⟨b0, b1, b2, b3, b4, b5, b6, b7, hv, e0, e1, e2, e3, e4, e5, e6, e7⟩ := hl
  have q0 : b0 < 256 := by rw [e0]; exact Nat.mod_lt _ (by decide)
  have q1 : b1 < 256 := by rw [e1]; exact Nat.mod_lt _ (by decide)
  have q2 : b2 < 256 := by rw [e2]; exact Nat.mod_lt _ (by decide)
  have q3 : b3 < 256 := by rw [e3]; exact Nat.mod_lt _ (by decide)
  have q4 : b4 < 256 := by rw [e4]; exact Nat.mod_lt _ (by decide)
  have q5 : b5 < 256 := by rw [e5]; exact Nat.mod_lt _ (by decide)
  have q6 : b6 < 256 := by rw [e6]; exact Nat.mod_lt _ (by decide)
  have q7 : b7 < 256 := by rw [e7]; exact Nat.mod_lt _ (by decide)
  have hct : cto (N.testBit) 60 = pop8 b0 + pop8 b1 + pop8 b2 + pop8 b3 + pop8 b4 + pop8 b5 + pop8 b6 + pop8 b7 := by
    have c0 : cto (N.testBit) 8 = cto (N.testBit) 0 + pop8 (N / 256 ^ 0 % 256) := cto_8 N 0
    have c1 : cto (N.testBit) 16 = cto (N.testBit) 8 + pop8 (N / 256 ^ 1 % 256) := cto_8 N 1
    have c2 : cto (N.testBit) 24 = cto (N.testBit) 16 + pop8 (N / 256 ^ 2 % 256) := cto_8 N 2
    have c3 : cto (N.testBit) 32 = cto (N.testBit) 24 + pop8 (N / 256 ^ 3 % 256) := cto_8 N 3
    have c4 : cto (N.testBit) 40 = cto (N.testBit) 32 + pop8 (N / 256 ^ 4 % 256) := cto_8 N 4
    have c5 : cto (N.testBit) 48 = cto (N.testBit) 40 + pop8 (N / 256 ^ 5 % 256) := cto_8 N 5
    have c6 : cto (N.testBit) 56 = cto (N.testBit) 48 + pop8 (N / 256 ^ 6 % 256) := cto_8 N 6
    have c7 : cto (N.testBit) 64 = cto (N.testBit) 56 + pop8 (N / 256 ^ 7 % 256) := cto_8 N 7
    rw [← e0] at c0
    rw [← e1] at c1
    rw [← e2] at c2
    rw [← e3] at c3
    rw [← e4] at c4
    rw [← e5] at c5
    rw [← e6] at c6
    rw [← e7] at c7
    have z : cto (N.testBit) 0 = 0 := rfl
    have t : ∀ k, 60 ≤ k → N.testBit k = false := fun k hk => Nat.testBit_lt_two_pow (Nat.lt_of_lt_of_le hN (Nat.pow_le_pow_right (by decide) hk))
    have c64 : cto (N.testBit) 64 = cto (N.testBit) 60 := by
      show cto (N.testBit) (60 + 1 + 1 + 1 + 1) = _
      rw [cto, cto, cto, cto, t 60 (by omega), t (60 + 1) (by omega), t (60 + 1 + 1) (by omega), t (60 + 1 + 1 + 1) (by omega)]
      rfl
    omega
  obtain ⟨a01, a02, a03, a04, a05, a06⟩ := pop_all b0 q0
  obtain ⟨a11, a12, a13, a14, a15, a16⟩ := pop_all b1 q1
  obtain ⟨a21, a22, a23, a24, a25, a26⟩ := pop_all b2 q2
  obtain ⟨a31, a32, a33, a34, a35, a36⟩ := pop_all b3 q3
  obtain ⟨a41, a42, a43, a44, a45, a46⟩ := pop_all b4 q4
  obtain ⟨a51, a52, a53, a54, a55, a56⟩ := pop_all b5 q5
  obtain ⟨a61, a62, a63, a64, a65, a66⟩ := pop_all b6 q6
  obtain ⟨a71, a72, a73, a74, a75, a76⟩ := pop_all b7 q7
  obtain ⟨s11, s12⟩ := st1 [b0, b1, b2, b3, b4, b5, b6, b7] (by intro b hb; simp at hb; omega)
  have s2 := st2 [g1 b0, g1 b1, g1 b2, g1 b3, g1 b4, g1 b5, g1 b6, g1 b7] (by intro b hb; simp at hb; omega)
  have s3 := st3 [g2 (g1 b0), g2 (g1 b1), g2 (g1 b2), g2 (g1 b3), g2 (g1 b4), g2 (g1 b5), g2 (g1 b6), g2 (g1 b7)] (by
    intro b hb
    simp only [List.mem_cons, List.not_mem_nil, or_false] at hb
    rcases hb with rfl | rfl | rfl | rfl | rfl | rfl | rfl | rfl
    · exact ⟨a02, a03, a04⟩
    · exact ⟨a12, a13, a14⟩
    · exact ⟨a22, a23, a24⟩
    · exact ⟨a32, a33, a34⟩
    · exact ⟨a42, a43, a44⟩
    · exact ⟨a52, a53, a54⟩
    · exact ⟨a62, a63, a64⟩
    · exact ⟨a72, a73, a74⟩)
  have m1 : cst 85 [b0, b1, b2, b3, b4, b5, b6, b7] = 6148914691236517205 := by simp [cst, vl]
  have m2 : cst 51 [g1 b0, g1 b1, g1 b2, g1 b3, g1 b4, g1 b5, g1 b6, g1 b7] = 3689348814741910323 := by simp [cst, vl]
  have m3 : cst 15 [g2 (g1 b0), g2 (g1 b1), g2 (g1 b2), g2 (g1 b3), g2 (g1 b4), g2 (g1 b5), g2 (g1 b6), g2 (g1 b7)] = 1085102592571150095 := by simp [cst, vl]
  simp only [List.map_cons, List.map_nil] at s12 s2 s3
  rw [m1, ← hv] at s11 s12
  rw [m2] at s2
  rw [m3, a05, a15, a25, a35, a45, a55, a65, a75] at s3
  -- the numbers of each step
  have r1 : vl [g1 b0, g1 b1, g1 b2, g1 b3, g1 b4, g1 b5, g1 b6, g1 b7] ≤ N := by rw [← s12]; omega
  have r2 : vl [g2 (g1 b0), g2 (g1 b1), g2 (g1 b2), g2 (g1 b3), g2 (g1 b4), g2 (g1 b5), g2 (g1 b6), g2 (g1 b7)] < 5000000000000000000 := by simp only [vl]; omega
  unfold f_Lo_bitCount_95d88
  rw [yu1 N (by omega), yma _ (by omega), jwc (by omega) (by omega), ol_eq]
  rw [show (N : Int) - ((N / 2 &&& 6148914691236517205 : Nat) : Int) = ((vl [g1 b0, g1 b1, g1 b2, g1 b3, g1 b4, g1 b5, g1 b6, g1 b7] : Nat) : Int) by omega]
  generalize vl [g1 b0, g1 b1, g1 b2, g1 b3, g1 b4, g1 b5, g1 b6, g1 b7] = X1 at s2 r1 ⊢
  rw [yu2 X1 (by omega), ymb X1 (by omega), ymb _ (by omega)]
  rw [jwc (by omega) (by omega), ol_eq]
  rw [show ((X1 &&& 3689348814741910323 : Nat) : Int) + ((X1 / 4 &&& 3689348814741910323 : Nat) : Int) = ((vl [g2 (g1 b0), g2 (g1 b1), g2 (g1 b2), g2 (g1 b3), g2 (g1 b4), g2 (g1 b5), g2 (g1 b6), g2 (g1 b7)] : Nat) : Int) by omega]
  generalize vl [g2 (g1 b0), g2 (g1 b1), g2 (g1 b2), g2 (g1 b3), g2 (g1 b4), g2 (g1 b5), g2 (g1 b6), g2 (g1 b7)] = X2 at s3 r2 ⊢
  rw [yu4 X2 (by omega), jwc (x := (X2 : Int) + ((X2 / 16 : Nat) : Int)) (by omega) (by omega), show (X2 : Int) + ((X2 / 16 : Nat) : Int) = ((X2 + X2 / 16 : Nat) : Int) by omega, ymc _ (by omega), ol_eq, s3]
  simp only [vl]
  generalize pop8 b0 = c0 at a06 hct ⊢
  generalize pop8 b1 = c1 at a16 hct ⊢
  generalize pop8 b2 = c2 at a26 hct ⊢
  generalize pop8 b3 = c3 at a36 hct ⊢
  generalize pop8 b4 = c4 at a46 hct ⊢
  generalize pop8 b5 = c5 at a56 hct ⊢
  generalize pop8 b6 = c6 at a66 hct ⊢
  generalize pop8 b7 = c7 at a76 hct ⊢
  generalize hX3 : c0 + 256 * (c1 + 256 * (c2 + 256 * (c3 + 256 * (c4 + 256 * (c5 + 256 * (c6 + 256 * (c7 + 256 * 0))))))) = X3
  have hX3b : X3 < 1000000000000000000 := by omega
  rw [yu8 X3 (by omega), jwc (x := (X3 : Int) + ((X3 / 256 : Nat) : Int)) (by omega) (by omega), ol_eq, show (X3 : Int) + ((X3 / 256 : Nat) : Int) = ((X3 + X3 / 256 : Nat) : Int) by omega]
  have hd1 : X3 / 256 = c1 + 256 * (c2 + 256 * (c3 + 256 * (c4 + 256 * (c5 + 256 * (c6 + 256 * c7))))) := by omega
  generalize hX4 : X3 + X3 / 256 = X4
  have hX4b : X4 < 2000000000000000000 := by omega
  rw [yu16 X4 (by omega), jwc (x := (X4 : Int) + ((X4 / 65536 : Nat) : Int)) (by omega) (by omega), ol_eq, show (X4 : Int) + ((X4 / 65536 : Nat) : Int) = ((X4 + X4 / 65536 : Nat) : Int) by omega]
  have hd2 : X4 / 65536 = (c2 + c3) + 256 * ((c3 + c4) + 256 * ((c4 + c5) + 256 * ((c5 + c6) + 256 * ((c6 + c7) + 256 * c7)))) := by omega
  generalize hX5 : X4 + X4 / 65536 = X5
  have hX5b : X5 < 3000000000000000000 := by omega
  rw [yu32 X5 (by omega), jwc (x := (X5 : Int) + ((X5 / 4294967296 : Nat) : Int)) (by omega) (by omega), ol_eq, show (X5 : Int) + ((X5 / 4294967296 : Nat) : Int) = ((X5 + X5 / 4294967296 : Nat) : Int) by omega]
  have hd3 : X5 / 4294967296 % 128 = c4 + c5 + c6 + c7 := by omega
  have hd4 : X5 % 128 = c0 + c1 + c2 + c3 := by omega
  rw [zand_127 _ (by omega)]
  congr 2
  rw [hct]
  omega
