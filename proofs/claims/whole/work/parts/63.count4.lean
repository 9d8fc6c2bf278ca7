/-! how many bits: all together -/
theorem x_bitCount (N : Nat) (hN : N < 2 ^ 60) (σ : SS) : f_Lo_bitCount_95d88 (N : Int) σ = some (((cto (N.testBit) 60 : Nat) : Int), σ) := by
  -- its bytes
  have hl : ∃ b0 b1 b2 b3 b4 b5 b6 b7 : Nat, N = vl [b0, b1, b2, b3, b4, b5, b6, b7] ∧ b0 = N / 256 ^ 0 % 256 ∧ b1 = N / 256 ^ 1 % 256 ∧ b2 = N / 256 ^ 2 % 256 ∧ b3 = N / 256 ^ 3 % 256 ∧ b4 = N / 256 ^ 4 % 256 ∧ b5 = N / 256 ^ 5 % 256 ∧ b6 = N / 256 ^ 6 % 256 ∧ b7 = N / 256 ^ 7 % 256 := by
    refine ⟨_, _, _, _, _, _, _, _, ?_, rfl, rfl, rfl, rfl, rfl, rfl, rfl, rfl⟩
    simp only [vl]
    omega
  obtain ⟨b0, b1, b2, b3, b4, b5, b6, b7, hv, e0, e1, e2, e3, e4, e5, e6, e7⟩ := hl
  have q0 : b0 < 256 := by rw [e0]; exact Nat.mod_lt _ (by decide)
  have q1 : b1 < 256 := by rw [e1]; exact Nat.mod_lt _ (by decide)
  have q2 : b2 < 256 := by rw [e2]; exact Nat.mod_lt _ (by decide)
  have q3 : b3 < 256 := by rw [e3]; exact Nat.mod_lt _ (by decide)
  have q4 : b4 < 256 := by rw [e4]; exact Nat.mod_lt _ (by decide)
  have q5 : b5 < 256 := by rw [e5]; exact Nat.mod_lt _ (by decide)
  have q6 : b6 < 256 := by rw [e6]; exact Nat.mod_lt _ (by decide)
  have q7 : b7 < 256 := by rw [e7]; exact Nat.mod_lt _ (by decide)
  have hct : cto (N.testBit) 60 = pop8 b0 + pop8 b1 + pop8 b2 + pop8 b3 + pop8 b4 + pop8 b5 + pop8 b6 + pop8 b7 := by
    have c0 : cto (N.testBit) 8 = cto (N.testBit) 0 + pop8 (N / 256 ^ 0 % 256) := cto_8 N 0
    have c1 : cto (N.testBit) 16 = cto (N.testBit) 8 + pop8 (N / 256 ^ 1 % 256) := cto_8 N 1
    have c2 : cto (N.testBit) 24 = cto (N.testBit) 16 + pop8 (N / 256 ^ 2 % 256) := cto_8 N 2
    have c3 : cto (N.testBit) 32 = cto (N.testBit) 24 + pop8 (N / 256 ^ 3 % 256) := cto_8 N 3
    have c4 : cto (N.testBit) 40 = cto (N.testBit) 32 + pop8 (N / 256 ^ 4 % 256) := cto_8 N 4
    have c5 : cto (N.testBit) 48 = cto (N.testBit) 40 + pop8 (N / 256 ^ 5 % 256) := cto_8 N 5
    have c6 : cto (N.testBit) 56 = cto (N.testBit) 48 + pop8 (N / 256 ^ 6 % 256) := cto_8 N 6
    have c7 : cto (N.testBit) 64 = cto (N.testBit) 56 + pop8 (N / 256 ^ 7 % 256) := cto_8 N 7
    rw [← e0] at c0
    rw [← e1] at c1
    rw [← e2] at c2
    rw [← e3] at c3
    rw [← e4] at c4
    rw [← e5] at c5
    rw [← e6] at c6
    rw [← e7] at c7
    have z : cto (N.testBit) 0 = 0 := rfl
    have t : ∀ k, 60 ≤ k → N.testBit k = false := fun k hk => Nat.testBit_lt_two_pow (Nat.lt_of_lt_of_le hN (Nat.pow_le_pow_right (by decide) hk))
    have c64 : cto (N.testBit) 64 = cto (N.testBit) 60 := by
      show cto (N.testBit) (60 + 1 + 1 + 1 + 1) = _
      rw [cto, cto, cto, cto, t 60 (by omega), t (60 + 1) (by omega), t (60 + 1 + 1) (by omega), t (60 + 1 + 1 + 1) (by omega)]
      rfl
    omega
  obtain ⟨a01, a02, a03, a04, a05, a06⟩ := pop_all b0 q0
  obtain ⟨a11, a12, a13, a14, a15, a16⟩ := pop_all b1 q1
  obtain ⟨a21, a22, a23, a24, a25, a26⟩ := pop_all b2 q2
  obtain ⟨a31, a32, a33, a34, a35, a36⟩ := pop_all b3 q3
  obtain ⟨a41, a42, a43, a44, a45, a46⟩ := pop_all b4 q4
  obtain ⟨a51, a52, a53, a54, a55, a56⟩ := pop_all b5 q5
  obtain ⟨a61, a62, a63, a64, a65, a66⟩ := pop_all b6 q6
  obtain ⟨a71, a72, a73, a74, a75, a76⟩ := pop_all b7 q7
  obtain ⟨s11, s12⟩ := st1 [b0, b1, b2, b3, b4, b5, b6, b7] (by intro b hb; simp at hb; omega)
  have s2 := st2 [g1 b0, g1 b1, g1 b2, g1 b3, g1 b4, g1 b5, g1 b6, g1 b7] (by intro b hb; simp at hb; omega)
  have s3 := st3 [g2 (g1 b0), g2 (g1 b1), g2 (g1 b2), g2 (g1 b3), g2 (g1 b4), g2 (g1 b5), g2 (g1 b6), g2 (g1 b7)] (by
    intro b hb
    simp only [List.mem_cons, List.not_mem_nil, or_false] at hb
    rcases hb with rfl | rfl | rfl | rfl | rfl | rfl | rfl | rfl
    · exact ⟨a02, a03, a04⟩
    · exact ⟨a12, a13, a14⟩
    · exact ⟨a22, a23, a24⟩
    · exact ⟨a32, a33, a34⟩
    · exact ⟨a42, a43, a44⟩
    · exact ⟨a52, a53, a54⟩
    · exact ⟨a62, a63, a64⟩
    · exact ⟨a72, a73, a74⟩)
  have m1 : cst 85 [b0, b1, b2, b3, b4, b5, b6, b7] = 6148914691236517205 := by simp [cst, vl]
  have m2 : cst 51 [g1 b0, g1 b1, g1 b2, g1 b3, g1 b4, g1 b5, g1 b6, g1 b7] = 3689348814741910323 := by simp [cst, vl]
  have m3 : cst 15 [g2 (g1 b0), g2 (g1 b1), g2 (g1 b2), g2 (g1 b3), g2 (g1 b4), g2 (g1 b5), g2 (g1 b6), g2 (g1 b7)] = 1085102592571150095 := by simp [cst, vl]
  simp only [List.map_cons, List.map_nil] at s12 s2 s3
  rw [m1, ← hv] at s11 s12
  rw [m2] at s2
  rw [m3, a05, a15, a25, a35, a45, a55, a65, a75] at s3
  have r3 : vl [pop8 b0, pop8 b1, pop8 b2, pop8 b3, pop8 b4, pop8 b5, pop8 b6, pop8 b7] < 1000000000000000000 := by
    have := vl_le 8 [pop8 b0, pop8 b1, pop8 b2, pop8 b3, pop8 b4, pop8 b5, pop8 b6, pop8 b7] (by
      intro b hb
      simp only [List.mem_cons, List.not_mem_nil, or_false] at hb
      rcases hb with rfl | rfl | rfl | rfl | rfl | rfl | rfl | rfl
      · exact a06
      · exact a16
      · exact a26
      · exact a36
      · exact a46
      · exact a56
      · exact a66
      · exact a76)
    exact vl_8 this
  have r2 : vl [g2 (g1 b0), g2 (g1 b1), g2 (g1 b2), g2 (g1 b3), g2 (g1 b4), g2 (g1 b5), g2 (g1 b6), g2 (g1 b7)] < 5000000000000000000 := by
    have := vl_le 68 [g2 (g1 b0), g2 (g1 b1), g2 (g1 b2), g2 (g1 b3), g2 (g1 b4), g2 (g1 b5), g2 (g1 b6), g2 (g1 b7)] (by
      intro b hb
      simp only [List.mem_cons, List.not_mem_nil, or_false] at hb
      rcases hb with rfl | rfl | rfl | rfl | rfl | rfl | rfl | rfl
      · exact d68 a03 a04
      · exact d68 a13 a14
      · exact d68 a23 a24
      · exact d68 a33 a34
      · exact d68 a43 a44
      · exact d68 a53 a54
      · exact d68 a63 a64
      · exact d68 a73 a74)
    exact vl_68 this
  rw [hct]
  exact x_bc2 N _ _ _ _ hN s11 s12 s2 s3 r2 r3 (fn8 _ _ _ _ _ _ _ _ _ _ _ _ _ _ _ a06 a16 a26 a36 a46 a56 a66 a76 rfl rfl rfl rfl rfl rfl rfl) σ
