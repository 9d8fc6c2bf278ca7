/-! how many bits: the code -/
theorem x_bc2 (N X1 X2 X3 R : Nat) (hN : N < 2 ^ 60) (s11 : (N / 2 &&& 6148914691236517205) ≤ N) (s12 : N - (N / 2 &&& 6148914691236517205) = X1) (s2 : (X1 &&& 3689348814741910323) + (X1 / 4 &&& 3689348814741910323) = X2) (s3 : (X2 + X2 / 16) &&& 1085102592571150095 = X3) (r2 : X2 < 5000000000000000000) (r3 : X3 < 1000000000000000000) (hR : (X3 + X3 / 256 + (X3 + X3 / 256) / 65536 + (X3 + X3 / 256 + (X3 + X3 / 256) / 65536) / 4294967296) % 128 = R) (σ : SS) : f_Lo_bitCount_95d88 (N : Int) σ = some ((R : Int), σ) := by
  have r1 : X1 ≤ N := by omega
  have n1 : ((N : Int)) - ((N / 2 &&& 6148914691236517205 : Nat) : Int) = (X1 : Int) := by omega
  have n2 : ((X1 &&& 3689348814741910323 : Nat) : Int) + ((X1 / 4 &&& 3689348814741910323 : Nat) : Int) = (X2 : Int) := by omega
  have d3 : X2 / 16 ≤ X2 := Nat.div_le_self _ _
  have n3 : (X2 : Int) + ((X2 / 16 : Nat) : Int) = ((X2 + X2 / 16 : Nat) : Int) := by omega
  have lt1 : X1 / 4 < 9223372036854775808 := by omega
  have lt2 : X2 + X2 / 16 < 9223372036854775808 := by omega
  unfold f_Lo_bitCount_95d88
  rw [yu1 N (by omega), yma _ (by omega), n1, jwc (x := (X1 : Int)) (by omega) (by omega), ol_eq, yu2 X1 (by omega), ymb X1 (by omega), ymb _ lt1, n2, jwc (x := (X2 : Int)) (by omega) (by omega), ol_eq, yu4 X2 (by omega), n3, jwc (x := ((X2 + X2 / 16 : Nat) : Int)) (by omega) (by omega), ymc _ lt2, s3, ol_eq]
  clear n1 n2 n3 s11 s12 s2 s3 lt1 lt2 d3 r1 r2
  have d4 : X3 / 256 ≤ X3 := Nat.div_le_self _ _
  have n4 : (X3 : Int) + ((X3 / 256 : Nat) : Int) = ((X3 + X3 / 256 : Nat) : Int) := by omega
  rw [yu8 X3 (by omega), n4, jwc (x := ((X3 + X3 / 256 : Nat) : Int)) (by omega) (by omega), ol_eq]
  have r4 : X3 + X3 / 256 < 2000000000000000000 := by omega
  generalize X3 + X3 / 256 = X4 at hR r4 ⊢
  clear n4 d4 r3
  have d5 : X4 / 65536 ≤ X4 := Nat.div_le_self _ _
  have n5 : (X4 : Int) + ((X4 / 65536 : Nat) : Int) = ((X4 + X4 / 65536 : Nat) : Int) := by omega
  rw [yu16 X4 (by omega), n5, jwc (x := ((X4 + X4 / 65536 : Nat) : Int)) (by omega) (by omega), ol_eq]
  have r5 : X4 + X4 / 65536 < 4000000000000000000 := by omega
  generalize X4 + X4 / 65536 = X5 at hR r5 ⊢
  clear n5 d5 r4
  have d6 : X5 / 4294967296 ≤ X5 := Nat.div_le_self _ _
  have n6 : (X5 : Int) + ((X5 / 4294967296 : Nat) : Int) = ((X5 + X5 / 4294967296 : Nat) : Int) := by omega
  rw [yu32 X5 (by omega), n6, jwc (x := ((X5 + X5 / 4294967296 : Nat) : Int)) (by omega) (by omega), ol_eq, zand_127 _ (by omega), hR]
