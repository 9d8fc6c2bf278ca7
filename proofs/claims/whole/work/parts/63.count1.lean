/-! shifts and masks -/
theorem yu1 (A : Nat) (h : A < 9223372036854775808) : yushr (A : Int) 1 = ((A / 2 : Nat) : Int) := by
  have e : (1 : Int) = ((1 : Nat) : Int) := by decide
  have p : (2 : Nat) ^ 1 = 2 := by decide
  rw [e, yushr_nat A 1 h (by decide), p]
theorem yu2 (A : Nat) (h : A < 9223372036854775808) : yushr (A : Int) 2 = ((A / 4 : Nat) : Int) := by
  have e : (2 : Int) = ((2 : Nat) : Int) := by decide
  have p : (2 : Nat) ^ 2 = 4 := by decide
  rw [e, yushr_nat A 2 h (by decide), p]
theorem yu4 (A : Nat) (h : A < 9223372036854775808) : yushr (A : Int) 4 = ((A / 16 : Nat) : Int) := by
  have e : (4 : Int) = ((4 : Nat) : Int) := by decide
  have p : (2 : Nat) ^ 4 = 16 := by decide
  rw [e, yushr_nat A 4 h (by decide), p]
theorem yu8 (A : Nat) (h : A < 9223372036854775808) : yushr (A : Int) 8 = ((A / 256 : Nat) : Int) := by
  have e : (8 : Int) = ((8 : Nat) : Int) := by decide
  have p : (2 : Nat) ^ 8 = 256 := by decide
  rw [e, yushr_nat A 8 h (by decide), p]
theorem yu16 (A : Nat) (h : A < 9223372036854775808) : yushr (A : Int) 16 = ((A / 65536 : Nat) : Int) := by
  have e : (16 : Int) = ((16 : Nat) : Int) := by decide
  have p : (2 : Nat) ^ 16 = 65536 := by decide
  rw [e, yushr_nat A 16 h (by decide), p]
theorem yu32 (A : Nat) (h : A < 9223372036854775808) : yushr (A : Int) 32 = ((A / 4294967296 : Nat) : Int) := by
  have e : (32 : Int) = ((32 : Nat) : Int) := by decide
  have p : (2 : Nat) ^ 32 = 4294967296 := by decide
  rw [e, yushr_nat A 32 h (by decide), p]
theorem yma (A : Nat) (h : A < 9223372036854775808) : yand (A : Int) 6148914691236517205 = ((A &&& 6148914691236517205 : Nat) : Int) := by
  have e : (6148914691236517205 : Int) = ((6148914691236517205 : Nat) : Int) := by decide
  rw [e, yand_nat A 6148914691236517205 h (by decide)]
theorem ymb (A : Nat) (h : A < 9223372036854775808) : yand (A : Int) 3689348814741910323 = ((A &&& 3689348814741910323 : Nat) : Int) := by
  have e : (3689348814741910323 : Int) = ((3689348814741910323 : Nat) : Int) := by decide
  rw [e, yand_nat A 3689348814741910323 h (by decide)]
theorem ymc (A : Nat) (h : A < 9223372036854775808) : yand (A : Int) 1085102592571150095 = ((A &&& 1085102592571150095 : Nat) : Int) := by
  have e : (1085102592571150095 : Int) = ((1085102592571150095 : Nat) : Int) := by decide
  rw [e, yand_nat A 1085102592571150095 h (by decide)]
