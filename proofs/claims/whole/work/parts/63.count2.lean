/-! bytes summed up -/
theorem dvn (n a D : Nat) (h : a < n) : (a + n * D) / n = D := by
  have h0 : 0 < n := Nat.lt_of_le_of_lt (Nat.zero_le _) h
  rw [Nat.add_mul_div_left _ _ h0, Nat.div_eq_of_lt h, Nat.zero_add]
theorem mon (n a D : Nat) (h : a < n) : (a + n * D) % n = a := by
  rw [Nat.add_mul_mod_self_left, Nat.mod_eq_of_lt h]
theorem fn1e (c0 c1 c2 D3 : Nat) : c0 + 256 * (c1 + 256 * (c2 + 256 * D3)) + (c1 + 256 * (c2 + 256 * D3)) = (c0 + c1 + 256 * (c1 + c2)) + 65536 * ((c2 + 256 * D3) + D3) := by omega
theorem fn1b (c0 c1 c2 : Nat) (b0 : c0 ≤ 8) (b1 : c1 ≤ 8) (b2 : c2 ≤ 8) : c0 + c1 + 256 * (c1 + c2) < 65536 := by omega
theorem fn1 (c0 c1 c2 D2 D3 : Nat) (h2 : D2 = c2 + 256 * D3) (b0 : c0 ≤ 8) (b1 : c1 ≤ 8) (b2 : c2 ≤ 8) : (c0 + 256 * (c1 + 256 * D2) + (c1 + 256 * D2)) / 65536 = D2 + D3 := by
  rw [h2, fn1e]
  exact dvn 65536 _ _ (fn1b c0 c1 c2 b0 b1 b2)
theorem fn8e (c0 c1 c2 c3 c4 c5 c6 D7 : Nat) : (c0 + 256 * (c1 + 256 * (c2 + 256 * (c3 + 256 * (c4 + 256 * (c5 + 256 * (c6 + 256 * D7))))))) + (c1 + 256 * (c2 + 256 * (c3 + 256 * (c4 + 256 * (c5 + 256 * (c6 + 256 * D7)))))) + ((c2 + 256 * (c3 + 256 * (c4 + 256 * (c5 + 256 * (c6 + 256 * D7))))) + (c3 + 256 * (c4 + 256 * (c5 + 256 * (c6 + 256 * D7))))) = (c0 + c1 + c2 + c3 + 256 * (c1 + c2 + c3 + c4) + 65536 * (c2 + c3 + c4 + c5) + 16777216 * (c3 + c4 + c5 + c6)) + 4294967296 * ((c4 + 256 * (c5 + 256 * (c6 + 256 * D7))) + (c5 + 256 * (c6 + 256 * D7)) + (c6 + 256 * D7) + D7) := by
  simp only [Nat.mul_add, ← Nat.mul_assoc, Nat.reduceMul]
  omega
theorem fn8b (c0 c1 c2 c3 c4 c5 c6 : Nat) (b0 : c0 ≤ 8) (b1 : c1 ≤ 8) (b2 : c2 ≤ 8) (b3 : c3 ≤ 8) (b4 : c4 ≤ 8) (b5 : c5 ≤ 8) (b6 : c6 ≤ 8) : c0 + c1 + c2 + c3 + 256 * (c1 + c2 + c3 + c4) + 65536 * (c2 + c3 + c4 + c5) + 16777216 * (c3 + c4 + c5 + c6) < 4294967296 := by omega
theorem fn8g (c0 c1 c2 c3 c4 c5 c6 c7 D1 D2 D3 D4 D5 D6 X3 : Nat) (h3 : X3 = c0 + 256 * D1) (h1 : D1 = c1 + 256 * D2) (h2 : D2 = c2 + 256 * D3) (e3 : D3 = c3 + 256 * D4) (e4 : D4 = c4 + 256 * D5) (e5 : D5 = c5 + 256 * D6) (e6 : D6 = c6 + 256 * c7) : X3 + D1 + (D2 + D3) + (D4 + D5 + D6 + c7) = (c0 + c1 + c2 + c3 + c4 + c5 + c6 + c7) + 128 * (2 * (D1 + D2 + D3 + D4 + D5 + D6 + c7)) := by omega
theorem fn8s (c0 c1 c2 c3 c4 c5 c6 c7 : Nat) (b0 : c0 ≤ 8) (b1 : c1 ≤ 8) (b2 : c2 ≤ 8) (b3 : c3 ≤ 8) (b4 : c4 ≤ 8) (b5 : c5 ≤ 8) (b6 : c6 ≤ 8) (b7 : c7 ≤ 8) : c0 + c1 + c2 + c3 + c4 + c5 + c6 + c7 < 128 := by omega
theorem b8lt {c n : Nat} (h : c ≤ 8) (hn : 8 < n) : c < n := Nat.lt_of_le_of_lt h hn
theorem fn8 (c0 c1 c2 c3 c4 c5 c6 c7 D1 D2 D3 D4 D5 D6 X3 : Nat) (b0 : c0 ≤ 8) (b1 : c1 ≤ 8) (b2 : c2 ≤ 8) (b3 : c3 ≤ 8) (b4 : c4 ≤ 8) (b5 : c5 ≤ 8) (b6 : c6 ≤ 8) (b7 : c7 ≤ 8) (h3 : X3 = c0 + 256 * D1) (h1 : D1 = c1 + 256 * D2) (h2 : D2 = c2 + 256 * D3) (e3 : D3 = c3 + 256 * D4) (e4 : D4 = c4 + 256 * D5) (e5 : D5 = c5 + 256 * D6) (e6 : D6 = c6 + 256 * c7) : (X3 + X3 / 256 + (X3 + X3 / 256) / 65536 + (X3 + X3 / 256 + (X3 + X3 / 256) / 65536) / 4294967296) % 128 = c0 + c1 + c2 + c3 + c4 + c5 + c6 + c7 := by
  have q1 : X3 / 256 = D1 := by rw [h3]; exact dvn 256 _ _ (b8lt b0 (by decide))
  have q2 : (X3 + D1) / 65536 = D2 + D3 := by rw [h3, h1]; exact fn1 c0 c1 c2 D2 D3 h2 b0 b1 b2
  rw [q1, q2]
  have q4 : (X3 + D1 + (D2 + D3)) / 4294967296 = D4 + D5 + D6 + c7 := by
    rw [h3, h1, h2, e3, e4, e5, e6, fn8e]
    exact dvn 4294967296 _ _ (fn8b c0 c1 c2 c3 c4 c5 c6 b0 b1 b2 b3 b4 b5 b6)
  rw [q4, fn8g c0 c1 c2 c3 c4 c5 c6 c7 D1 D2 D3 D4 D5 D6 X3 h3 h1 h2 e3 e4 e5 e6]
  exact mon 128 _ _ (fn8s c0 c1 c2 c3 c4 c5 c6 c7 b0 b1 b2 b3 b4 b5 b6 b7)
theorem vl_s1 {w b m Z : Nat} (i : w + m ≤ Z) (hb : b ≤ m) : b * 255 + 256 * w + m ≤ Z * 256 := by omega
theorem vl_st {v b m Z : Nat} (i : v * 255 + m ≤ Z) (hb : b ≤ m) : (b + 256 * v) * 255 + m ≤ Z * 256 := by
  rw [Nat.add_mul, Nat.mul_assoc]
  exact vl_s1 i hb
theorem vl_le (m : Nat) : ∀ l : List Nat, (∀ b ∈ l, b ≤ m) → vl l * 255 + m ≤ m * 256 ^ l.length := by
  intro l
  induction l with
  | nil => intro _; simp [vl]
  | cons b l ih =>
    intro h
    have i := ih (fun c hc => h c (List.mem_cons_of_mem _ hc))
    have hb := h b List.mem_cons_self
    rw [vl, List.length_cons, Nat.pow_succ, ← Nat.mul_assoc]
    exact vl_st i hb
theorem vl_68 {v : Nat} (h : v * 255 + 68 ≤ 68 * 256 ^ 8) : v < 5000000000000000000 := by
  rw [show (68 : Nat) * 256 ^ 8 = 1254378597012249509888 from by decide] at h
  omega
theorem vl_8 {v : Nat} (h : v * 255 + 8 ≤ 8 * 256 ^ 8) : v < 1000000000000000000 := by
  rw [show (8 : Nat) * 256 ^ 8 = 147573952589676412928 from by decide] at h
  omega
theorem d68 {b : Nat} (h1 : b % 16 ≤ 4) (h2 : b / 16 ≤ 4) : b ≤ 68 := by omega
