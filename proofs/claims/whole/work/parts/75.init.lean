/-! how it all begins: the class -/
theorem zr_zS (n : Nat) : zr zS n = zS := by
  unfold zr zS
  simp
theorem si_zS (r k : Nat) : si zS r k 0 = zS := by
  unfold si zS
  simp
theorem zr_si (σ : SS) (n r k : Nat) (v : Int) (h : n ≠ r) : zr (si σ r k v) n = si (zr σ n) r k v := by
  unfold zr si
  congr 1
  funext x y
  dsimp only
  by_cases h1 : x = n
  · rw [if_pos h1, if_neg (by omega), if_pos h1]
  · rw [if_neg h1]
    by_cases h2 : x = r ∧ y = k
    · rw [if_pos h2, if_pos h2]
    · rw [if_neg h2, if_neg h2, if_neg h1]
theorem EqP_zr {P : Nat → Nat → Prop} {σ : SS} (h : EqP P zS σ) (n : Nat) : EqP P zS (zr σ n) := by
  intro r k hp
  obtain ⟨h1, h2⟩ := h r k hp
  rw [gi_zr, gj_zr]
  constructor
  · split
    · rfl
    · exact h1
  · split
    · rfl
    · exact h2
abbrev PIc : Nat → Nat → Prop := fun r k => PBA r k ∨ r = 42 ∧ k = 3 ∨ r = 54 ∧ k = 3 ∨ r = 62 ∧ k = 3
