/-! begun anew, both sides -/
theorem tp_rng {ld : SS} (hok : LdOK ld) (j : Nat) (hj : (j : Int) < 2 * gi ld 2 9) : 0 ≤ gi ld 11 j ∧ gi ld 11 j ≤ 9 := by
  obtain ⟨h0, h1⟩ := hok.2.2.2.2.2.2.2.1 (j / 2) (by omega)
  by_cases h : j % 2 = 0
  · have e : 2 * (j / 2) = j := by omega
    rw [e] at h0
    exact h0
  · have e : 2 * (j / 2) + 1 = j := by omega
    rw [e] at h1
    exact h1
theorem SR_anew {ld : SS} (hok : LdOK ld) {V M : Nat → Int} (v : ∀ j, j < 12 → V j = if (j : Int) < 2 * gi ld 2 9 then gi ld 11 j else 0) (v12 : V 12 = gi ld 2 17) (v13 : V 13 = 0) (m0 : M 0 = gi ld 2 17) (m : ∀ j : Nat, j < 12 → M (1 + j) = if (j : Int) < 2 * gi ld 2 9 then gi ld 11 j else 0) (m13 : M 13 = -1) : SR ld V M := by
  have h17 := hok.2.2.2.2.1
  refine ⟨⟨fun j hj => ?_, by rw [v12, m0], by rw [v12]; omega, by rw [v12]; omega⟩, Or.inl ⟨v13, m13⟩⟩
  rw [v j hj, m j hj]
  by_cases h : (j : Int) < 2 * gi ld 2 9
  · rw [if_pos h]
    exact ⟨rfl, tp_rng hok j h⟩
  · rw [if_neg h]
    exact ⟨rfl, by omega, by omega⟩
theorem EA_anew {ld τ : SS} (hok : LdOK ld) {old : Nat} (ho : old ≤ 40) (c9 : gi τ 46 9 = old) (v : ∀ j, j < 12 → gi τ 47 j = if (j : Int) < 2 * gi ld 2 9 then gi ld 11 j else 0) (v12 : gi τ 46 2 = gi ld 2 17) (v13 : gi τ 46 4 = 0) (c10 : gi τ 46 10 = 0) (c11 : gi τ 46 11 = 0) (c50 : ∀ x, x < 3 → gi τ 50 x = 0) (c48 : ∀ j, j < 41 → gi τ 48 (41 * old + j) = cv τ j) (m0 : gi τ 118 0 = gi ld 2 17) (m : ∀ j : Nat, j < 12 → gi τ 118 (1 + j) = if (j : Int) < 2 * gi ld 2 9 then gi ld 11 j else 0) (m13 : gi τ 118 13 = -1) (m56 : gi τ 86 56 = 0) (m57 : gi τ 86 57 = 0) (m137 : ∀ x, x < 3 → gi τ 137 x = 0) : EA ld τ := by
  have cvs : ∀ j, j < 12 → cv τ j = if (j : Int) < 2 * gi ld 2 9 then gi ld 11 j else 0 := fun j hj => by
    rw [← v j hj]
    unfold cv
    rw [if_pos hj]
  have cv12 : cv τ 12 = gi ld 2 17 := by
    rw [← v12]
    rfl
  have cv13 : cv τ 13 = 0 := by
    rw [← v13]
    rfl
  refine ⟨SR_anew hok cvs cv12 cv13 m0 m m13, ⟨old, 0, 0, ho, by omega, c9, c10, c11, m56, m57, fun i hi => ?_⟩, fun x hx => ⟨by rw [c50 x hx, m137 x hx], Or.inl (c50 x hx)⟩⟩
  obtain rfl : i = 0 := by omega
  have e : 41 * ((old + 0) % 41) = 41 * old := by omega
  have em : ∀ j, mvr τ 0 0 j = gi τ 118 j := fun j => by
    unfold mvr
    rw [if_neg (by omega), if_pos rfl]
  refine SR_anew hok (fun j hj => ?_) ?_ ?_ (by rw [em]; exact m0) (fun j hj => by rw [em]; exact m j hj) (by rw [em]; exact m13)
  · show gi τ 48 (41 * ((old + 0) % 41) + j) = _
    rw [e, c48 j (by omega)]
    exact cvs j hj
  · show gi τ 48 (41 * ((old + 0) % 41) + 12) = _
    rw [e, c48 12 (by omega)]
    exact cv12
  · show gi τ 48 (41 * ((old + 0) % 41) + 13) = _
    rw [e, c48 13 (by omega)]
    exact cv13
