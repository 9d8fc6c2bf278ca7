/-! the empty land -/
theorem ld0 : LdOK zS := by
  have z : ∀ r k, gi zS r k = 0 := fun _ _ => rfl
  unfold LdOK
  simp only [z]
  refine ⟨by omega, by omega, by omega, by omega, by omega, fun p h => absurd h (by omega), fun p h => absurd h (by omega), fun p h => absurd h (by omega), fun p h => absurd h (by omega), Or.inl rfl, Or.inl rfl⟩
theorem LM0 {s : SS} (h : EqP PIe zS s) : LM zS s 0 := by
  have z : ∀ r k, gi zS r k = 0 := fun _ _ => rfl
  have i0 : iw ((0 : Int) + 0) = 0 := iwc (by omega) (by omega)
  unfold LM RM
  simp only [z, i0]
  refine ⟨by omega, h.i _ _ (by omega), ⟨h.i _ _ (by omega), h.i _ _ (by omega), h.i _ _ (by omega), h.i _ _ (by omega), h.i _ _ (by omega), h.i _ _ (by omega)⟩, fun p hp => absurd hp (by omega), fun p hp => absurd hp (by omega), fun p hp => absurd hp (by omega), fun p hp => absurd hp (by omega), ⟨?_, fun hn => absurd rfl hn⟩, ⟨?_, fun hn => absurd rfl hn⟩⟩
  · rw [if_pos trivial]; exact h.i _ _ (by omega)
  · rw [if_pos trivial]; exact h.i _ _ (by omega)
