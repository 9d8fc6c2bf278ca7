/-! how it all begins: both -/
theorem x_initM {σ : SS} (h : EqP PId zS σ) : Wp (f_Mo_init_86 (zr σ 86)) fun _ τ => EqP (fun r _ => 86 ≤ r) σ τ ∧ LM zS τ 0 ∧ gi τ 86 5 = -1 ∧ gi τ 86 2 = 0 ∧ gi τ 86 4 = 0 ∧ gi τ 86 54 = 0 ∧ gi τ 86 80 = 0 ∧ gi τ 118 0 = 0 ∧ (∀ j : Nat, j < 12 → gi τ 118 (1 + j) = if (j : Int) < 2 * gi zS 2 9 then gi zS 11 j else 0) ∧ gi τ 118 13 = -1 ∧ gi τ 86 56 = 0 ∧ gi τ 86 57 = 0 ∧ gi τ 86 60 = -1 ∧ gi τ 86 61 = 0 ∧ gi τ 86 62 = 0 ∧ gi τ 86 79 = 0 ∧ (∀ x, x < 3 → gi τ 137 x = 0) ∧ (∀ i, gi τ 87 i = 0) := by
  unfold f_Mo_init_86
  simp (disch := decide) only [os_eq]
  suffices hh : ∀ s, EqP (fun r _ => 86 ≤ r) σ s → EqP PIe zS s → gi s 86 5 = -1 → Wp (ob (f_Mo_clearBank s) fun _ s54 => ob (f_Mo_startAnew s54) fun _ s55 => some (0, s55)) fun _ τ => EqP (fun r _ => 86 ≤ r) σ τ ∧ LM zS τ 0 ∧ gi τ 86 5 = -1 ∧ gi τ 86 2 = 0 ∧ gi τ 86 4 = 0 ∧ gi τ 86 54 = 0 ∧ gi τ 86 80 = 0 ∧ gi τ 118 0 = 0 ∧ (∀ j : Nat, j < 12 → gi τ 118 (1 + j) = if (j : Int) < 2 * gi zS 2 9 then gi zS 11 j else 0) ∧ gi τ 118 13 = -1 ∧ gi τ 86 56 = 0 ∧ gi τ 86 57 = 0 ∧ gi τ 86 60 = -1 ∧ gi τ 86 61 = 0 ∧ gi τ 86 62 = 0 ∧ gi τ 86 79 = 0 ∧ (∀ x, x < 3 → gi τ 137 x = 0) ∧ (∀ i, gi τ 87 i = 0) by
    refine hh _ ?_ ?_ ?_
    · repeat (first | exact EqP.rf _ _ | refine EqP_zr2 ?_ _ (fun k => by omega) | refine EqP.si ?_ _ _ _ (by omega))
    · repeat (first | exact h.mo (fun r k z => Or.inl z) | refine EqP_zr ?_ _ | refine EqP.si ?_ _ _ _ (by omega))
    · simp (disch := decide) only [gi_zr_ne, gi_same, gi_ne_r, gi_ne_k]
  intro s hE hz h5
  refine wp_call (x_clearBank0 hz) ?_
  rintro _ s54 ⟨hz2, hE2⟩
  refine wp_call (x_startAnewM ld0 (LM0 hz2)) ?_
  rintro _ τ ⟨m0, m, m13, m56, m57, m60, m61, m62, m79, m137, hE3⟩
  refine wp_some ⟨(hE.tr (hE2.mo (fun r k h => by omega))).tr (hE3.mo (fun r k h => by omega)), (LM0 hz2).of hE3 (fun r k z => by omega), ?_, ?_, ?_, ?_, ?_, m0, m, m13, m56, m57, m60, m61, m62, m79, m137, fun i => ?_⟩
  · rw [hE3.i _ _ (by omega), hE2.i _ _ (by omega)]; exact h5
  · rw [hE3.i _ _ (by omega)]; exact hz2.i _ _ (by omega)
  · rw [hE3.i _ _ (by omega)]; exact hz2.i _ _ (by omega)
  · rw [hE3.i _ _ (by omega)]; exact hz2.i _ _ (by omega)
  · rw [hE3.i _ _ (by omega)]; exact hz2.i _ _ (by omega)
  · rw [hE3.i _ _ (by omega)]; exact hz2.i _ _ (by omega)
