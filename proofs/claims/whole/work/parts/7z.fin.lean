/-! the whole, from the wanting pair -/
theorem pure_of (hm_home : ∀ a b c d e f, MP (f_Qu_home a b c d e f) (f_Mo_home a b c d e f)) (xs : Nat → Int32) (L : Nat) (hL : L ≤ 3584) : ∃ τ : SS, f_whole xs L = some (1, τ) := by
  unfold f_whole
  obtain ⟨F, hF, hF2⟩ : ∃ F : Nat, F = FU ∧ 4000 < F := ⟨FU, rfl, by unfold FU; omega⟩
  rw [← hF]
  clear hF
  obtain ⟨r, τ, e, hI⟩ := x_init
  have e2 : (ob (f_Qu_init_0 (zr zS 0)) fun _ s2 => os (zr s2 86) fun s3 => ob (f_Mo_init_86 s3) fun _ s4 => l_Law_18 xs L F 0 s4) = ob (ob (f_Qu_init_0 (zr zS 0)) fun _ s2 => os (zr s2 86) fun s3 => f_Mo_init_86 s3) fun _ s4 => l_Law_18 xs L F 0 s4 := (ob_as _ _ _).symm
  rw [os_eq, e2, e, ob_eq]
  obtain ⟨r', τ', e', h'⟩ := lw_loop xs L hL y_land hm_home y_temper F 0 τ (by omega) (by omega) (by omega) hI
  rw [e', h']
  exact ⟨τ', rfl⟩
