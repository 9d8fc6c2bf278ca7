/-! the whole, from the pairs -/
theorem init_as (x : OO) (z : SS → SS) (m : SS → OO) (g : SS → OO) : (ob x fun _ s2 => os (z s2) fun s3 => ob (m s3) fun _ s4 => g s4) = ob (ob x fun _ s2 => os (z s2) fun s3 => m s3) fun _ s4 => g s4 := by
  cases x with
  | none => rfl
  | some p => rfl
theorem pure_of (xs : Nat → Int32) (L F : Nat) (hL : L ≤ 3584) (hF : 4000 < F) : ∃ τ : SS, (ob (f_Qu_init_0 (zr zS 0)) fun _ s2 => os (zr s2 86) fun s3 => ob (f_Mo_init_86 s3) fun _ s4 => l_Law_18 xs L F 0 s4) = some (1, τ) := by
  obtain ⟨r, τ, e, hI⟩ := x_init
  obtain ⟨r', τ', e', h'⟩ := lw_loop xs L hL y_land y_home y_temper F 0 τ (by omega) (by omega) (by omega) hI
  refine ⟨τ', (init_as (f_Qu_init_0 (zr zS 0)) (fun s => zr s 86) f_Mo_init_86 (l_Law_18 xs L F 0)).trans ?_⟩
  have e3 := congrArg (fun y => ob y fun _ s4 => l_Law_18 xs L F 0 s4) e
  rw [ob_eq, e', h'] at e3
  exact e3
theorem fu_big : 4000 < FU := by unfold FU; omega
theorem pure_all (xs : Nat → Int32) (L : Nat) (hL : L ≤ 3584) : ∃ τ : SS, f_whole xs L = some (1, τ) := by
  obtain ⟨τ, h⟩ := pure_of xs L FU hL fu_big
  refine ⟨τ, ?_⟩
  unfold f_whole
  rw [os_eq]
  exact h
