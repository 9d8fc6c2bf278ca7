/-! how it all begins: Inv -/
theorem x_init : Wp (ob (f_Qu_init_0 (zr zS 0)) fun _ s2 => os (zr s2 86) fun s3 => f_Mo_init_86 s3) fun _ τ => Inv τ := by
  refine wp_call x_initC ?_
  rintro _ σ ⟨hz, c42, c542, c543, c2, c4, c10, c11, c47, c50, c48⟩
  refine wp_os (wp_mono (x_initM hz) ?_)
  rintro _ τ ⟨hE, hLM, n5, n2, n4, n54, n80, m0, m, m13, m56, m57, m60, m61, m62, m79, m137, n87⟩
  have hcv : ∀ j, cv τ j = cv σ j := fun j => by
    unfold cv
    rw [hE.i 47 _ (by omega), hE.i 46 2 (by omega), hE.i 53 _ (by omega), hE.i 46 _ (by omega), hE.i 51 _ (by omega)]
  refine ⟨zS, 0, ld0, fun r k h1 h2 h3 => ?_, hLM, ?_, ?_, ?_, ?_, ?_⟩
  · rw [hE.i r k (by omega)]; exact hz.i r k (by omega)
  · refine EA_anew ld0 (old := 0) (by omega) ?_ (fun j hj => ?_) ?_ ?_ ?_ ?_ (fun x hx => ?_) (fun j hj => ?_) m0 m m13 m56 m57 m137
    · rw [hE.i _ _ (by omega)]; exact hz.i _ _ (by omega)
    · rw [hE.i _ _ (by omega), c47 j hj]; split <;> rfl
    · rw [hE.i _ _ (by omega)]; exact c2
    · rw [hE.i _ _ (by omega)]; exact c4
    · rw [hE.i _ _ (by omega)]; exact c10
    · rw [hE.i _ _ (by omega)]; exact c11
    · rw [hE.i _ _ (by omega)]; exact c50 x hx
    · rw [hcv, show 41 * 0 + j = j by omega, hE.i _ _ (by omega)]; exact c48 j hj
  · exact Or.inl ⟨by rw [hE.i _ _ (by omega)]; exact c542, by rw [hE.i _ _ (by omega)]; exact c543, m60, m61⟩
  · exact ⟨0, by omega, by rw [hE.i _ _ (by omega)]; exact hz.i _ _ (by omega), m62, fun i hi => absurd hi (by omega)⟩
  · have e2 : gi τ 79 2 = 0 := by rw [hE.i _ _ (by omega)]; exact hz.i _ _ (by omega)
    exact ⟨0, by omega, by rw [hE.i _ _ (by omega)]; exact hz.i _ _ (by omega), m79, by rw [e2, n80], by omega, by omega, fun i hi => absurd hi (by omega)⟩
  · have e1 : gi τ 0 1 = 0 := by rw [hE.i _ _ (by omega)]; exact hz.i _ _ (by omega)
    have e4 : gi τ 42 2 = 0 := by rw [hE.i _ _ (by omega)]; exact hz.i _ _ (by omega)
    have e5 : gi τ 42 3 = -1 := by rw [hE.i _ _ (by omega)]; exact c42
    refine ⟨by rw [e1, n2], by omega, by omega, fun i hi => ?_, by rw [e4, n4], by rw [e5, n5], n54⟩
    have e7 : gi τ 1 i = 0 := by rw [hE.i _ _ (by omega)]; exact hz.i _ _ (by omega)
    rw [e7, n87 i]
    omega
