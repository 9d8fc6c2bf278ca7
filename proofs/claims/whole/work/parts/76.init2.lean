/-! how it all begins: the class's constructors -/
abbrev PId : Nat → Nat → Prop := fun r k => PBA r k ∨ r = 42 ∧ k = 3 ∨ (r = 54 ∨ r = 62) ∧ (k = 2 ∨ k = 3)
theorem z42 (r k : Nat) (h : r ≠ 42) : gi (si zS 42 3 (-1)) r k = 0 := by rw [gi_ne_r _ _ _ _ (by omega)]; rfl
theorem EqP_zr2 {P : Nat → Nat → Prop} {σ τ : SS} (h : EqP P σ τ) (n : Nat) (hn : ∀ k, P n k) : EqP P σ (zr τ n) := by
  intro r k hp
  have hr : r ≠ n := fun e => hp (e ▸ hn k)
  rw [gi_zr, gj_zr, if_neg hr, if_neg hr]
  exact h r k hp
theorem gi_zr_ne (σ : SS) (n r k : Nat) (h : r ≠ n) : gi (zr σ n) r k = gi σ r k := by rw [gi_zr, if_neg h]
theorem x_initC : Wp (f_Qu_init_0 (zr zS 0)) fun _ τ => EqP PId zS τ ∧ gi τ 42 3 = -1 ∧ gi τ 54 2 = 0 ∧ gi τ 54 3 = -1 ∧ gi τ 46 2 = 0 ∧ gi τ 46 4 = 0 ∧ gi τ 46 10 = 0 ∧ gi τ 46 11 = 0 ∧ (∀ j, j < 12 → gi τ 47 j = 0) ∧ (∀ x, x < 3 → gi τ 50 x = 0) ∧ (∀ j, j < 41 → gi τ 48 j = cv τ j) := by
  unfold f_Qu_init_0 f_La_init_2 f_La_init_22 f_Fo_init_16 f_Fo_init_19 f_Fo_init_36 f_Fo_init_39 f_To_init_43 f_Re_init_42 f_FR_init_44 f_Ea_init_46 f_Ta_init_51 f_Ro_init_54 f_St_init_57 f_Ta_init_58 f_Fi_init_61 f_Ro_init_62 f_St_init_75 f_Ta_init_76 f_Rp_init_79 f_Ta_init_83
  simp (disch := decide) only [os_eq, ob_eq, zr_zS, si_zS, zr_si]
  refine wp_ob (wp_call (x_beginAnewC (si zS 42 3 (-1)) (by rw [z42 2 9 (by decide)]; omega) (old := 0) (by omega) (z42 46 9 (by decide))) ?_)
  rintro _ s ⟨v, v12, v4, v10, v11, v50, v48, hE⟩
  rw [z42 2 17 (by decide)] at v12
  have v' : ∀ j, j < 12 → gi s 47 j = 0 := fun j hj => by
    rw [v j hj, z42 2 9 (by decide), z42 11 j (by decide)]
    split <;> rfl
  have w42 : gi s 42 3 = -1 := by rw [hE.i _ _ (by omega)]; exact gi_same _ _ _ _
  have hE0 : EqP PId zS s := EqP.tr (EqP.si (EqP.rf _ _) _ _ _ (by omega)) (hE.mo (fun r k h => Or.inl h))
  refine wp_some (wp_some ?_)
  suffices hh : ∀ τ, EqP (fun r _ => 54 ≤ r ∧ r ≤ 85) s τ → EqP PId zS τ → gi τ 54 2 = 0 → gi τ 54 3 = -1 → (EqP PId zS τ ∧ gi τ 42 3 = -1 ∧ gi τ 54 2 = 0 ∧ gi τ 54 3 = -1 ∧ gi τ 46 2 = 0 ∧ gi τ 46 4 = 0 ∧ gi τ 46 10 = 0 ∧ gi τ 46 11 = 0 ∧ (∀ j, j < 12 → gi τ 47 j = 0) ∧ (∀ x, x < 3 → gi τ 50 x = 0) ∧ (∀ j, j < 41 → gi τ 48 j = cv τ j)) by
    refine hh _ ?_ ?_ ?_ ?_
    · repeat (first | exact EqP.rf _ _ | refine EqP_zr2 ?_ _ (fun k => by omega) | refine EqP.si ?_ _ _ _ (by omega))
    · repeat (first | exact hE0 | refine EqP_zr ?_ _ | refine EqP.si ?_ _ _ _ (by omega))
    · simp (disch := decide) only [gi_zr_ne, gi_same, gi_ne_r, gi_ne_k]
    · simp (disch := decide) only [gi_zr_ne, gi_same, gi_ne_r, gi_ne_k]
  intro τ hG hE1 h2 h3
  refine ⟨hE1, ?_, h2, h3, ?_, ?_, ?_, ?_, fun j hj => ?_, fun x hx => ?_, fun j hj => ?_⟩
  · rw [hG.i _ _ (by omega)]; exact w42
  · rw [hG.i _ _ (by omega)]; exact v12
  · rw [hG.i _ _ (by omega)]; exact v4
  · rw [hG.i _ _ (by omega)]; exact v10
  · rw [hG.i _ _ (by omega)]; exact v11
  · rw [hG.i _ _ (by omega)]; exact v' j hj
  · rw [hG.i _ _ (by omega)]; exact v50 x hx
  · have hcv : cv τ j = cv s j := by
      unfold cv
      rw [hG.i 47 _ (by omega), hG.i 46 2 (by omega), hG.i 53 _ (by omega), hG.i 46 _ (by omega), hG.i 51 _ (by omega)]
    have h := v48 j hj
    rw [show 41 * 0 + j = j by omega] at h
    rw [hG.i _ _ (by omega), hcv]
    exact h
