/-! how it all begins: the reference's making -/
theorem EqP_z {P : Nat → Nat → Prop} {σ : SS} (h : EqP P zS σ) (r k : Nat) : EqP P zS (si σ r k 0) := by
  intro x y hp
  obtain ⟨h1, h2⟩ := h x y hp
  refine ⟨?_, h2⟩
  rw [gi_si]
  split
  · rfl
  · exact h1
abbrev PIe : Nat → Nat → Prop := fun r k => PId r k ∨ r = 86 ∧ (k = 5 ∨ k = 60)
theorem x_clearBank0 {σ : SS} (h : EqP PIe zS σ) : Wp (f_Mo_clearBank σ) fun _ τ => EqP PIe zS τ ∧ EqP (fun r k => 89 ≤ r ∧ r ≤ 109 ∨ r = 86 ∧ k = 42) σ τ := by
  have e0 : ∀ s, EqP PIe zS s → gi s 86 41 = 0 := fun s hs => hs.i 86 41 (by omega)
  unfold f_Mo_clearBank
  have one : ∀ (s : SS) (r k : Nat), EqP PIe zS s → EqP (fun r k => 89 ≤ r ∧ r ≤ 109 ∨ r = 86 ∧ k = 42) σ s → 89 ≤ r ∧ r ≤ 109 → EqP PIe zS (si s r k 0) ∧ EqP (fun r k => 89 ≤ r ∧ r ≤ 109 ∨ r = 86 ∧ k = 42) σ (si s r k 0) := fun s r k h1 h2 h3 => ⟨EqP_z h1 r k, EqP.si h2 _ _ _ (by omega)⟩
  have i0 : iw (2 * (0 : Int)) = 0 := iwc (by omega) (by omega)
  have i1 : iw ((0 : Int) + 1) = 1 := iwc (by omega) (by omega)
  have i2 : iw (560 * (0 : Int)) = 0 := iwc (by omega) (by omega)
  have stp : ∀ (s : SS) (k : SS → OO) (r j : Nat) (Q : Int → SS → Prop), EqP PIe zS s ∧ EqP (fun r k => 89 ≤ r ∧ r ≤ 109 ∨ r = 86 ∧ k = 42) σ s → 89 ≤ r ∧ r ≤ 109 → (∀ t, EqP PIe zS t ∧ EqP (fun r k => 89 ≤ r ∧ r ≤ 109 ∨ r = 86 ∧ k = 42) σ t → Wp (k t) Q) → Wp (os (si s r j 0) k) Q := fun s k r j Q h1 h2 hk => wp_os (hk _ (one s r j h1.1 h1.2 h2))
  have h0 : EqP PIe zS σ ∧ EqP (fun r k => 89 ≤ r ∧ r ≤ 109 ∨ r = 86 ∧ k = 42) σ σ := ⟨h, EqP.rf _ _⟩
  rw [e0 _ h0.1]
  refine wp_oc (by omega) (stp _ _ _ _ _ h0 (by omega) (fun t1 h1 => ?_))
  rw [e0 _ h1.1]
  refine wp_oc (by omega) (stp _ _ _ _ _ h1 (by omega) (fun t2 h2 => ?_))
  rw [e0 _ h2.1]
  refine wp_oc (by omega) (stp _ _ _ _ _ h2 (by omega) (fun t3 h3 => ?_))
  rw [e0 _ h3.1]
  refine wp_oc (by omega) (stp _ _ _ _ _ h3 (by omega) (fun t4 h4 => ?_))
  rw [e0 _ h4.1]
  refine wp_oc (by omega) (stp _ _ _ _ _ h4 (by omega) (fun t5 h5 => ?_))
  rw [e0 _ h5.1]
  refine wp_oc (by omega) (stp _ _ _ _ _ h5 (by omega) (fun t6 h6 => ?_))
  rw [e0 _ h6.1]
  refine wp_oc (by omega) (stp _ _ _ _ _ h6 (by omega) (fun t7 h7 => ?_))
  rw [e0 _ h7.1, i0]
  refine wp_oc (by omega) (stp _ _ _ _ _ h7 (by omega) (fun t8 h8 => ?_))
  rw [e0 _ h8.1, i0, i1]
  refine wp_oc (by omega) (stp _ _ _ _ _ h8 (by omega) (fun t9 h9 => ?_))
  rw [e0 _ h9.1, i2]
  exact wp_os (wp_some ⟨EqP_z h9.1 86 42, EqP.si h9.2 _ _ _ (by omega)⟩)
