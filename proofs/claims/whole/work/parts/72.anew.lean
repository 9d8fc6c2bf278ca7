/-! begin anew: the class -/
abbrev PBA : Nat → Nat → Prop := fun r k => r = 46 ∧ (2 ≤ k ∧ k ≤ 7 ∨ k = 10 ∨ k = 11) ∨ r = 47 ∨ r = 48 ∨ r = 50
theorem x_forgetC {σ : SS} {old : Nat} (ho : old ≤ 40) (h9 : gi σ 46 9 = old) (h4 : gi σ 46 4 = 0) : Wp (f_Ea_forgetActs σ) fun _ τ => gi τ 46 10 = 0 ∧ gi τ 46 11 = 0 ∧ (∀ j, j < 41 → gi τ 48 (41 * old + j) = cv τ j) ∧ EqP (fun r k => r = 46 ∧ (k = 10 ∨ k = 11) ∨ r = 48) σ τ := by
  unfold f_Ea_forgetActs f_Ea_slot
  refine wp_os (wp_os ?_)
  have hE2 : EqP (fun r k => r = 46 ∧ (k = 10 ∨ k = 11) ∨ r = 48) σ (si (si σ 46 10 0) 46 11 0) := by repeat (first | exact EqP.rf _ _ | (refine EqP.si ?_ _ _ _ (by omega)) | (refine EqP.sj ?_ _ _ _ (by omega)) | (refine EqP.sr ?_ _ _ (fun k => by omega)))
  have g9 : gi (si (si σ 46 10 0) 46 11 0) 46 9 = old := by simp (disch := omega) only [gi_same, gi_ne_r, gi_ne_k, gi_sr_same, gi_sr_ne, gj_sj_same, gj_sj_ne_r, gj_sj_ne_k, gj_si, gi_sj, gj_sr, iwc, jwc, Int.toNat_natCast, tdn, tmn, b0, b1, yc0, yc1, h9]
  have g10 : gi (si (si σ 46 10 0) 46 11 0) 46 10 = 0 := by simp (disch := omega) only [gi_same, gi_ne_r, gi_ne_k, gi_sr_same, gi_sr_ne, gj_sj_same, gj_sj_ne_r, gj_sj_ne_k, gj_si, gi_sj, gj_sr, iwc, jwc, Int.toNat_natCast, tdn, tmn, b0, b1, yc0, yc1]
  have g11 : gi (si (si σ 46 10 0) 46 11 0) 46 11 = 0 := by simp (disch := omega) only [gi_same, gi_ne_r, gi_ne_k, gi_sr_same, gi_sr_ne, gj_sj_same, gj_sj_ne_r, gj_sj_ne_k, gj_si, gi_sj, gj_sr, iwc, jwc, Int.toNat_natCast, tdn, tmn, b0, b1, yc0, yc1]
  have g4 : gi (si (si σ 46 10 0) 46 11 0) 46 4 = 0 := by simp (disch := omega) only [gi_same, gi_ne_r, gi_ne_k, gi_sr_same, gi_sr_ne, gj_sj_same, gj_sj_ne_r, gj_sj_ne_k, gj_si, gi_sj, gj_sr, iwc, jwc, Int.toNat_natCast, tdn, tmn, b0, b1, yc0, yc1, h4]
  generalize si (si σ 46 10 0) 46 11 0 = s2 at hE2 g9 g10 g11 g4 ⊢
  have e : iw (Int.tmod (iw (gi s2 46 9 + gi s2 46 10)) 41 * 41) = ((41 * old : Nat) : Int) := by
    rw [g9, g10, iwc (x := (old : Int) + 0) (by omega) (by omega), tmn _ (by omega), iwc (by omega) (by omega)]
    omega
  refine wp_eq rfl ?_
  rw [e]
  refine wp_call (x_put 48 (Or.inl rfl) (41 * old) (by have hN : rN 48 = 1681 := rfl; omega) s2 (Or.inl g4)) ?_
  rintro _ τ ⟨hE, hr⟩
  have hcv : ∀ j, cv τ j = cv s2 j := by
    intro j
    unfold cv
    rw [hE.i 47 _ (by omega), hE.i 46 2 (by omega), hE.i 53 _ (by omega), hE.i 46 _ (by omega), hE.i 51 _ (by omega)]
  exact wp_some ⟨by rw [hE.i _ _ (by omega)]; exact g10, by rw [hE.i _ _ (by omega)]; exact g11, fun j hj => by rw [hr j hj, hcv], hE2.tr (hE.mo (fun r k h => by omega))⟩
theorem x_beginAnewC (σ : SS) (h6 : 0 ≤ gi σ 2 9 ∧ gi σ 2 9 ≤ 6) {old : Nat} (ho : old ≤ 40) (h9 : gi σ 46 9 = old) : Wp (f_Ea_beginAnew σ) fun _ τ => (∀ j, j < 12 → gi τ 47 j = if (j : Int) < 2 * gi σ 2 9 then gi σ 11 j else 0) ∧ gi τ 46 2 = gi σ 2 17 ∧ gi τ 46 4 = 0 ∧ gi τ 46 10 = 0 ∧ gi τ 46 11 = 0 ∧ (∀ x, x < 3 → gi τ 50 x = 0) ∧ (∀ j, j < 41 → gi τ 48 (41 * old + j) = cv τ j) ∧ EqP PBA σ τ := by
  unfold f_Ea_beginAnew
  refine loopN (β := Unit) 12 (fun fu c _ s => l_Ea_beginAnew_2 fu c s) (fun _ s => s) (fun c _ s => (∀ j, j < c → gi s 47 j = if (j : Int) < 2 * gi σ 2 9 then gi σ 11 j else 0) ∧ EqP (fun r _ => r = 47) σ s) _ ?_ 12 0 FU () σ (by omega) (by unfold FU; omega) ⟨fun j hj => by omega, EqP.rf _ _⟩ ?_
  · rintro fu c _ s hc ⟨hr, hE⟩ hk
    have hi : iw ((c : Int) + 1) = ((c + 1 : Nat) : Int) := by rw [iwc (by omega) (by omega)]; omega
    have e29 : gi s 2 9 = gi σ 2 9 := hE.i _ _ (by omega)
    show Wp (l_Ea_beginAnew_2 (fu + 1) (c : Int) s) _
    rw [l_Ea_beginAnew_2]
    refine wp_f (by omega) ?_
    unfold j_Ea_beginAnew_42
    rw [e29, iwc (x := 2 * gi σ 2 9) (by omega) (by omega), hi, Int.toNat_natCast]
    have st : ∀ z, z = (if (c : Int) < 2 * gi σ 2 9 then gi σ 11 c else 0) → Wp (l_Ea_beginAnew_2 fu ((c + 1 : Nat) : Int) (si s 47 c z)) _ := fun z hz => hk _ ⟨fun j hj => by
      by_cases hjc : j = c
      · rw [hjc, gi_same]; exact hz
      · rw [gi_ne_k _ _ _ _ (by omega)]; exact hr j (by omega), EqP.si hE _ _ _ rfl⟩
    by_cases h : 2 * gi σ 2 9 ≤ c
    · exact wp_t h (wp_oc (by omega) (wp_os (st 0 (by rw [if_neg (by omega)]))))
    · exact wp_f h (wp_oc (by omega) (wp_oc (by omega) (wp_os (st _ (by rw [if_pos (by omega)]; exact hE.i _ _ (by omega))))))
  · rintro fu s ⟨hr, hE⟩
    show Wp (l_Ea_beginAnew_2 (fu + 1) ((12 : Nat) : Int) s) _
    rw [l_Ea_beginAnew_2]
    refine wp_t (by omega) (wp_os (wp_os (wp_os (wp_os (wp_os ?_)))))
    have hE8 : EqP PBA σ (si (si (si (si (si s 46 2 (gi s 2 17)) 46 4 0) 46 5 (-1)) 46 6 (-1)) 46 7 0) := EqP.si (EqP.si (EqP.si (EqP.si (EqP.si (hE.mo (fun r k h => by omega)) _ _ _ (by omega)) _ _ _ (by omega)) _ _ _ (by omega)) _ _ _ (by omega)) _ _ _ (by omega)
    have r8 : ∀ j, j < 12 → gi (si (si (si (si (si s 46 2 (gi s 2 17)) 46 4 0) 46 5 (-1)) 46 6 (-1)) 46 7 0) 47 j = if (j : Int) < 2 * gi σ 2 9 then gi σ 11 j else 0 := fun j hj => by simp (disch := omega) only [gi_same, gi_ne_r, gi_ne_k, gi_sr_same, gi_sr_ne, gj_sj_same, gj_sj_ne_r, gj_sj_ne_k, gj_si, gi_sj, gj_sr, iwc, jwc, Int.toNat_natCast, tdn, tmn, b0, b1, yc0, yc1]; exact hr j hj
    have k2 : gi (si (si (si (si (si s 46 2 (gi s 2 17)) 46 4 0) 46 5 (-1)) 46 6 (-1)) 46 7 0) 46 2 = gi σ 2 17 := by simp (disch := omega) only [gi_same, gi_ne_r, gi_ne_k, gi_sr_same, gi_sr_ne, gj_sj_same, gj_sj_ne_r, gj_sj_ne_k, gj_si, gi_sj, gj_sr, iwc, jwc, Int.toNat_natCast, tdn, tmn, b0, b1, yc0, yc1]; exact hE.i _ _ (by omega)
    have k4 : gi (si (si (si (si (si s 46 2 (gi s 2 17)) 46 4 0) 46 5 (-1)) 46 6 (-1)) 46 7 0) 46 4 = 0 := by simp (disch := omega) only [gi_same, gi_ne_r, gi_ne_k, gi_sr_same, gi_sr_ne, gj_sj_same, gj_sj_ne_r, gj_sj_ne_k, gj_si, gi_sj, gj_sr, iwc, jwc, Int.toNat_natCast, tdn, tmn, b0, b1, yc0, yc1]
    generalize si (si (si (si (si s 46 2 (gi s 2 17)) 46 4 0) 46 5 (-1)) 46 6 (-1)) 46 7 0 = s8 at hE8 r8 k2 k4 ⊢
    obtain ⟨f, hf⟩ : ∃ f, FU = f + 1 + 1 + 1 + 1 := ⟨FU - 4, by unfold FU; omega⟩
    rw [hf, l_Ea_beginAnew_82]
    refine wp_f (by omega) (wp_oc (by omega) (wp_os ?_))
    rw [iwc (x := (0 : Int) + 1) (by omega) (by omega), l_Ea_beginAnew_82]
    refine wp_f (by omega) (wp_oc (by omega) (wp_os ?_))
    rw [iwc (x := (0 : Int) + 1 + 1) (by omega) (by omega), l_Ea_beginAnew_82]
    refine wp_f (by omega) (wp_oc (by omega) (wp_os ?_))
    rw [iwc (x := (0 : Int) + 1 + 1 + 1) (by omega) (by omega), l_Ea_beginAnew_82]
    refine wp_t (by omega) ?_
    have hE9 : EqP (fun r _ => r = 50) s8 (si (si (si s8 50 (0 : Int).toNat 0) 50 ((0 : Int) + 1).toNat 0) 50 ((0 : Int) + 1 + 1).toNat 0) := by repeat (first | exact EqP.rf _ _ | (refine EqP.si ?_ _ _ _ (by omega)) | (refine EqP.sj ?_ _ _ _ (by omega)) | (refine EqP.sr ?_ _ _ (fun k => by omega)))
    have z9 : ∀ x, x < 3 → gi (si (si (si s8 50 (0 : Int).toNat 0) 50 ((0 : Int) + 1).toNat 0) 50 ((0 : Int) + 1 + 1).toNat 0) 50 x = 0 := by
      intro x hx
      have h3 : x = 0 ∨ x = 1 ∨ x = 2 := by omega
      rcases h3 with rfl | rfl | rfl
      · rw [gi_ne_k _ _ _ _ (by decide), gi_ne_k _ _ _ _ (by decide)]; exact gi_same _ _ _ _
      · rw [gi_ne_k _ _ _ _ (by decide)]; exact gi_same _ _ _ _
      · exact gi_same _ _ _ _
    generalize si (si (si s8 50 (0 : Int).toNat 0) 50 ((0 : Int) + 1).toNat 0) 50 ((0 : Int) + 1 + 1).toNat 0 = s9 at hE9 z9 ⊢
    refine wp_call (x_forgetC ho (by rw [hE9.i _ _ (by omega), hE8.i _ _ (by omega)]; exact h9) (by rw [hE9.i _ _ (by omega)]; exact k4)) ?_
    rintro _ τ ⟨t10, t11, tr, hE10⟩
    refine wp_some ⟨fun j hj => ?_, ?_, ?_, t10, t11, fun x hx => ?_, tr, (hE8.tr (hE9.mo (fun r k h => by omega))).tr (hE10.mo (fun r k h => by omega))⟩
    · rw [hE10.i _ _ (by omega), hE9.i _ _ (by omega)]; exact r8 j hj
    · rw [hE10.i _ _ (by omega), hE9.i _ _ (by omega)]; exact k2
    · rw [hE10.i _ _ (by omega), hE9.i _ _ (by omega)]; exact k4
    · rw [hE10.i _ _ (by omega)]; exact z9 x hx
