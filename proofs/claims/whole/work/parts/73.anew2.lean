/-! begin anew: the reference -/
abbrev PSA : Nat → Nat → Prop := fun r k => r = 118 ∨ r = 137 ∨ r = 86 ∧ (k = 56 ∨ k = 57 ∨ k = 60 ∨ k = 61 ∨ k = 62 ∨ k = 79)
theorem x_startAnewM {ld σ : SS} (hok : LdOK ld) {bk : Nat} (hM : LM ld σ bk) : Wp (f_Mo_startAnew σ) fun _ τ => gi τ 118 0 = gi ld 2 17 ∧ (∀ j : Nat, j < 12 → gi τ 118 (1 + j) = if (j : Int) < 2 * gi ld 2 9 then gi ld 11 j else 0) ∧ gi τ 118 13 = -1 ∧ gi τ 86 56 = 0 ∧ gi τ 86 57 = 0 ∧ gi τ 86 60 = -1 ∧ gi τ 86 61 = 0 ∧ gi τ 86 62 = 0 ∧ gi τ 86 79 = 0 ∧ (∀ x, x < 3 → gi τ 137 x = 0) ∧ EqP PSA σ τ := by
  have hb := hM.1
  obtain ⟨S, hS⟩ : ∃ S : Nat, gi ld 2 9 = S := ⟨(gi ld 2 9).toNat, by have := hok.2.2.1; omega⟩
  have s6 : S ≤ 6 := by have := hok.2.2.1; omega
  unfold f_Mo_startAnew
  refine loopN (β := Unit) 44 (fun fu c _ s => l_Mo_startAnew_2 fu c s) (fun _ s => s) (fun c _ s => (∀ j, j < c → gi s 118 j = 0) ∧ EqP (fun r _ => r = 118) σ s) _ ?_ 44 0 FU () σ (by omega) (by unfold FU; omega) ⟨fun j hj => by omega, EqP.rf _ _⟩ ?_
  · rintro fu c _ s hc ⟨hr, hE⟩ hk
    have hi : iw ((c : Int) + 1) = ((c + 1 : Nat) : Int) := by rw [iwc (by omega) (by omega)]; omega
    show Wp (l_Mo_startAnew_2 (fu + 1) (c : Int) s) _
    rw [l_Mo_startAnew_2]
    refine wp_f (by omega) (wp_oc (by omega) (wp_os ?_))
    rw [hi, Int.toNat_natCast]
    refine hk _ ⟨fun j hj => ?_, EqP.si hE _ _ _ rfl⟩
    by_cases hjc : j = c
    · rw [hjc, gi_same]
    · rw [gi_ne_k _ _ _ _ (by omega)]; exact hr j (by omega)
  · rintro fu s ⟨hr, hE⟩
    show Wp (l_Mo_startAnew_2 (fu + 1) ((44 : Nat) : Int) s) _
    have hMs := hM.of hE (fun r k z => by omega)
    rw [l_Mo_startAnew_2]
    refine wp_t (by omega) ?_
    rw [hMs.2.1, Int.toNat_natCast, hMs.2.2.1.2.2.2.2.2]
    refine wp_oc (by omega) (wp_os ?_)
    have hE1 : EqP (fun r _ => r = 118) σ (si s 118 0 (gi ld 2 17)) := EqP.si hE _ _ _ rfl
    have q0 : gi (si s 118 0 (gi ld 2 17)) 118 0 = gi ld 2 17 := gi_same _ _ _ _
    have qz : ∀ j, 1 ≤ j → j < 44 → gi (si s 118 0 (gi ld 2 17)) 118 j = 0 := fun j h1 h2 => by rw [gi_ne_k _ _ _ _ (by omega)]; exact hr j h2
    generalize si s 118 0 (gi ld 2 17) = s1 at hE1 q0 qz ⊢
    refine loopN (β := Unit) S (fun fu c _ s => l_Mo_startAnew_38 fu c s) (fun _ s => s) (fun c _ s => (gi s 118 0 = gi ld 2 17 ∧ ∀ j : Nat, j < 12 → gi s 118 (1 + j) = if j < 2 * c then gi ld 11 j else 0) ∧ EqP (fun r _ => r = 118) σ s) _ ?_ S 0 FU () s1 (by omega) (by unfold FU; omega) ⟨⟨q0, fun j hj => by rw [if_neg (by omega)]; exact qz (1 + j) (by omega) (by omega)⟩, hE1⟩ ?_
    · rintro fu c _ s hc ⟨⟨g0, hr⟩, hE⟩ hk
      have hi : iw ((c : Int) + 1) = ((c + 1 : Nat) : Int) := by rw [iwc (by omega) (by omega)]; omega
      have hMs := hM.of hE (fun r k z => by omega)
      have h40 : gi s 86 40 = bk := hMs.2.1
      obtain ⟨k1, k2⟩ := hMs.2.2.2.2.2.1 c (by omega)
      show Wp (l_Mo_startAnew_38 (fu + 1) (c : Int) s) _
      rw [l_Mo_startAnew_38]
      refine wp_eq (x_soulMany hMs) (wp_f (by omega) ?_)
      have e1 : iw (iw (6 * (bk : Int)) + (c : Int)) = ((6 * bk + c : Nat) : Int) := by rw [iwc (x := 6 * (bk : Int)) (by omega) (by omega), iwc (by omega) (by omega)]; omega
      have e2 : iw (1 + iw (2 * (c : Int))) = ((1 + 2 * c : Nat) : Int) := by rw [iwc (x := 2 * (c : Int)) (by omega) (by omega), iwc (by omega) (by omega)]; omega
      have e3 : iw (((1 + 2 * c : Nat) : Int) + 1) = ((1 + 2 * c + 1 : Nat) : Int) := by rw [iwc (by omega) (by omega)]; omega
      rw [h40, e1, e2, Int.toNat_natCast, Int.toNat_natCast, k1]
      refine wp_oc (by omega) (wp_oc (by omega) (wp_os ?_))
      have h40' : gi (si s 118 (1 + 2 * c) (gi ld 11 (2 * c))) 86 40 = bk := by simp (disch := omega) only [gi_same, gi_ne_r, gi_ne_k, gi_sr_same, gi_sr_ne, gj_sj_same, gj_sj_ne_r, gj_sj_ne_k, gj_si, gi_sj, gj_sr, iwc, jwc, Int.toNat_natCast, tdn, tmn, b0, b1, yc0, yc1, h40]
      have k2' : gi (si s 118 (1 + 2 * c) (gi ld 11 (2 * c))) 102 (6 * bk + c) = gi ld 11 (2 * c + 1) := by simp (disch := omega) only [gi_same, gi_ne_r, gi_ne_k, gi_sr_same, gi_sr_ne, gj_sj_same, gj_sj_ne_r, gj_sj_ne_k, gj_si, gi_sj, gj_sr, iwc, jwc, Int.toNat_natCast, tdn, tmn, b0, b1, yc0, yc1, k2]
      rw [h40', e1, e3, Int.toNat_natCast, Int.toNat_natCast, k2', hi]
      refine wp_oc (by omega) (wp_oc (by omega) (wp_os ?_))
      refine hk _ ⟨⟨by rw [gi_ne_k _ _ _ _ (by omega), gi_ne_k _ _ _ _ (by omega)]; exact g0, fun j hj => ?_⟩, EqP.si (EqP.si hE _ _ _ rfl) _ _ _ rfl⟩
      by_cases h1 : j = 2 * c + 1
      · subst h1
        rw [show 1 + (2 * c + 1) = 1 + 2 * c + 1 by omega, gi_same, if_pos (by omega)]
      · rw [gi_ne_k _ _ _ _ (by omega)]
        by_cases h2 : j = 2 * c
        · subst h2
          rw [gi_same, if_pos (by omega)]
        · rw [gi_ne_k _ _ _ _ (by omega), hr j hj]
          by_cases h3 : j < 2 * c
          · rw [if_pos h3, if_pos (by omega)]
          · rw [if_neg h3, if_neg (by omega)]
    · rintro fu s ⟨⟨g0, hr⟩, hE⟩
      have hMs := hM.of hE (fun r k z => by omega)
      show Wp (l_Mo_startAnew_38 (fu + 1) (S : Int) s) _
      rw [l_Mo_startAnew_38]
      refine wp_eq (x_soulMany hMs) (wp_t (by omega) ?_)
      refine wp_os (wp_os (wp_os (wp_os (wp_os (wp_os (wp_os (wp_os ?_)))))))
      have hE8 : EqP PSA σ (si (si (si (si (si (si (si (si s 118 13 (-1)) 118 17 (-1)) 86 56 0) 86 57 0) 86 60 (-1)) 86 61 0) 86 79 0) 86 62 0) := EqP.si (EqP.si (EqP.si (EqP.si (EqP.si (EqP.si (EqP.si (EqP.si (hE.mo (fun r k h => by omega)) _ _ _ (by omega)) _ _ _ (by omega)) _ _ _ (by omega)) _ _ _ (by omega)) _ _ _ (by omega)) _ _ _ (by omega)) _ _ _ (by omega)) _ _ _ (by omega)
      have f0 : gi (si (si (si (si (si (si (si (si s 118 13 (-1)) 118 17 (-1)) 86 56 0) 86 57 0) 86 60 (-1)) 86 61 0) 86 79 0) 86 62 0) 118 0 = gi ld 2 17 := by simp (disch := omega) only [gi_same, gi_ne_r, gi_ne_k, gi_sr_same, gi_sr_ne, gj_sj_same, gj_sj_ne_r, gj_sj_ne_k, gj_si, gi_sj, gj_sr, iwc, jwc, Int.toNat_natCast, tdn, tmn, b0, b1, yc0, yc1, g0]
      have fr : ∀ j : Nat, j < 12 → gi (si (si (si (si (si (si (si (si s 118 13 (-1)) 118 17 (-1)) 86 56 0) 86 57 0) 86 60 (-1)) 86 61 0) 86 79 0) 86 62 0) 118 (1 + j) = if (j : Int) < 2 * gi ld 2 9 then gi ld 11 j else 0 := fun j hj => by
        have h := hr j hj
        rw [hS]
        by_cases h2 : j < 2 * S
        · rw [if_pos h2] at h
          rw [if_pos (by omega)]
          simp (disch := omega) only [gi_same, gi_ne_r, gi_ne_k, gi_sr_same, gi_sr_ne, gj_sj_same, gj_sj_ne_r, gj_sj_ne_k, gj_si, gi_sj, gj_sr, iwc, jwc, Int.toNat_natCast, tdn, tmn, b0, b1, yc0, yc1]; exact h
        · rw [if_neg h2] at h
          rw [if_neg (by omega)]
          simp (disch := omega) only [gi_same, gi_ne_r, gi_ne_k, gi_sr_same, gi_sr_ne, gj_sj_same, gj_sj_ne_r, gj_sj_ne_k, gj_si, gi_sj, gj_sr, iwc, jwc, Int.toNat_natCast, tdn, tmn, b0, b1, yc0, yc1]; exact h
      have f13 : gi (si (si (si (si (si (si (si (si s 118 13 (-1)) 118 17 (-1)) 86 56 0) 86 57 0) 86 60 (-1)) 86 61 0) 86 79 0) 86 62 0) 118 13 = -1 := by simp (disch := omega) only [gi_same, gi_ne_r, gi_ne_k, gi_sr_same, gi_sr_ne, gj_sj_same, gj_sj_ne_r, gj_sj_ne_k, gj_si, gi_sj, gj_sr, iwc, jwc, Int.toNat_natCast, tdn, tmn, b0, b1, yc0, yc1]
      have f56 : gi (si (si (si (si (si (si (si (si s 118 13 (-1)) 118 17 (-1)) 86 56 0) 86 57 0) 86 60 (-1)) 86 61 0) 86 79 0) 86 62 0) 86 56 = 0 := by simp (disch := omega) only [gi_same, gi_ne_r, gi_ne_k, gi_sr_same, gi_sr_ne, gj_sj_same, gj_sj_ne_r, gj_sj_ne_k, gj_si, gi_sj, gj_sr, iwc, jwc, Int.toNat_natCast, tdn, tmn, b0, b1, yc0, yc1]
      have f57 : gi (si (si (si (si (si (si (si (si s 118 13 (-1)) 118 17 (-1)) 86 56 0) 86 57 0) 86 60 (-1)) 86 61 0) 86 79 0) 86 62 0) 86 57 = 0 := by simp (disch := omega) only [gi_same, gi_ne_r, gi_ne_k, gi_sr_same, gi_sr_ne, gj_sj_same, gj_sj_ne_r, gj_sj_ne_k, gj_si, gi_sj, gj_sr, iwc, jwc, Int.toNat_natCast, tdn, tmn, b0, b1, yc0, yc1]
      have f60 : gi (si (si (si (si (si (si (si (si s 118 13 (-1)) 118 17 (-1)) 86 56 0) 86 57 0) 86 60 (-1)) 86 61 0) 86 79 0) 86 62 0) 86 60 = -1 := by simp (disch := omega) only [gi_same, gi_ne_r, gi_ne_k, gi_sr_same, gi_sr_ne, gj_sj_same, gj_sj_ne_r, gj_sj_ne_k, gj_si, gi_sj, gj_sr, iwc, jwc, Int.toNat_natCast, tdn, tmn, b0, b1, yc0, yc1]
      have f61 : gi (si (si (si (si (si (si (si (si s 118 13 (-1)) 118 17 (-1)) 86 56 0) 86 57 0) 86 60 (-1)) 86 61 0) 86 79 0) 86 62 0) 86 61 = 0 := by simp (disch := omega) only [gi_same, gi_ne_r, gi_ne_k, gi_sr_same, gi_sr_ne, gj_sj_same, gj_sj_ne_r, gj_sj_ne_k, gj_si, gi_sj, gj_sr, iwc, jwc, Int.toNat_natCast, tdn, tmn, b0, b1, yc0, yc1]
      have f62 : gi (si (si (si (si (si (si (si (si s 118 13 (-1)) 118 17 (-1)) 86 56 0) 86 57 0) 86 60 (-1)) 86 61 0) 86 79 0) 86 62 0) 86 62 = 0 := by simp (disch := omega) only [gi_same, gi_ne_r, gi_ne_k, gi_sr_same, gi_sr_ne, gj_sj_same, gj_sj_ne_r, gj_sj_ne_k, gj_si, gi_sj, gj_sr, iwc, jwc, Int.toNat_natCast, tdn, tmn, b0, b1, yc0, yc1]
      have f79 : gi (si (si (si (si (si (si (si (si s 118 13 (-1)) 118 17 (-1)) 86 56 0) 86 57 0) 86 60 (-1)) 86 61 0) 86 79 0) 86 62 0) 86 79 = 0 := by simp (disch := omega) only [gi_same, gi_ne_r, gi_ne_k, gi_sr_same, gi_sr_ne, gj_sj_same, gj_sj_ne_r, gj_sj_ne_k, gj_si, gi_sj, gj_sr, iwc, jwc, Int.toNat_natCast, tdn, tmn, b0, b1, yc0, yc1]
      generalize si (si (si (si (si (si (si (si s 118 13 (-1)) 118 17 (-1)) 86 56 0) 86 57 0) 86 60 (-1)) 86 61 0) 86 79 0) 86 62 0 = s8 at hE8 f0 fr f13 f56 f57 f60 f61 f62 f79 ⊢
      obtain ⟨f, hf⟩ : ∃ f, FU = f + 1 + 1 + 1 + 1 := ⟨FU - 4, by unfold FU; omega⟩
      rw [hf, l_Mo_startAnew_150]
      refine wp_f (by omega) (wp_oc (by omega) (wp_os ?_))
      rw [iwc (x := (0 : Int) + 1) (by omega) (by omega), l_Mo_startAnew_150]
      refine wp_f (by omega) (wp_oc (by omega) (wp_os ?_))
      rw [iwc (x := (0 : Int) + 1 + 1) (by omega) (by omega), l_Mo_startAnew_150]
      refine wp_f (by omega) (wp_oc (by omega) (wp_os ?_))
      rw [iwc (x := (0 : Int) + 1 + 1 + 1) (by omega) (by omega), l_Mo_startAnew_150]
      refine wp_t (by omega) ?_
      have hE9 : EqP (fun r _ => r = 137) s8 (si (si (si s8 137 (0 : Int).toNat 0) 137 ((0 : Int) + 1).toNat 0) 137 ((0 : Int) + 1 + 1).toNat 0) := by repeat (first | exact EqP.rf _ _ | (refine EqP.si ?_ _ _ _ (by omega)) | (refine EqP.sj ?_ _ _ _ (by omega)) | (refine EqP.sr ?_ _ _ (fun k => by omega)))
      have z9 : ∀ x, x < 3 → gi (si (si (si s8 137 (0 : Int).toNat 0) 137 ((0 : Int) + 1).toNat 0) 137 ((0 : Int) + 1 + 1).toNat 0) 137 x = 0 := by
        intro x hx
        have h3 : x = 0 ∨ x = 1 ∨ x = 2 := by omega
        rcases h3 with rfl | rfl | rfl
        · rw [gi_ne_k _ _ _ _ (by decide), gi_ne_k _ _ _ _ (by decide)]; exact gi_same _ _ _ _
        · rw [gi_ne_k _ _ _ _ (by decide)]; exact gi_same _ _ _ _
        · exact gi_same _ _ _ _
      generalize si (si (si s8 137 (0 : Int).toNat 0) 137 ((0 : Int) + 1).toNat 0) 137 ((0 : Int) + 1 + 1).toNat 0 = s9 at hE9 z9 ⊢
      refine wp_some ⟨?_, fun j hj => ?_, ?_, ?_, ?_, ?_, ?_, ?_, ?_, z9, hE8.tr (hE9.mo (fun r k h => by omega))⟩
      · rw [hE9.i _ _ (by omega)]; exact f0
      · rw [hE9.i _ _ (by omega)]; exact fr j hj
      · rw [hE9.i _ _ (by omega)]; exact f13
      · rw [hE9.i _ _ (by omega)]; exact f56
      · rw [hE9.i _ _ (by omega)]; exact f57
      · rw [hE9.i _ _ (by omega)]; exact f60
      · rw [hE9.i _ _ (by omega)]; exact f61
      · rw [hE9.i _ _ (by omega)]; exact f62
      · rw [hE9.i _ _ (by omega)]; exact f79
