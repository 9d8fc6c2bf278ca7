theorem y_redo : MP f_Qu_redo f_Mo_redo := by
  rintro σ ⟨ld, bk, hok, hL, hM, hEA, hRO, hLY, hRP, hTA⟩
  have hI : Inv σ := ⟨ld, bk, hok, hL, hM, hEA, hRO, hLY, hRP, hTA⟩
  obtain ⟨hS, ⟨old, u, d, ho, hud, r9, r10, r11, a56, a57, hring⟩, hbox⟩ := hEA
  unfold f_Qu_redo f_Mo_redo f_Ea_doAgain
  refine wp_ob ?_
  by_cases hd : d = 0
  · refine wp_f (by omega) (wp_some (wp_some (wp_t (by omega) (wp_some ⟨rfl, hI⟩))))
  · refine wp_t (by omega) (wp_os (wp_os ?_))
    rw [r10]
    have e11 : gi (si σ 46 10 (iw ((u : Int) + 1))) 46 11 = d := by simp (disch := omega) only [gi_same, gi_ne_r, gi_ne_k, gi_sr_same, gi_sr_ne, gj_sj_same, gj_sj_ne_r, gj_sj_ne_k, gj_si, gi_sj, gj_sr, iwc, jwc, Int.toNat_natCast, tdn, tmn, b0, b1, yc0, yc1, r11]
    rw [e11, iwc (x := (u : Int) + 1) (by omega) (by omega), iwc (x := (d : Int) - 1) (by omega) (by omega)]
    have g9 : gi (si (si σ 46 10 ((u : Int) + 1)) 46 11 ((d : Int) - 1)) 46 9 = old := by simp (disch := omega) only [gi_same, gi_ne_r, gi_ne_k, gi_sr_same, gi_sr_ne, gj_sj_same, gj_sj_ne_r, gj_sj_ne_k, gj_si, gi_sj, gj_sr, iwc, jwc, Int.toNat_natCast, tdn, tmn, b0, b1, yc0, yc1, r9]
    have g10 : gi (si (si σ 46 10 ((u : Int) + 1)) 46 11 ((d : Int) - 1)) 46 10 = ((u + 1 : Nat) : Int) := by
      simp (disch := omega) only [gi_same, gi_ne_r, gi_ne_k, gi_sr_same, gi_sr_ne, gj_sj_same, gj_sj_ne_r, gj_sj_ne_k, gj_si, gi_sj, gj_sr, iwc, jwc, Int.toNat_natCast, tdn, tmn, b0, b1, yc0, yc1]
      omega
    refine wp_eq (x_slot _ old (u + 1) ho (by omega) g9 g10) ?_
    have hlt : (old + (u + 1)) % 41 < 41 := Nat.mod_lt _ (by omega)
    have hprev := hring (u + 1) (by omega)
    have hwk := hprev.w01
    refine wp_call (x_bring 48 (Or.inl rfl) (41 * ((old + (u + 1)) % 41)) (show 41 * ((old + (u + 1)) % 41) + 41 ≤ 1681 by omega) _ (by simp (disch := omega) only [gi_same, gi_ne_r, gi_ne_k, gi_sr_same, gi_sr_ne, gj_sj_same, gj_sj_ne_r, gj_sj_ne_k, gj_si, gi_sj, gj_sr, iwc, jwc, Int.toNat_natCast, tdn, tmn, b0, b1, yc0, yc1]; exact hwk)) ?_
    rintro _ s6 ⟨hE6, hV6⟩
    refine wp_some (wp_some ?_)
    have hEs : EqP (fun r k => r = 46 ∧ (k = 2 ∨ 4 ≤ k ∧ k ≤ 7 ∨ k = 10 ∨ k = 11) ∨ r = 47 ∨ r = 51 ∧ 3 ≤ k ∧ k ≤ 6 ∨ r = 53) σ s6 := by
      refine EqP.tr (b := si (si σ 46 10 ((u : Int) + 1)) 46 11 ((d : Int) - 1)) ?_ (hE6.mo (fun r k h => by omega))
      repeat (first | exact EqP.rf _ _ | (refine EqP.si ?_ _ _ _ (by omega)) | (refine EqP.sj ?_ _ _ _ (by omega)) | (refine EqP.sr ?_ _ _ (fun k => by omega)))
    have hrow : ∀ k, gi (si (si σ 46 10 ((u : Int) + 1)) 46 11 ((d : Int) - 1)) 48 k = gi σ 48 k := fun k => by simp (disch := omega) only [gi_same, gi_ne_r, gi_ne_k, gi_sr_same, gi_sr_ne, gj_sj_same, gj_sj_ne_r, gj_sj_ne_k, gj_si, gi_sj, gj_sr, iwc, jwc, Int.toNat_natCast, tdn, tmn, b0, b1, yc0, yc1]
    have k10 : gi s6 46 10 = ((u + 1 : Nat) : Int) := by rw [hE6.i _ _ (by omega)]; exact g10
    have k11 : gi s6 46 11 = ((d - 1 : Nat) : Int) := by
      rw [hE6.i _ _ (by omega)]
      simp (disch := omega) only [gi_same, gi_ne_r, gi_ne_k, gi_sr_same, gi_sr_ne, gj_sj_same, gj_sj_ne_r, gj_sj_ne_k, gj_si, gi_sj, gj_sr, iwc, jwc, Int.toNat_natCast, tdn, tmn, b0, b1, yc0, yc1]
      omega
    refine wp_f (by rw [hEs.i _ _ (by omega)]; omega) ?_
    unfold f_Mo_exchange
    refine wp_eq (x_exch 44 0 FU u _ (by omega) (by rw [hEs.i _ _ (by omega)]; exact a56) (by omega) (by unfold FU; omega)) ?_
    have q120 : ∀ k, gi s6 120 k = gi σ 120 k := fun k => hEs.i _ _ (by omega)
    have q118 : ∀ k, gi s6 118 k = gi σ 118 k := fun k => hEs.i _ _ (by omega)
    have hs4 : EqP (fun r k => r = 120 ∨ r = 118) s6 (sr (sr s6 120 (fun j => if 44 * u + 0 ≤ j ∧ j < 44 * u + 44 then gi s6 118 (j - 44 * u) else gi s6 120 j)) 118 (fun j => if 0 ≤ j ∧ j < 44 then gi s6 120 (44 * u + j) else gi s6 118 j)) := by
      refine EqP.sr (EqP.sr (EqP.rf _ _) _ _ (fun k => by omega)) _ _ (fun k => by omega)
    have hA : ∀ j, j < 44 → gi (sr (sr s6 120 (fun j => if 44 * u + 0 ≤ j ∧ j < 44 * u + 44 then gi s6 118 (j - 44 * u) else gi s6 120 j)) 118 (fun j => if 0 ≤ j ∧ j < 44 then gi s6 120 (44 * u + j) else gi s6 118 j)) 118 j = gi σ 120 (44 * u + j) := fun j hj => by
      rw [gi_sr_same, if_pos (by omega)]; exact q120 _
    have hB : ∀ j, gi (sr (sr s6 120 (fun j => if 44 * u + 0 ≤ j ∧ j < 44 * u + 44 then gi s6 118 (j - 44 * u) else gi s6 120 j)) 118 (fun j => if 0 ≤ j ∧ j < 44 then gi s6 120 (44 * u + j) else gi s6 118 j)) 120 j = (if 44 * u + 0 ≤ j ∧ j < 44 * u + 44 then gi σ 118 (j - 44 * u) else gi σ 120 j) := fun j => by
      rw [gi_sr_ne _ _ _ (by omega), gi_sr_same, q118, q120]
    generalize sr (sr s6 120 (fun j => if 44 * u + 0 ≤ j ∧ j < 44 * u + 44 then gi s6 118 (j - 44 * u) else gi s6 120 j)) 118 (fun j => if 0 ≤ j ∧ j < 44 then gi s6 120 (44 * u + j) else gi s6 118 j) = s7 at hs4 hA hB ⊢
    refine wp_os (wp_os (wp_some ⟨rfl, ?_⟩))
    have e56 : gi s7 86 56 = u := by rw [hs4.i _ _ (by omega), hEs.i _ _ (by omega)]; exact a56
    have e57 : gi s7 86 57 = d := by rw [hs4.i _ _ (by omega), hEs.i _ _ (by omega)]; exact a57
    rw [e56]
    have e57' : gi (si s7 86 56 (iw ((u : Int) + 1))) 86 57 = d := by simp (disch := omega) only [gi_same, gi_ne_r, gi_ne_k, gi_sr_same, gi_sr_ne, gj_sj_same, gj_sj_ne_r, gj_sj_ne_k, gj_si, gi_sj, gj_sr, iwc, jwc, Int.toNat_natCast, tdn, tmn, b0, b1, yc0, yc1, e57]
    rw [e57', iwc (x := (u : Int) + 1) (by omega) (by omega), iwc (x := (d : Int) - 1) (by omega) (by omega)]
    generalize hs3 : si (si s7 86 56 ((u : Int) + 1)) 86 57 ((d : Int) - 1) = τ
    have hE3 : EqP (fun r k => r = 86 ∧ (k = 56 ∨ k = 57)) s7 τ := by rw [← hs3]; repeat (first | exact EqP.rf _ _ | (refine EqP.si ?_ _ _ _ (by omega)) | (refine EqP.sj ?_ _ _ _ (by omega)) | (refine EqP.sr ?_ _ _ (fun k => by omega)))
    have m1 : gi τ 86 56 = ((u + 1 : Nat) : Int) := by
      rw [← hs3]; simp (disch := omega) only [gi_same, gi_ne_r, gi_ne_k, gi_sr_same, gi_sr_ne, gj_sj_same, gj_sj_ne_r, gj_sj_ne_k, gj_si, gi_sj, gj_sr, iwc, jwc, Int.toNat_natCast, tdn, tmn, b0, b1, yc0, yc1]
      omega
    have m2 : gi τ 86 57 = ((d - 1 : Nat) : Int) := by
      rw [← hs3]; simp (disch := omega) only [gi_same, gi_ne_r, gi_ne_k, gi_sr_same, gi_sr_ne, gj_sj_same, gj_sj_ne_r, gj_sj_ne_k, gj_si, gi_sj, gj_sr, iwc, jwc, Int.toNat_natCast, tdn, tmn, b0, b1, yc0, yc1]
      omega
    clear hs3
    have hEt : EqP PA σ τ := ((hEs.mo (fun r k h => by omega)).tr (hs4.mo (fun r k h => by omega))).tr (hE3.mo (fun r k h => by omega))
    refine Inv_act hok hL hM hRO hLY hRP hTA hEt ⟨?_, ⟨old, u + 1, d - 1, ho, by omega, ?_, ?_, ?_, m1, m2, ?_⟩, ?_⟩
    · refine hprev.cg (fun j hj => ?_) (fun j hj => ?_)
      · rw [cv_eq hE3 (fun r k z => by omega) j hj, cv_eq hs4 (fun r k z => by omega) j hj, hV6 j hj, hrow]
      · unfold mvr
        rw [hE3.i _ _ (by omega), hA j hj, if_neg (by omega), if_neg (by omega), Nat.add_sub_cancel]
    · rw [hE3.i _ _ (by omega), hs4.i _ _ (by omega), hEs.i _ _ (by omega)]; exact r9
    · rw [hE3.i _ _ (by omega), hs4.i _ _ (by omega)]; exact k10
    · rw [hE3.i _ _ (by omega), hs4.i _ _ (by omega)]; exact k11
    · intro i hi
      refine (hring i (by omega)).cg (fun j hj => ?_) (fun j hj => ?_)
      · rw [hE3.i _ _ (by omega), hs4.i _ _ (by omega), hEs.i _ _ (by omega)]
      · unfold mvr
        by_cases i1 : i < u + 1
        · rw [if_pos i1, hE3.i _ _ (by omega), hB]
          by_cases i3 : i < u
          · rw [if_neg (by omega), if_pos i3]
          · rw [if_pos (by omega), if_neg i3, if_pos (by omega)]; congr 1; omega
        · rw [if_neg i1]
          by_cases i2 : i = u + 1
          · rw [if_pos i2, hE3.i _ _ (by omega), hA j hj, if_neg (by omega), if_neg (by omega)]; congr 1; omega
          · rw [if_neg i2, if_neg (by omega), if_neg (by omega), hE3.i _ _ (by omega), hB, if_neg (by omega)]
    · intro x hx
      obtain ⟨k1, k2⟩ := hbox x hx
      have g : ∀ r k, (r = 49 ∨ r = 50 ∨ r = 136 ∨ r = 137) → gi τ r k = gi σ r k := fun r k h => hEt.i r k (by omega)
      rw [g 50 x (by omega), g 137 x (by omega)]
      refine ⟨k1, ?_⟩
      rcases k2 with k2 | ⟨k2, k3⟩
      · exact Or.inl k2
      · exact Or.inr ⟨k2, k3.cg (fun j _ => g _ _ (by omega)) (fun j _ => g _ _ (by omega))⟩
/-- words in all -/
theorem x_wordsC {ld σ : SS} {M : Nat → Int} (h : SR ld (cv σ) M) : f_Ea_wordsInAll σ = some (if cv σ 13 = 1 then M 19 else 0, σ) := by
  unfold f_Ea_wordsInAll
  rw [← cv13]
  rcases h.2 with ⟨h1, _⟩ | ⟨h1, a, b, m, q, _, _, w, v, _⟩
  · rw [if_pos h1, if_neg (by omega)]
  · rw [if_neg (by omega), if_pos h1, v.2.2.2.2.1, ← w.2.2.1]; rfl
theorem x_wordsM {ld σ : SS} {V : Nat → Int} (h : SR ld V (gi σ 118)) : f_Mo_wordsInAll σ = some (if V 13 = 1 then gi σ 118 19 else 0, σ) := by
  unfold f_Mo_wordsInAll
  rw [doWalk_eq h, ob_eq]
  by_cases h1 : V 13 = 1
  · rw [if_pos h1, if_pos h1, if_neg (by decide)]
  · rw [if_neg h1, if_neg h1, if_pos rfl]
abbrev PBx : Nat → Nat → Prop := fun r k => r = 46 ∧ 2 ≤ k ∨ 47 ≤ r ∧ r ≤ 50 ∨ r = 51 ∧ 3 ≤ k ∨ r = 53 ∨ r = 118 ∨ r = 136 ∨ r = 137 ∨ r = 86 ∧ (k = 56 ∨ k = 57)
theorem Inv_box {ld σ τ : SS} {bk : Nat} (hok : LdOK ld) (hL : LC ld σ) (hM : LM ld σ bk) (hRO : RO ld σ) (hLY : LY σ) (hRP : RP σ) (hTA : TA σ) (he : EqP PBx σ τ) (hEA : EA ld τ) : Inv τ :=
  ⟨ld, bk, hok, hL.of he (fun r k z => by omega), hM.of he (fun r k z => by omega), hEA, hRO.of (fun r k z => he.i r k (by omega)), hLY.of (fun r k z => he.i r k (by omega)), hRP.of (fun r k z => he r k (by omega)), hTA.of (fun r k z => he.i r k (by omega))⟩
theorem ix44 (b k : Nat) (h : b < 50 ∧ k < 1000) : iw (iw (44 * (b : Int)) + (k : Int)) = ((44 * b + k : Nat) : Int) := by simp (disch := omega) only [iwc]; omega
theorem y_image (x : Int) : MP (f_Qu_image x) (f_Mo_image x) := by
  rintro σ ⟨ld, bk, hok, hL, hM, hEA, hRO, hLY, hRP, hTA⟩
  have hI : Inv σ := ⟨ld, bk, hok, hL, hM, hEA, hRO, hLY, hRP, hTA⟩
  unfold f_Qu_image f_Mo_image f_Ea_keep
  refine wp_ob ?_
  by_cases hx : 0 ≤ x ∧ x < 3
  · obtain ⟨n, rfl⟩ : ∃ n : Nat, x = n := ⟨x.toNat, by omega⟩
    refine wp_f (by omega) (wp_t (by omega) (wp_oc (by omega) (wp_os ?_)))
    rw [Int.toNat_natCast, iwc (x := (n : Int) * 41) (by omega) (by omega), show (n : Int) * 41 = ((41 * n : Nat) : Int) by omega]
    have hwk := hEA.1.w01
    rw [cv13] at hwk
    refine wp_call (x_put 49 (Or.inr rfl) (41 * n) (show 41 * n + 41 ≤ 123 by omega) _ (by simp (disch := omega) only [gi_same, gi_ne_r, gi_ne_k, gi_sr_same, gi_sr_ne, gj_sj_same, gj_sj_ne_r, gj_sj_ne_k, gj_si, gi_sj, gj_sr, iwc, jwc, Int.toNat_natCast, tdn, tmn, b0, b1, yc0, yc1]; exact hwk)) ?_
    rintro _ s7 ⟨hE7, hV7⟩
    have hEs : EqP (fun r k => r = 50 ∧ k = n ∨ r = 49 ∧ 41 * n ≤ k ∧ k < 41 * n + 41) σ s7 := by
      refine EqP.tr (b := si σ 50 n 1) ?_ (hE7.mo (fun r k h => by omega))
      repeat (first | exact EqP.rf _ _ | (refine EqP.si ?_ _ _ _ (by omega)) | (refine EqP.sj ?_ _ _ _ (by omega)) | (refine EqP.sr ?_ _ _ (fun k => by omega)))
    have hcv : ∀ j, j < 41 → cv s7 j = cv σ j := fun j hj => cv_eq hEs (fun r k z => by omega) j hj
    have hS7 : SR ld (cv s7) (gi σ 118) := hEA.1.cg hcv (fun _ _ => rfl)
    refine wp_eq (x_wordsC hS7) (wp_some (wp_some ?_))
    refine wp_b1 (x_isIn _ _ _ _) (by omega) (wp_f (by decide) ?_)
    have z := cp_loop (l_Mo_image_13 (n : Int)) (fun τ => l_Mo_image_13 (n : Int) 1 44 τ) 136 118 44 (44 * n) 0 (by omega) (fun _ => True) (fun _ _ _ h => h) (fun fu i τ hI hi => by
      rw [l_Mo_image_13, if_neg (by omega), oc_pos (by omega), ix44 n i ⟨by omega, by omega⟩, oc_pos (by omega), os_eq, iwc (by omega) (by omega), Int.toNat_natCast, Int.toNat_natCast, Nat.zero_add]
      congr 1) (fun fu τ hI => by rw [l_Mo_image_13, l_Mo_image_13, if_pos (by omega), if_pos (by omega)]) 44 0 FU s7 (by omega) (by unfold FU; omega) trivial
    refine wp_unf z ?_
    generalize hs8 : sr s7 136 (fun j => if 44 * n + 0 ≤ j ∧ j < 44 * n + 44 then gi s7 118 (0 + (j - 44 * n)) else gi s7 136 j) = s8
    have hE8 : EqP (fun r k => r = 136 ∧ 44 * n ≤ k ∧ k < 44 * n + 44) s7 s8 := by
      rw [← hs8]
      intro r k hk
      refine ⟨?_, rfl⟩
      by_cases hr : r = 136
      · subst hr; rw [gi_sr_same, if_neg (by omega)]
      · simp (disch := omega) only [gi_same, gi_ne_r, gi_ne_k, gi_sr_same, gi_sr_ne, gj_sj_same, gj_sj_ne_r, gj_sj_ne_k, gj_si, gi_sj, gj_sr, iwc, jwc, Int.toNat_natCast, tdn, tmn, b0, b1, yc0, yc1]
    have hV8 : ∀ j, j < 44 → gi s8 136 (44 * n + j) = gi σ 118 j := fun j hj => by
      rw [← hs8, gi_sr_same, if_pos (by omega), hEs.i _ _ (by omega)]; congr 1; omega
    clear hs8
    rw [l_Mo_image_13]
    refine wp_t (by omega) (wp_oc (by omega) (wp_os ?_))
    rw [Int.toNat_natCast]
    have hE9 : EqP (fun r k => r = 50 ∧ k = n ∨ r = 49 ∧ 41 * n ≤ k ∧ k < 41 * n + 41 ∨ r = 136 ∧ 44 * n ≤ k ∧ k < 44 * n + 44 ∨ r = 137 ∧ k = n) σ (si s8 137 n 1) :=
      EqP.si ((hEs.mo (fun r k h => by omega)).tr (hE8.mo (fun r k h => by omega))) _ _ _ (by omega)
    have h137 : gi (si s8 137 n 1) 137 n = 1 := gi_same _ _ _ _
    have h136 : ∀ j, j < 44 → gi (si s8 137 n 1) 136 (44 * n + j) = gi σ 118 j := fun j hj => by simp (disch := omega) only [gi_same, gi_ne_r, gi_ne_k, gi_sr_same, gi_sr_ne, gj_sj_same, gj_sj_ne_r, gj_sj_ne_k, gj_si, gi_sj, gj_sr, iwc, jwc, Int.toNat_natCast, tdn, tmn, b0, b1, yc0, yc1]; exact hV8 j hj
    have h49 : ∀ j, j < 41 → gi (si s8 137 n 1) 49 (41 * n + j) = cv σ j := fun j hj => by
      simp (disch := omega) only [gi_same, gi_ne_r, gi_ne_k, gi_sr_same, gi_sr_ne, gj_sj_same, gj_sj_ne_r, gj_sj_ne_k, gj_si, gi_sj, gj_sr, iwc, jwc, Int.toNat_natCast, tdn, tmn, b0, b1, yc0, yc1]
      rw [hE8.i _ _ (by omega), hV7 j hj]
      exact cv_eq (P := fun r k => r = 50) (by repeat (first | exact EqP.rf _ _ | (refine EqP.si ?_ _ _ _ (by omega)) | (refine EqP.sj ?_ _ _ _ (by omega)) | (refine EqP.sr ?_ _ _ (fun k => by omega)))) (fun r k z => by omega) j hj
    have h50 : gi (si s8 137 n 1) 50 n = 1 := by
      simp (disch := omega) only [gi_same, gi_ne_r, gi_ne_k, gi_sr_same, gi_sr_ne, gj_sj_same, gj_sj_ne_r, gj_sj_ne_k, gj_si, gi_sj, gj_sr, iwc, jwc, Int.toNat_natCast, tdn, tmn, b0, b1, yc0, yc1]
      rw [hE8.i _ _ (by omega), hE7.i _ _ (by omega)]
      simp (disch := omega) only [gi_same, gi_ne_r, gi_ne_k, gi_sr_same, gi_sr_ne, gj_sj_same, gj_sj_ne_r, gj_sj_ne_k, gj_si, gi_sj, gj_sr, iwc, jwc, Int.toNat_natCast, tdn, tmn, b0, b1, yc0, yc1]
    generalize si s8 137 n 1 = τ at hE9 h137 h136 h49 h50 ⊢
    have hS9 : SR ld (cv σ) (gi τ 118) := hEA.1.cg (fun _ _ => rfl) (fun j _ => hE9.i _ _ (by omega))
    refine wp_eq (x_wordsM hS9) (wp_some ⟨?_, ?_⟩)
    · rw [hcv 13 (by omega), hE9.i _ _ (by omega)]
    · refine Inv_box hok hL hM hRO hLY hRP hTA (hE9.mo (fun r k h => by omega)) ?_
      obtain ⟨hS, ⟨old, u, d, ho, hud, r9, r10, r11, a56, a57, hring⟩, hbox⟩ := hEA
      refine ⟨hS9.cg (fun j hj => cv_eq hE9 (fun r k z => by omega) j hj) (fun _ _ => rfl), ⟨old, u, d, ho, hud, ?_, ?_, ?_, ?_, ?_, ?_⟩, ?_⟩
      · rw [hE9.i _ _ (by omega)]; exact r9
      · rw [hE9.i _ _ (by omega)]; exact r10
      · rw [hE9.i _ _ (by omega)]; exact r11
      · rw [hE9.i _ _ (by omega)]; exact a56
      · rw [hE9.i _ _ (by omega)]; exact a57
      · intro i hi
        refine (hring i hi).cg (fun j hj => hE9.i _ _ (by omega)) (fun j hj => ?_)
        unfold mvr
        rw [hE9.i 120 _ (by omega), hE9.i 118 _ (by omega), hE9.i 120 _ (by omega)]
      · intro x hx
        by_cases hxn : x = n
        · subst hxn
          rw [h50, h137]
          exact ⟨rfl, Or.inr ⟨rfl, hS.cg (fun j hj => h49 j hj) (fun j hj => h136 j hj)⟩⟩
        · obtain ⟨k1, k2⟩ := hbox x hx
          rw [hE9.i 50 x (by omega), hE9.i 137 x (by omega)]
          refine ⟨k1, ?_⟩
          rcases k2 with k2 | ⟨k2, k3⟩
          · exact Or.inl k2
          · exact Or.inr ⟨k2, k3.cg (fun j _ => hE9.i _ _ (by omega)) (fun j _ => hE9.i _ _ (by omega))⟩
  · have : Wp (f_Mo_image x σ) fun r' σ2 => (-1 : Int) = r' ∧ Inv σ2 := by
      unfold f_Mo_image
      exact wp_b0 (x_isIn _ _ _ _) (by omega) (wp_t rfl (wp_some ⟨rfl, hI⟩))
    unfold f_Mo_image at this
    by_cases h3 : x < 0
    · exact wp_t h3 (wp_some (wp_some this))
    · exact wp_f h3 (wp_f (by omega) (wp_some (wp_some this)))
theorem x_forget (σ : SS) (old : Nat) (ho : old ≤ 40) (h1 : gi σ 46 9 = old) (hw : gi σ 46 4 = 0 ∨ gi σ 46 4 = 1) : Wp (f_Ea_forgetActs σ) fun _ τ => EqP (fun r k => r = 46 ∧ (k = 10 ∨ k = 11) ∨ r = 48) σ τ ∧ gi τ 46 10 = 0 ∧ gi τ 46 11 = 0 ∧ ∀ j, j < 41 → gi τ 48 (41 * (old % 41) + j) = cv σ j := by
  unfold f_Ea_forgetActs
  refine wp_os (wp_os ?_)
  have hE : EqP (fun r k => r = 46 ∧ (k = 10 ∨ k = 11)) σ (si (si σ 46 10 0) 46 11 0) := by repeat (first | exact EqP.rf _ _ | (refine EqP.si ?_ _ _ _ (by omega)) | (refine EqP.sj ?_ _ _ _ (by omega)) | (refine EqP.sr ?_ _ _ (fun k => by omega)))
  have g10 : gi (si (si σ 46 10 0) 46 11 0) 46 10 = 0 := by simp (disch := omega) only [gi_same, gi_ne_r, gi_ne_k, gi_sr_same, gi_sr_ne, gj_sj_same, gj_sj_ne_r, gj_sj_ne_k, gj_si, gi_sj, gj_sr, iwc, jwc, Int.toNat_natCast, tdn, tmn, b0, b1, yc0, yc1]
  have g11 : gi (si (si σ 46 10 0) 46 11 0) 46 11 = 0 := by simp (disch := omega) only [gi_same, gi_ne_r, gi_ne_k, gi_sr_same, gi_sr_ne, gj_sj_same, gj_sj_ne_r, gj_sj_ne_k, gj_si, gi_sj, gj_sr, iwc, jwc, Int.toNat_natCast, tdn, tmn, b0, b1, yc0, yc1]
  generalize si (si σ 46 10 0) 46 11 0 = s2 at hE g10 g11 ⊢
  refine wp_eq (x_slot s2 old 0 ho (by omega) (by rw [hE.i _ _ (by omega)]; exact h1) g10) ?_
  rw [Nat.add_zero]
  have hlt : old % 41 < 41 := Nat.mod_lt _ (by omega)
  refine wp_call (x_put 48 (Or.inl rfl) (41 * (old % 41)) (show 41 * (old % 41) + 41 ≤ 1681 by omega) _ (by rw [hE.i _ _ (by omega)]; exact hw)) ?_
  rintro _ τ ⟨hE2, hV⟩
  refine wp_some ⟨(hE.mo (fun r k h => by omega)).tr (hE2.mo (fun r k h => by omega)), ?_, ?_, fun j hj => ?_⟩
  · rw [hE2.i _ _ (by omega)]; exact g10
  · rw [hE2.i _ _ (by omega)]; exact g11
  · rw [hV j hj]; exact cv_eq hE (fun r k z => by omega) j hj
theorem y_back (x : Int) : MP (f_Qu_back x) (f_Mo_back x) := by
  rintro σ ⟨ld, bk, hok, hL, hM, hEA, hRO, hLY, hRP, hTA⟩
  have hI : Inv σ := ⟨ld, bk, hok, hL, hM, hEA, hRO, hLY, hRP, hTA⟩
  unfold f_Qu_back f_Mo_back f_Ea_goBack
  refine wp_ob ?_
  by_cases hx : 0 ≤ x ∧ x < 3
  · obtain ⟨n, rfl⟩ : ∃ n : Nat, x = n := ⟨x.toNat, by omega⟩
    refine wp_f (by omega) (wp_f (by omega) (wp_oc (by omega) ?_))
    rw [Int.toNat_natCast]
    obtain ⟨hS, ⟨old, u, d, ho, hud, r9, r10, r11, a56, a57, hring⟩, hbox⟩ := hEA
    obtain ⟨k1, k2⟩ := hbox n (by omega)
    rcases k2 with k2 | ⟨k2, k3⟩
    · refine wp_t k2 (wp_some (wp_some ?_))
      exact wp_b1 (x_isIn _ _ _ _) (by omega) (wp_f (by decide) (wp_oc (by omega) (wp_t (by omega) (wp_some ⟨rfl, hI⟩))))
    · refine wp_f (by omega) ?_
      rw [iwc (x := (n : Int) * 41) (by omega) (by omega), show (n : Int) * 41 = ((41 * n : Nat) : Int) by omega]
      have hwk := k3.w01
      refine wp_call (x_bring 49 (Or.inr rfl) (41 * n) (show 41 * n + 41 ≤ 123 by omega) σ hwk) ?_
      rintro _ s7 ⟨hE7, hV7⟩
      refine wp_call (x_forget s7 old ho (by rw [hE7.i _ _ (by omega)]; exact r9) (by rw [← cv13, hV7 13 (by omega)]; exact hwk)) ?_
      rintro _ s8 ⟨hE8, g10, g11, hV8⟩
      have hcv8 : ∀ j, j < 41 → cv s8 j = gi σ 49 (41 * n + j) := fun j hj => by rw [cv_eq hE8 (fun r k z => by omega) j hj, hV7 j hj]
      have hEs : EqP (fun r k => r = 47 ∨ r = 46 ∧ (k = 2 ∨ 4 ≤ k ∧ k ≤ 7 ∨ k = 10 ∨ k = 11) ∨ r = 51 ∧ 3 ≤ k ∧ k ≤ 6 ∨ r = 53 ∨ r = 48) σ s8 := (hE7.mo (fun r k h => by omega)).tr (hE8.mo (fun r k h => by omega))
      refine wp_eq (x_wordsC (k3.cg hcv8 (fun _ _ => rfl))) (wp_some (wp_some ?_))
      refine wp_b1 (x_isIn _ _ _ _) (by omega) (wp_f (by decide) (wp_oc (by omega) ?_))
      refine wp_f (by rw [hEs.i _ _ (by omega)]; omega) ?_
      have z := cp_loop (l_Mo_back_22 (n : Int)) (fun τ => l_Mo_back_22 (n : Int) 1 44 τ) 118 136 44 0 (44 * n) (by omega) (fun _ => True) (fun _ _ _ h => h) (fun fu i τ hI hi => by
        rw [l_Mo_back_22, if_neg (by omega), ix44 n i ⟨by omega, by omega⟩, oc_pos (by omega), oc_pos (by omega), os_eq, iwc (by omega) (by omega), Int.toNat_natCast, Int.toNat_natCast, Nat.zero_add]
        congr 1) (fun fu τ hI => by rw [l_Mo_back_22, l_Mo_back_22, if_pos (by omega), if_pos (by omega)]) 44 0 FU s8 (by omega) (by unfold FU; omega) trivial
      refine wp_unf z ?_
      generalize hs9 : sr s8 118 (fun j => if 0 + 0 ≤ j ∧ j < 0 + 44 then gi s8 136 (44 * n + (j - 0)) else gi s8 118 j) = s9
      have hE9 : EqP (fun r k => r = 118) s8 s9 := by rw [← hs9]; exact EqP.sr (EqP.rf _ _) _ _ (fun k => rfl)
      have hV9 : ∀ j, j < 44 → gi s9 118 j = gi σ 136 (44 * n + j) := fun j hj => by
        rw [← hs9, gi_sr_same, if_pos (by omega), hEs.i _ _ (by omega)]; congr 1
      clear hs9
      rw [l_Mo_back_22]
      refine wp_t (by omega) (wp_os (wp_os ?_))
      have hEt : EqP (fun r k => r = 118 ∨ r = 86 ∧ (k = 56 ∨ k = 57)) s8 (si (si s9 86 56 0) 86 57 0) := EqP.si (EqP.si (hE9.mo (fun r k h => by omega)) _ _ _ (by omega)) _ _ _ (by omega)
      have m1 : gi (si (si s9 86 56 0) 86 57 0) 86 56 = 0 := by simp (disch := omega) only [gi_same, gi_ne_r, gi_ne_k, gi_sr_same, gi_sr_ne, gj_sj_same, gj_sj_ne_r, gj_sj_ne_k, gj_si, gi_sj, gj_sr, iwc, jwc, Int.toNat_natCast, tdn, tmn, b0, b1, yc0, yc1]
      have m2 : gi (si (si s9 86 56 0) 86 57 0) 86 57 = 0 := by simp (disch := omega) only [gi_same, gi_ne_r, gi_ne_k, gi_sr_same, gi_sr_ne, gj_sj_same, gj_sj_ne_r, gj_sj_ne_k, gj_si, gi_sj, gj_sr, iwc, jwc, Int.toNat_natCast, tdn, tmn, b0, b1, yc0, yc1]
      have m3 : ∀ j, j < 44 → gi (si (si s9 86 56 0) 86 57 0) 118 j = gi σ 136 (44 * n + j) := fun j hj => by simp (disch := omega) only [gi_same, gi_ne_r, gi_ne_k, gi_sr_same, gi_sr_ne, gj_sj_same, gj_sj_ne_r, gj_sj_ne_k, gj_si, gi_sj, gj_sr, iwc, jwc, Int.toNat_natCast, tdn, tmn, b0, b1, yc0, yc1]; exact hV9 j hj
      generalize si (si s9 86 56 0) 86 57 0 = τ at hEt m1 m2 m3 ⊢
      have hcvt : ∀ j, j < 41 → cv τ j = gi σ 49 (41 * n + j) := fun j hj => by rw [cv_eq hEt (fun r k z => by omega) j hj, hcv8 j hj]
      have hSt : SR ld (cv τ) (gi τ 118) := k3.cg hcvt m3
      refine wp_eq (x_wordsM hSt) (wp_some ⟨?_, ?_⟩)
      · rw [hcv8 13 (by omega), hcvt 13 (by omega), m3 19 (by omega)]
      · have hEa : EqP PBx σ τ := (hEs.mo (fun r k h => by omega)).tr (hEt.mo (fun r k h => by omega))
        refine Inv_box hok hL hM hRO hLY hRP hTA hEa ⟨hSt, ⟨old, 0, 0, ho, by omega, ?_, ?_, ?_, m1, m2, ?_⟩, ?_⟩
        · rw [hEt.i _ _ (by omega), hEs.i _ _ (by omega)]; exact r9
        · rw [hEt.i _ _ (by omega)]; exact g10
        · rw [hEt.i _ _ (by omega)]; exact g11
        · intro i hi
          obtain rfl : i = 0 := by omega
          refine hSt.cg (fun j hj => ?_) (fun j hj => ?_)
          · rw [hEt.i _ _ (by omega), Nat.add_zero, hV8 j hj, hcvt j hj, hV7 j hj]
          · unfold mvr
            rw [if_neg (by omega), if_pos rfl]
        · intro x hx
          obtain ⟨j1, j2⟩ := hbox x hx
          have g : ∀ r k, (r = 49 ∨ r = 50 ∨ r = 136 ∨ r = 137) → gi τ r k = gi σ r k := fun r k h => by rw [hEt.i r k (by omega), hEs.i r k (by omega)]
          rw [g 50 x (by omega), g 137 x (by omega)]
          refine ⟨j1, ?_⟩
          rcases j2 with j2 | ⟨j2, j3⟩
          · exact Or.inl j2
          · exact Or.inr ⟨j2, j3.cg (fun j _ => g _ _ (by omega)) (fun j _ => g _ _ (by omega))⟩
  · have : Wp (f_Mo_back x σ) fun r' σ2 => (-1 : Int) = r' ∧ Inv σ2 := by
      unfold f_Mo_back
      exact wp_b0 (x_isIn _ _ _ _) (by omega) (wp_t rfl (wp_some ⟨rfl, hI⟩))
    unfold f_Mo_back at this
    by_cases h3 : x < 0
    · exact wp_t h3 (wp_some (wp_some this))
    · exact wp_f h3 (wp_t (by omega) (wp_some (wp_some this)))
