/-! feed -/
noncomputable def byF (v : Int) (s : Int) : Int := zi2b (zi2b (zshr v s))
theorem byF_rng (v s : Int) : -128 ≤ byF v s ∧ byF v s < 128 := by
  unfold byF
  rw [zi2b_def (zi2b (zshr v s))]
  have h1 := Int8.toInt_lt (vI (zi2b (zshr v s))).toInt8
  have h2 := Int8.le_toInt (vI (zi2b (zshr v s))).toInt8
  omega
theorem x_tape1 (v x : Int) (σ : SS) (T : Nat) (hT : gi σ 0 1 = T) (h16 : T < 1600) (hx : 0 ≤ x ∧ x ≤ 24) (fu : Nat) : l_Qu_tapeNumber_3 v (fu + 1) x σ = l_Qu_tapeNumber_3 v fu (x - 8) (si (si σ 1 T (byF v x)) 0 1 ((T + 1 : Nat) : Int)) := by
  have e : gi (si σ 1 T (zi2b (zi2b (zshr v x)))) 0 1 = T := by simp (disch := omega) only [gi_same, gi_ne_r, gi_ne_k, gi_sr_same, gi_sr_ne, gj_sj_same, gj_sj_ne_r, gj_sj_ne_k, gj_si, gi_sj, gj_sr, iwc, jwc, Int.toNat_natCast, tdn, tmn, b0, b1, yc0, yc1, hT]
  rw [l_Qu_tapeNumber_3, if_neg (by omega), hT, if_neg (by omega), if_neg (by omega), oc_pos (by omega), os_eq, Int.toNat_natCast, e, os_eq, iwc (x := (T : Int) + 1) (by omega) (by omega), iwc (x := x + -8) (by omega) (by omega), show x + -8 = x - 8 by omega, show (T : Int) + 1 = ((T + 1 : Nat) : Int) by omega]
  rfl
theorem x_tapeN (v : Int) (σ : SS) (T : Nat) (hT : gi σ 0 1 = T) (h16 : T + 4 ≤ 1600) : Wp (f_Qu_tapeNumber v σ) fun _ τ => gi τ 0 1 = ((T + 4 : Nat) : Int) ∧ (∀ j, j < 4 → gi τ 1 (T + j) = byF v (24 - 8 * (j : Int))) ∧ EqP (fun r k => r = 0 ∧ k = 1 ∨ r = 1 ∧ T ≤ k ∧ k < T + 4) σ τ := by
  obtain ⟨f, hf⟩ : ∃ f, FU = f + 1 + 1 + 1 + 1 + 1 := ⟨FU - 5, by unfold FU; omega⟩
  unfold f_Qu_tapeNumber
  rw [hf, x_tape1 v 24 σ T hT (by omega) (by omega), x_tape1 v _ _ (T + 1) (gi_same _ _ _ _) (by omega) (by omega), x_tape1 v _ _ (T + 1 + 1) (gi_same _ _ _ _) (by omega) (by omega), x_tape1 v _ _ (T + 1 + 1 + 1) (gi_same _ _ _ _) (by omega) (by omega), l_Qu_tapeNumber_3]
  refine wp_t (by omega) (wp_some ⟨?_, ?_, ?_⟩)
  · rw [gi_same]
  · intro j hj
    have h4 : j = 0 ∨ j = 1 ∨ j = 2 ∨ j = 3 := by omega
    rcases h4 with rfl | rfl | rfl | rfl
    · simp (disch := omega) only [gi_same, gi_ne_r, gi_ne_k, gi_sr_same, gi_sr_ne, gj_sj_same, gj_sj_ne_r, gj_sj_ne_k, gj_si, gi_sj, gj_sr, iwc, jwc, Int.toNat_natCast, tdn, tmn, b0, b1, yc0, yc1, Nat.add_zero]; rfl
    · simp (disch := omega) only [gi_same, gi_ne_r, gi_ne_k, gi_sr_same, gi_sr_ne, gj_sj_same, gj_sj_ne_r, gj_sj_ne_k, gj_si, gi_sj, gj_sr, iwc, jwc, Int.toNat_natCast, tdn, tmn, b0, b1, yc0, yc1]; rfl
    · simp (disch := omega) only [gi_same, gi_ne_r, gi_ne_k, gi_sr_same, gi_sr_ne, gj_sj_same, gj_sj_ne_r, gj_sj_ne_k, gj_si, gi_sj, gj_sr, iwc, jwc, Int.toNat_natCast, tdn, tmn, b0, b1, yc0, yc1]; rfl
    · simp (disch := omega) only [gi_same, gi_ne_r, gi_ne_k, gi_sr_same, gi_sr_ne, gj_sj_same, gj_sj_ne_r, gj_sj_ne_k, gj_si, gi_sj, gj_sr, iwc, jwc, Int.toNat_natCast, tdn, tmn, b0, b1, yc0, yc1]; rfl
  · repeat (first | exact EqP.rf _ _ | (refine EqP.si ?_ _ _ _ (by omega)) | (refine EqP.sj ?_ _ _ _ (by omega)) | (refine EqP.sr ?_ _ _ (fun k => by omega)))
noncomputable def arF (a b c d e : Int) (k : Nat) : Int := if k < 4 then a else if k < 8 then b else if k < 12 then c else if k < 16 then d else e
theorem and3_all : ∀ k, k < 20 → (vI ((k : Nat) : Int) &&& vI 3).toInt = ((k % 4 : Nat) : Int) := by decide +kernel
theorem x_feedM (a b c d e : Int) (T : Nat) (h16 : T + 20 ≤ 1600) (σ0 : SS) :
    ∀ (r k fu : Nat) (σ : SS), k + r = 20 → r < fu → gi σ 86 2 = T → EqP (fun r k => r = 86 ∧ k = 2 ∨ r = 87 ∧ T ≤ k ∧ k < T + 20) σ0 σ → (∀ j, j < k → gi σ 87 (T + j) = byF (arF a b c d e j) (24 - 8 * ((j % 4 : Nat) : Int))) → Wp (l_Mo_feed_18 a b c d e fu k σ) fun v τ => v = ((T + 20 : Nat) : Int) ∧ gi τ 86 2 = ((T + 20 : Nat) : Int) ∧ EqP (fun r k => r = 86 ∧ k = 2 ∨ r = 87 ∧ T ≤ k ∧ k < T + 20) σ0 τ ∧ ∀ j, j < 20 → gi τ 87 (T + j) = byF (arF a b c d e j) (24 - 8 * ((j % 4 : Nat) : Int)) := by
  intro r
  induction r with
  | zero =>
    intro k fu σ hk hfu hT hE hrow
    obtain ⟨fu, rfl⟩ : ∃ f, fu = f + 1 := ⟨fu - 1, by omega⟩
    rw [l_Mo_feed_18]
    refine wp_t (by omega) (wp_os (wp_some ?_))
    rw [hT, iwc (by omega) (by omega), show (T : Int) + 20 = ((T + 20 : Nat) : Int) by omega]
    refine ⟨gi_same _ _ _ _, gi_same _ _ _ _, EqP.si hE _ _ _ (by omega), fun j hj => ?_⟩
    simp (disch := omega) only [gi_same, gi_ne_r, gi_ne_k, gi_sr_same, gi_sr_ne, gj_sj_same, gj_sj_ne_r, gj_sj_ne_k, gj_si, gi_sj, gj_sr, iwc, jwc, Int.toNat_natCast, tdn, tmn, b0, b1, yc0, yc1]
    exact hrow j (by omega)
  | succ r ih =>
    intro k fu σ hk hfu hT hE hrow
    obtain ⟨fu, rfl⟩ : ∃ f, fu = f + 1 := ⟨fu - 1, by omega⟩
    have step : ∀ z, z = arF a b c d e k → Wp (j_Mo_feed_71 (l_Mo_feed_18 a b c d e fu) a b c d e k z σ) fun v τ => v = ((T + 20 : Nat) : Int) ∧ gi τ 86 2 = ((T + 20 : Nat) : Int) ∧ EqP (fun r k => r = 86 ∧ k = 2 ∨ r = 87 ∧ T ≤ k ∧ k < T + 20) σ0 τ ∧ ∀ j, j < 20 → gi τ 87 (T + j) = byF (arF a b c d e j) (24 - 8 * ((j % 4 : Nat) : Int)) := by
      intro z hz
      unfold j_Mo_feed_71
      have ez : zand (k : Int) 3 = ((k % 4 : Nat) : Int) := by rw [zand_def]; exact and3_all k (by omega)
      rw [hT, ez, iwc (x := (T : Int) + (k : Int)) (by omega) (by omega), iwc (x := 8 * ((k % 4 : Nat) : Int)) (by omega) (by omega), iwc (x := 24 - 8 * ((k % 4 : Nat) : Int)) (by omega) (by omega), show iw ((k : Int) + 1) = ((k + 1 : Nat) : Int) by rw [iwc (by omega) (by omega)]; omega]
      refine wp_oc (by omega) (wp_os ?_)
      rw [tn (x := (T : Int) + (k : Int)) (T + k) (by omega)]
      refine ih (k + 1) fu _ (by omega) (by omega) (by simp (disch := omega) only [gi_same, gi_ne_r, gi_ne_k, gi_sr_same, gi_sr_ne, gj_sj_same, gj_sj_ne_r, gj_sj_ne_k, gj_si, gi_sj, gj_sr, iwc, jwc, Int.toNat_natCast, tdn, tmn, b0, b1, yc0, yc1]; exact hT) (EqP.si hE _ _ _ (by omega)) (fun j hj => ?_)
      by_cases hjk : j = k
      · rw [hjk, gi_same, hz]; rfl
      · rw [gi_ne_k _ _ _ _ (by omega)]; exact hrow j (by omega)
    rw [l_Mo_feed_18]
    refine wp_f (by omega) ?_
    unfold arF at step
    by_cases h4 : k < 4
    · exact wp_f (by omega) (step a (by rw [if_pos h4]))
    · refine wp_t (by omega) ?_
      by_cases h8 : k < 8
      · exact wp_f (by omega) (step b (by rw [if_neg h4, if_pos h8]))
      · refine wp_t (by omega) ?_
        by_cases h12 : k < 12
        · exact wp_f (by omega) (step c (by rw [if_neg h4, if_neg h8, if_pos h12]))
        · refine wp_t (by omega) ?_
          by_cases h16 : k < 16
          · exact wp_f (by omega) (step d (by rw [if_neg h4, if_neg h8, if_neg h12, if_pos h16]))
          · exact wp_t (by omega) (step e (by rw [if_neg h4, if_neg h8, if_neg h12, if_neg h16]))
theorem y_feed (a b c d e : Int) : MP (f_Qu_feed a b c d e) (f_Mo_feed a b c d e) := by
  rintro σ ⟨ld, bk, hok, hL, hM, hEA, hRO, hLY, hRP, hTA⟩
  have hI : Inv σ := ⟨ld, bk, hok, hL, hM, hEA, hRO, hLY, hRP, hTA⟩
  obtain ⟨t1, t2, t3', t4, t5, t6, t7⟩ := id hTA
  obtain ⟨T, hT⟩ : ∃ T : Nat, gi σ 0 1 = T := ⟨(gi σ 0 1).toNat, by omega⟩
  unfold f_Qu_feed f_Mo_feed
  by_cases h : T ≤ 1580
  · refine wp_t (by omega) ?_
    refine wp_call (x_tapeN a σ T hT (by omega)) ?_
    rintro _ s2 ⟨g2, b2, hE2⟩
    refine wp_call (x_tapeN b s2 (T + 4) g2 (by omega)) ?_
    rintro _ s3 ⟨g3, b3, hE3⟩
    refine wp_call (x_tapeN c s3 (T + 4 + 4) g3 (by omega)) ?_
    rintro _ s4 ⟨g4, b4, hE4⟩
    refine wp_call (x_tapeN d s4 (T + 4 + 4 + 4) g4 (by omega)) ?_
    rintro _ s5 ⟨g5, b5, hE5⟩
    refine wp_call (x_tapeN e s5 (T + 4 + 4 + 4 + 4) g5 (by omega)) ?_
    rintro _ s6 ⟨g6, b6, hE6⟩
    refine wp_some ?_
    have hEc : EqP (fun r k => r = 0 ∧ k = 1 ∨ r = 1 ∧ T ≤ k ∧ k < T + 20) σ s6 := ((((hE2.mo (fun r k h => by omega)).tr (hE3.mo (fun r k h => by omega))).tr (hE4.mo (fun r k h => by omega))).tr (hE5.mo (fun r k h => by omega))).tr (hE6.mo (fun r k h => by omega))
    have hrow : ∀ j, j < 20 → gi s6 1 (T + j) = byF (arF a b c d e j) (24 - 8 * ((j % 4 : Nat) : Int)) := by
      intro j hj
      unfold arF
      by_cases h4 : j < 4
      · rw [if_pos h4, hE6.i _ _ (by omega), hE5.i _ _ (by omega), hE4.i _ _ (by omega), hE3.i _ _ (by omega), b2 j h4, show j % 4 = j by omega]
      · rw [if_neg h4]
        by_cases h8 : j < 8
        · rw [if_pos h8, hE6.i _ _ (by omega), hE5.i _ _ (by omega), hE4.i _ _ (by omega), show T + j = T + 4 + (j - 4) by omega, b3 (j - 4) (by omega), show j % 4 = j - 4 by omega]
        · rw [if_neg h8]
          by_cases h12 : j < 12
          · rw [if_pos h12, hE6.i _ _ (by omega), hE5.i _ _ (by omega), show T + j = T + 4 + 4 + (j - 8) by omega, b4 (j - 8) (by omega), show j % 4 = j - 8 by omega]
          · rw [if_neg h12]
            by_cases h16 : j < 16
            · rw [if_pos h16, hE6.i _ _ (by omega), show T + j = T + 4 + 4 + 4 + (j - 12) by omega, b5 (j - 12) (by omega), show j % 4 = j - 12 by omega]
            · rw [if_neg h16, show T + j = T + 4 + 4 + 4 + 4 + (j - 16) by omega, b6 (j - 16) (by omega), show j % 4 = j - 16 by omega]
    have m2 : gi s6 86 2 = T := by rw [hEc.i _ _ (by omega), ← t1]; exact hT
    refine wp_t (by rw [m2, iwc (by omega) (by omega)]; omega) ?_
    refine wp_mono (x_feedM a b c d e T (by omega) s6 20 0 FU s6 (by omega) (by unfold FU; omega) m2 (EqP.rf _ _) (fun j hj => by omega)) ?_
    rintro v τ ⟨rfl, h2, hEm, hrm⟩
    have hEt : EqP (fun r k => r = 0 ∧ k = 1 ∨ r = 1 ∧ T ≤ k ∧ k < T + 20 ∨ r = 86 ∧ k = 2 ∨ r = 87 ∧ T ≤ k ∧ k < T + 20) σ τ := (hEc.mo (fun r k h => by omega)).tr (hEm.mo (fun r k h => by omega))
    have g01 : gi τ 0 1 = ((T + 20 : Nat) : Int) := by rw [hEm.i _ _ (by omega), g6]
    refine ⟨by rw [g6], ld, bk, hok, hL.of hEt (fun r k z => by omega), hM.of hEt (fun r k z => by omega), hEA.of (fun r k z => hEt.i r k (by omega)), hRO.of (fun r k z => hEt.i r k (by omega)), hLY.of (fun r k z => hEt.i r k (by omega)), hRP.of (fun r k z => hEt r k (by omega)), ?_⟩
    refine ⟨by rw [g01, h2], by rw [g01]; omega, by rw [g01]; omega, fun i hi => ?_, ?_, ?_, ?_⟩
    · by_cases hin : T ≤ i ∧ i < T + 20
      · have e1 : gi τ 1 i = byF (arF a b c d e (i - T)) (24 - 8 * (((i - T) % 4 : Nat) : Int)) := by
          rw [hEm.i _ _ (by omega), show i = T + (i - T) by omega, hrow (i - T) (by omega), show T + (i - T) - T = i - T by omega]
        have e2 : gi τ 87 i = byF (arF a b c d e (i - T)) (24 - 8 * (((i - T) % 4 : Nat) : Int)) := by
          rw [show i = T + (i - T) by omega, hrm (i - T) (by omega), show T + (i - T) - T = i - T by omega]
        rw [e1, e2]
        exact ⟨rfl, byF_rng _ _⟩
      · rw [hEt.i 1 i (by omega), hEt.i 87 i (by omega)]; exact t4 i hi
    · rw [hEt.i _ _ (by omega), hEt.i 86 4 (by omega)]; exact t5
    · rw [hEt.i _ _ (by omega), hEt.i 86 5 (by omega)]; exact t6
    · rw [hEt.i _ _ (by omega)]; exact t7
  · exact wp_f (by omega) (wp_some (wp_f (by rw [← t1, hT, iwc (by omega) (by omega)]; omega) (wp_some ⟨rfl, hI⟩)))
