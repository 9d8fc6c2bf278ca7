/-! report -/
set_option maxHeartbeats 20000000 in
theorem y_report (a b m w : Int) : MP (f_Qu_report a b m w) (f_Mo_report a b m w) := by
  rintro σ ⟨ld, bk, hok, hL, hM, hEA, hRO, hLY, hRP, hTA⟩
  have hI : Inv σ := ⟨ld, bk, hok, hL, hM, hEA, hRO, hLY, hRP, hTA⟩
  obtain ⟨n, p1, p2, p3, p4, p5, p6, p7⟩ := id hRP
  unfold f_Qu_report f_Mo_report
  by_cases hc : cplB ld a b m
  · refine wp_eq ((x_couple hok hL a b m).1 hc) ?_
    obtain ⟨a', b', m', rfl, rfl, rfl, hcp⟩ := cplB_nat hok hc
    refine wp_f (by omega) ?_
    by_cases hw : 0 ≤ w ∧ w ≤ 2
    · refine wp_f (by omega) (wp_t (by omega) (wp_ob ?_))
      unfold f_Rp_tell
      rw [p2]
      refine wp_f (by omega) ?_
      by_cases hn : n < 30
      · refine wp_t (by omega) (wp_oc (by omega) (wp_os ?_))
        rw [Int.toNat_natCast]
        have e5 : gi (si σ 80 n (gi σ 79 2)) 79 3 = n := by simp (disch := omega) only [gi_same, gi_ne_r, gi_ne_k, gi_sr_same, gi_sr_ne, gj_sj_same, gj_sj_ne_r, gj_sj_ne_k, gj_si, gi_sj, gj_sr, iwc, jwc, Int.toNat_natCast, tdn, tmn, b0, b1, yc0, yc1, p2]
        have e52 : gi (si σ 80 n (gi σ 79 2)) 81 n = gi σ 81 n := by simp (disch := omega) only [gi_same, gi_ne_r, gi_ne_k, gi_sr_same, gi_sr_ne, gj_sj_same, gj_sj_ne_r, gj_sj_ne_k, gj_si, gi_sj, gj_sr, iwc, jwc, Int.toNat_natCast, tdn, tmn, b0, b1, yc0, yc1]
        rw [e5, Int.toNat_natCast]
        refine wp_oc (by omega) (wp_os ?_)
        have hE8 : EqP (fun r k => (r = 80 ∨ r = 81) ∧ k = n) σ (si (si σ 80 n (gi σ 79 2)) 81 n (-1)) := by repeat (first | exact EqP.rf _ _ | (refine EqP.si ?_ _ _ _ (by omega)) | (refine EqP.sj ?_ _ _ _ (by omega)) | (refine EqP.sr ?_ _ _ (fun k => by omega)))
        have e80 : gi (si (si σ 80 n (gi σ 79 2)) 81 n (-1)) 80 n = gi σ 79 2 := by simp (disch := omega) only [gi_same, gi_ne_r, gi_ne_k, gi_sr_same, gi_sr_ne, gj_sj_same, gj_sj_ne_r, gj_sj_ne_k, gj_si, gi_sj, gj_sr, iwc, jwc, Int.toNat_natCast, tdn, tmn, b0, b1, yc0, yc1]
        have e81 : gi (si (si σ 80 n (gi σ 79 2)) 81 n (-1)) 81 n = -1 := by simp (disch := omega) only [gi_same, gi_ne_r, gi_ne_k, gi_sr_same, gi_sr_ne, gj_sj_same, gj_sj_ne_r, gj_sj_ne_k, gj_si, gi_sj, gj_sr, iwc, jwc, Int.toNat_natCast, tdn, tmn, b0, b1, yc0, yc1]
        generalize si (si σ 80 n (gi σ 79 2)) 81 n (-1) = s8 at hE8 e80 e81 ⊢
        refine wp_call (x_toldC hok (hL.of hE8 (fun r k z => by omega)) hcp rfl) ?_
        rintro r10 s10 ⟨rfl, hE10⟩
        have hrel := l60_rel hok (gi ld 11) hcp
        obtain ⟨v, hv, hbs⟩ := x_roadsBy (l60 ld (gi ld 11) a' b' m') (olP ld (gi ld 11) a' b' m') hrel w hw s10
        have e8 : gi s8 79 3 = n := by rw [hE8.i _ _ (by omega)]; exact p2
        refine wp_eq hv ?_
        rw [e8, Int.toNat_natCast]
        refine wp_oc (by omega) (wp_os (wp_os ?_))
        have e13 : gi (sj s10 82 n v) 79 3 = n := by simp (disch := omega) only [gi_same, gi_ne_r, gi_ne_k, gi_sr_same, gi_sr_ne, gj_sj_same, gj_sj_ne_r, gj_sj_ne_k, gj_si, gi_sj, gj_sr, iwc, jwc, Int.toNat_natCast, tdn, tmn, b0, b1, yc0, yc1]; rw [hE10.i _ _ (by omega)]; exact e8
        rw [e13, iwc (x := (n : Int) + 1) (by omega) (by omega)]
        have e14 : gi (si (sj s10 82 n v) 79 3 ((n : Int) + 1)) 79 3 = (n : Int) + 1 := gi_same _ _ _ _
        rw [e14, iwc (x := (n : Int) + 1 - 1) (by omega) (by omega)]
        refine wp_some (wp_some ?_)
        -- the class's new rows
        have hEc : EqP (fun r k => (r = 80 ∨ r = 81 ∨ r = 82) ∧ k = n ∨ r = 79 ∧ k = 3 ∨ PTk 83 r k) σ (si (sj s10 82 n v) 79 3 ((n : Int) + 1)) := EqP.si (EqP.sj ((hE8.mo (fun r k h => by omega)).tr (hE10.mo (fun r k h => by omega))) _ _ _ (by omega)) _ _ _ (by omega)
        have c80 : gi (si (sj s10 82 n v) 79 3 ((n : Int) + 1)) 80 n = gi σ 79 2 := by simp (disch := omega) only [gi_same, gi_ne_r, gi_ne_k, gi_sr_same, gi_sr_ne, gj_sj_same, gj_sj_ne_r, gj_sj_ne_k, gj_si, gi_sj, gj_sr, iwc, jwc, Int.toNat_natCast, tdn, tmn, b0, b1, yc0, yc1]; rw [hE10.i _ _ (by omega)]; exact e80
        have c81 : gi (si (sj s10 82 n v) 79 3 ((n : Int) + 1)) 81 n = -1 := by simp (disch := omega) only [gi_same, gi_ne_r, gi_ne_k, gi_sr_same, gi_sr_ne, gj_sj_same, gj_sj_ne_r, gj_sj_ne_k, gj_si, gi_sj, gj_sr, iwc, jwc, Int.toNat_natCast, tdn, tmn, b0, b1, yc0, yc1]; rw [hE10.i _ _ (by omega)]; exact e81
        have c82 : gj (si (sj s10 82 n v) 79 3 ((n : Int) + 1)) 82 n = v := by simp (disch := omega) only [gi_same, gi_ne_r, gi_ne_k, gi_sr_same, gi_sr_ne, gj_sj_same, gj_sj_ne_r, gj_sj_ne_k, gj_si, gi_sj, gj_sr, iwc, jwc, Int.toNat_natCast, tdn, tmn, b0, b1, yc0, yc1]
        generalize si (sj s10 82 n v) 79 3 ((n : Int) + 1) = s14 at e14 hEc c80 c81 c82 ⊢
        have hM14 := hM.of hEc (fun r k z => by omega)
        refine wp_eq ((x_isCoupleM hok hM14 _ _ _).1 hc) (wp_f (by decide) ?_)
        refine wp_b1 (x_isIn _ _ _ _) (by omega) (wp_f (by decide) ?_)
        have m79 : gi s14 86 79 = n := by rw [hEc.i _ _ (by omega)]; exact p3
        refine wp_f (by omega) ?_
        refine wp_call (x_toldM hok hM14 hcp (by rw [hEc.i _ _ (by omega)]; exact hTA.2.2.2.2.2.2)) ?_
        rintro r7 s7 ⟨rfl, h54, hE7⟩
        rw [m79, Int.toNat_natCast]
        have m79' : gi s7 86 79 = n := by rw [hE7.i _ _ (by omega)]; exact m79
        have m80' : gi s7 86 80 = gi σ 79 2 := by rw [hE7.i _ _ (by omega), hEc.i _ _ (by omega)]; exact p4.symm
        refine wp_oc (by omega) (wp_os ?_)
        have f9 : gi (si s7 131 n (olP ld (gi ld 11) a' b' m')) 86 79 = n := by simp (disch := omega) only [gi_same, gi_ne_r, gi_ne_k, gi_sr_same, gi_sr_ne, gj_sj_same, gj_sj_ne_r, gj_sj_ne_k, gj_si, gi_sj, gj_sr, iwc, jwc, Int.toNat_natCast, tdn, tmn, b0, b1, yc0, yc1, m79']
        rw [f9, Int.toNat_natCast]
        refine wp_oc (by omega) (wp_os ?_)
        have f12 : gi (si (si s7 131 n (olP ld (gi ld 11) a' b' m')) 132 n w) 86 79 = n := by simp (disch := omega) only [gi_same, gi_ne_r, gi_ne_k, gi_sr_same, gi_sr_ne, gj_sj_same, gj_sj_ne_r, gj_sj_ne_k, gj_si, gi_sj, gj_sr, iwc, jwc, Int.toNat_natCast, tdn, tmn, b0, b1, yc0, yc1, m79']
        have f12b : gi (si (si s7 131 n (olP ld (gi ld 11) a' b' m')) 132 n w) 86 80 = gi σ 79 2 := by simp (disch := omega) only [gi_same, gi_ne_r, gi_ne_k, gi_sr_same, gi_sr_ne, gj_sj_same, gj_sj_ne_r, gj_sj_ne_k, gj_si, gi_sj, gj_sr, iwc, jwc, Int.toNat_natCast, tdn, tmn, b0, b1, yc0, yc1, m80']
        rw [f12, f12b, Int.toNat_natCast]
        refine wp_oc (by omega) (wp_os ?_)
        have f15 : gi (si (si (si s7 131 n (olP ld (gi ld 11) a' b' m')) 132 n w) 133 n (gi σ 79 2)) 86 79 = n := by simp (disch := omega) only [gi_same, gi_ne_r, gi_ne_k, gi_sr_same, gi_sr_ne, gj_sj_same, gj_sj_ne_r, gj_sj_ne_k, gj_si, gi_sj, gj_sr, iwc, jwc, Int.toNat_natCast, tdn, tmn, b0, b1, yc0, yc1, m79']
        rw [f15, Int.toNat_natCast]
        refine wp_oc (by omega) (wp_os (wp_os ?_))
        have f18 : gi (si (si (si (si s7 131 n (olP ld (gi ld 11) a' b' m')) 132 n w) 133 n (gi σ 79 2)) 134 n (-1)) 86 79 = n := by simp (disch := omega) only [gi_same, gi_ne_r, gi_ne_k, gi_sr_same, gi_sr_ne, gj_sj_same, gj_sj_ne_r, gj_sj_ne_k, gj_si, gi_sj, gj_sr, iwc, jwc, Int.toNat_natCast, tdn, tmn, b0, b1, yc0, yc1, m79']
        rw [f18, iwc (x := (n : Int) + 1) (by omega) (by omega), gi_same, iwc (x := (n : Int) + 1 - 1) (by omega) (by omega)]
        have hEm : EqP (fun r k => (r = 131 ∨ r = 132 ∨ r = 133 ∨ r = 134) ∧ k = n ∨ r = 86 ∧ k = 79 ∨ PTo r k) s14 (si (si (si (si (si s7 131 n (olP ld (gi ld 11) a' b' m')) 132 n w) 133 n (gi σ 79 2)) 134 n (-1)) 86 79 ((n : Int) + 1)) := by
          refine EqP.si (EqP.si (EqP.si (EqP.si (EqP.si (hE7.mo (fun r k h => by omega)) _ _ _ (by omega)) _ _ _ (by omega)) _ _ _ (by omega)) _ _ _ (by omega)) _ _ _ (by omega)
        have d131 : gi (si (si (si (si (si s7 131 n (olP ld (gi ld 11) a' b' m')) 132 n w) 133 n (gi σ 79 2)) 134 n (-1)) 86 79 ((n : Int) + 1)) 131 n = olP ld (gi ld 11) a' b' m' := by simp (disch := omega) only [gi_same, gi_ne_r, gi_ne_k, gi_sr_same, gi_sr_ne, gj_sj_same, gj_sj_ne_r, gj_sj_ne_k, gj_si, gi_sj, gj_sr, iwc, jwc, Int.toNat_natCast, tdn, tmn, b0, b1, yc0, yc1]
        have d132 : gi (si (si (si (si (si s7 131 n (olP ld (gi ld 11) a' b' m')) 132 n w) 133 n (gi σ 79 2)) 134 n (-1)) 86 79 ((n : Int) + 1)) 132 n = w := by simp (disch := omega) only [gi_same, gi_ne_r, gi_ne_k, gi_sr_same, gi_sr_ne, gj_sj_same, gj_sj_ne_r, gj_sj_ne_k, gj_si, gi_sj, gj_sr, iwc, jwc, Int.toNat_natCast, tdn, tmn, b0, b1, yc0, yc1]
        have d133 : gi (si (si (si (si (si s7 131 n (olP ld (gi ld 11) a' b' m')) 132 n w) 133 n (gi σ 79 2)) 134 n (-1)) 86 79 ((n : Int) + 1)) 133 n = gi σ 79 2 := by simp (disch := omega) only [gi_same, gi_ne_r, gi_ne_k, gi_sr_same, gi_sr_ne, gj_sj_same, gj_sj_ne_r, gj_sj_ne_k, gj_si, gi_sj, gj_sr, iwc, jwc, Int.toNat_natCast, tdn, tmn, b0, b1, yc0, yc1]
        have d134 : gi (si (si (si (si (si s7 131 n (olP ld (gi ld 11) a' b' m')) 132 n w) 133 n (gi σ 79 2)) 134 n (-1)) 86 79 ((n : Int) + 1)) 134 n = -1 := by simp (disch := omega) only [gi_same, gi_ne_r, gi_ne_k, gi_sr_same, gi_sr_ne, gj_sj_same, gj_sj_ne_r, gj_sj_ne_k, gj_si, gi_sj, gj_sr, iwc, jwc, Int.toNat_natCast, tdn, tmn, b0, b1, yc0, yc1]
        have d79 : gi (si (si (si (si (si s7 131 n (olP ld (gi ld 11) a' b' m')) 132 n w) 133 n (gi σ 79 2)) 134 n (-1)) 86 79 ((n : Int) + 1)) 86 79 = (n : Int) + 1 := gi_same _ _ _ _
        have d54 : gi (si (si (si (si (si s7 131 n (olP ld (gi ld 11) a' b' m')) 132 n w) 133 n (gi σ 79 2)) 134 n (-1)) 86 79 ((n : Int) + 1)) 86 54 = 0 := by simp (disch := omega) only [gi_same, gi_ne_r, gi_ne_k, gi_sr_same, gi_sr_ne, gj_sj_same, gj_sj_ne_r, gj_sj_ne_k, gj_si, gi_sj, gj_sr, iwc, jwc, Int.toNat_natCast, tdn, tmn, b0, b1, yc0, yc1]; exact h54
        generalize si (si (si (si (si s7 131 n (olP ld (gi ld 11) a' b' m')) 132 n w) 133 n (gi σ 79 2)) 134 n (-1)) 86 79 ((n : Int) + 1) = τ at hEm d131 d132 d133 d134 d79 d54 ⊢
        refine wp_some ⟨rfl, ?_⟩
        have hEt : EqP (fun r k => (r = 80 ∨ r = 81 ∨ r = 82) ∧ k = n ∨ r = 79 ∧ k = 3 ∨ PTk 83 r k ∨ (r = 131 ∨ r = 132 ∨ r = 133 ∨ r = 134) ∧ k = n ∨ r = 86 ∧ k = 79 ∨ PTo r k) σ τ := (hEc.mo (fun r k h => by omega)).tr (hEm.mo (fun r k h => by omega))
        refine ⟨ld, bk, hok, hL.of hEt (fun r k z => by omega), hM.of hEt (fun r k z => by omega), hEA.of (fun r k z => hEt.i r k (by omega)), hRO.of (fun r k z => hEt.i r k (by omega)), hLY.of (fun r k z => hEt.i r k (by omega)), ⟨n + 1, by omega, ?_, ?_, ?_, ?_, ?_, fun i hi => ?_⟩, ?_⟩
        · rw [hEm.i _ _ (by omega), e14]; rfl
        · rw [d79]; rfl
        · rw [hEt.i 79 2 (by omega), hEt.i 86 80 (by omega)]; exact p4
        · rw [hEt.i 79 2 (by omega)]; exact p5
        · rw [hEt.i 79 2 (by omega)]; exact p6
        · by_cases hin : i = n
          · subst hin
            rw [hEm.i 80 _ (by omega), hEm.i 81 _ (by omega), hEm.j 82 _ (by omega), c80, c81, c82, d131, d132, d133, d134]
            refine ⟨⟨rfl, p5⟩, ⟨rfl, by omega⟩, ?_, hw, hbs⟩
            rcases hrel with h | h <;> omega
          · rw [hEt.i 80 _ (by omega), hEt.i 81 _ (by omega), hEt.i 131 _ (by omega), hEt.i 132 _ (by omega), hEt.i 133 _ (by omega), hEt.i 134 _ (by omega), hEt.j 82 _ (by omega)]
            exact p7 i (by omega)
        · obtain ⟨q1, q2, q3, q4, q5, q6, q7⟩ := hTA
          refine ⟨?_, ?_, ?_, fun i hi => ?_, ?_, ?_, d54⟩
          · rw [hEt.i 0 1 (by omega), hEt.i 86 2 (by omega)]; exact q1
          · rw [hEt.i 0 1 (by omega)]; exact q2
          · rw [hEt.i 0 1 (by omega)]; exact q3
          · rw [hEt.i 1 i (by omega), hEt.i 87 i (by omega)]; exact q4 i hi
          · rw [hEt.i 42 2 (by omega), hEt.i 86 4 (by omega)]; exact q5
          · rw [hEt.i 42 3 (by omega), hEt.i 86 5 (by omega)]; exact q6
      · refine wp_f (by omega) (wp_some (wp_some ?_))
        refine wp_eq ((x_isCoupleM hok hM _ _ _).1 hc) (wp_f (by decide) ?_)
        refine wp_b1 (x_isIn _ _ _ _) (by omega) (wp_f (by decide) ?_)
        exact wp_t (by omega) (wp_some ⟨rfl, hI⟩)
    · have : Wp (f_Mo_report a' b' m' w σ) fun r' σ2 => (-1 : Int) = r' ∧ Inv σ2 := by
        unfold f_Mo_report
        refine wp_eq ((x_isCoupleM hok hM _ _ _).1 hc) (wp_f (by decide) ?_)
        exact wp_b0 (x_isIn _ _ _ _) (by omega) (wp_t rfl (wp_some ⟨rfl, hI⟩))
      unfold f_Mo_report at this
      by_cases h3 : w < 0
      · exact wp_t h3 (wp_some this)
      · exact wp_f h3 (wp_f (by omega) (wp_some this))
  · refine wp_eq ((x_couple hok hL a b m).2 hc) (wp_t rfl (wp_some ?_))
    exact wp_eq ((x_isCoupleM hok hM a b m).2 hc) (wp_t rfl (wp_some ⟨rfl, hI⟩))
