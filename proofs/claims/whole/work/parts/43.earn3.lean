theorem y_take (y : Int) : MP (f_Qu_take y) (f_Mo_take y) := by
  rintro σ ⟨ld, bk, hok, hL, hM, hEA, hRO, hLY, hRP, hTA⟩
  have hI : Inv σ := ⟨ld, bk, hok, hL, hM, hEA, hRO, hLY, hRP, hTA⟩
  have l4 := hok.2.1
  unfold f_Qu_take f_Mo_take f_Ea_takeWay
  refine wp_ob ?_
  rcases hEA.1.w01 with h0 | h0
  · refine wp_t h0 (wp_some (wp_some ?_))
    exact wp_b0 (doWalk_eq hEA.1) (by omega) (wp_t rfl (wp_some ⟨rfl, hI⟩))
  rw [cv13] at h0
  obtain ⟨a, b, m, q, hcp, hq, hT, hTM, e5, e6, e7, hpl, hwy⟩ := SR_get hEA.1 h0
  refine wp_f (by omega) ?_
  -- the reference, where it can't be
  have no : ((0 ≤ y ∧ y < gi ld 2 4) → 0 ≤ gi σ 118 17 ∨ ovB q = true ∨ oth ld y (gi σ 118 16) < 0) → Wp (f_Mo_take y σ) fun r' σ2 => (-1 : Int) = r' ∧ Inv σ2 := by
    intro hn
    unfold f_Mo_take
    refine wp_b1 (doWalk_eq hEA.1) h0 (wp_f (by decide) ?_)
    by_cases hy : 0 ≤ y ∧ y < gi ld 2 4
    · refine wp_b1 (x_isWayM hok hM y) hy (wp_f (by decide) ?_)
      by_cases h17 : 0 ≤ gi σ 118 17
      · exact wp_t h17 (wp_some ⟨rfl, hI⟩)
      · refine wp_f h17 ?_
        by_cases ho : ovB q = true
        · exact wp_b1 (x_overM (Or.inl rfl) hTM) ho (wp_f (by decide) (wp_some ⟨rfl, hI⟩))
        · refine wp_b0 (x_overM (Or.inl rfl) hTM) ho (wp_t rfl ?_)
          refine wp_eq (x_otherM hok hM hy _) ?_
          rcases hn hy with z | z | z
          · exact absurd z h17
          · exact absurd z ho
          · exact wp_f (by omega) (wp_some ⟨rfl, hI⟩)
    · exact wp_b0 (x_isWayM hok hM y) hy (wp_t rfl (wp_some ⟨rfl, hI⟩))
  unfold f_Mo_take at no
  by_cases h6 : gi σ 46 6 = -1
  · refine wp_t h6 ?_
    by_cases ho : ovB q = true
    · exact wp_b1 (x_overC hT hq) ho (wp_f (by decide) (wp_some (wp_some (no fun _ => Or.inr (Or.inl ho)))))
    · refine wp_b0 (x_overC hT hq) ho (wp_t rfl ?_)
      refine wp_eq (x_otherC hok hL _ _) ?_
      by_cases hn : oth ld y (gi σ 46 5) = -1
      · exact wp_t hn (wp_some (wp_some (no fun _ => Or.inr (Or.inr (by rw [← e5]; omega)))))
      · refine wp_f hn ?_
        have hy : 0 ≤ y ∧ y < gi ld 2 4 := by
          by_cases hy : 0 ≤ y ∧ y < gi ld 2 4
          · exact hy
          · exfalso; apply hn; unfold oth; rw [if_neg hy]
        have hrng := oth_rng hok y (gi σ 46 5)
        have hinc := (oth_val hok (y := y.toNat) (p := gi σ 46 5) (by omega)).mp (by rw [show ((y.toNat : Nat) : Int) = y by omega]; omega)
        have hlen := (hok.wy (y := y.toNat) (by omega)).2.2.2.1
        refine wp_os (wp_os ?_)
        have hE6 : EqP PAc σ (si (si σ 46 6 y) 46 7 0) := by repeat (first | exact EqP.rf _ _ | (refine EqP.si ?_ _ _ _ (by omega)) | (refine EqP.sj ?_ _ _ _ (by omega)) | (refine EqP.sr ?_ _ _ (fun k => by omega)))
        have v4 : gi (si (si σ 46 6 y) 46 7 0) 46 4 = 1 := by simp (disch := omega) only [gi_same, gi_ne_r, gi_ne_k, gi_sr_same, gi_sr_ne, gj_sj_same, gj_sj_ne_r, gj_sj_ne_k, gj_si, gi_sj, gj_sr, iwc, jwc, Int.toNat_natCast, tdn, tmn, b0, b1, yc0, yc1, h0]
        have v5 : gi (si (si σ 46 6 y) 46 7 0) 46 5 = gi σ 46 5 := by simp (disch := omega) only [gi_same, gi_ne_r, gi_ne_k, gi_sr_same, gi_sr_ne, gj_sj_same, gj_sj_ne_r, gj_sj_ne_k, gj_si, gi_sj, gj_sr, iwc, jwc, Int.toNat_natCast, tdn, tmn, b0, b1, yc0, yc1]
        have v6 : gi (si (si σ 46 6 y) 46 7 0) 46 6 = y := by simp (disch := omega) only [gi_same, gi_ne_r, gi_ne_k, gi_sr_same, gi_sr_ne, gj_sj_same, gj_sj_ne_r, gj_sj_ne_k, gj_si, gi_sj, gj_sr, iwc, jwc, Int.toNat_natCast, tdn, tmn, b0, b1, yc0, yc1]
        have v7 : gi (si (si σ 46 6 y) 46 7 0) 46 7 = 0 := by simp (disch := omega) only [gi_same, gi_ne_r, gi_ne_k, gi_sr_same, gi_sr_ne, gj_sj_same, gj_sj_ne_r, gj_sj_ne_k, gj_si, gi_sj, gj_sr, iwc, jwc, Int.toNat_natCast, tdn, tmn, b0, b1, yc0, yc1]
        have hF6 : EqP (fun r k => r = 46 ∧ (k = 6 ∨ k = 7)) σ (si (si σ 46 6 y) 46 7 0) := by repeat (first | exact EqP.rf _ _ | (refine EqP.si ?_ _ _ _ (by omega)) | (refine EqP.sj ?_ _ _ _ (by omega)) | (refine EqP.sr ?_ _ _ (fun k => by omega)))
        generalize si (si σ 46 6 y) 46 7 0 = s6 at hE6 v4 v5 v6 v7 hF6 ⊢
        refine wp_call (x_actC hEA hE6 (Or.inr v4)) ?_
        rintro _ s7 ⟨hA7, hE7, hF7⟩
        refine wp_oc (by omega) (wp_some (wp_some ?_))
        have hM7 := hM.of hE7 (fun r k z => by omega)
        have hW7 : f_Mo_doWalk s7 = some (1, s7) := by
          unfold f_Mo_doWalk
          rw [hE7.i 118 13 (by omega), hTM.1, if_neg (by omega)]
        have hT7 : TM s7 118 a b m q := hTM.of hE7 (fun k hk => by omega)
        refine wp_eq hW7 (wp_f (by decide) ?_)
        refine wp_b1 (x_isWayM hok hM7 y) hy (wp_f (by decide) ?_)
        refine wp_f (by rw [hE7.i 118 17 (by omega)]; omega) ?_
        refine wp_b0 (x_overM (Or.inl rfl) hT7) ho (wp_t rfl ?_)
        refine wp_eq (x_otherM hok hM7 hy _) ?_
        rw [hE7.i 118 16 (by omega), ← e5]
        refine wp_t (by omega) ?_
        refine wp_call (x_actM hA7 hE7) ?_
        rintro _ t5 ⟨hA5, hE5, hF5⟩
        repeat (first | with_reducible refine wp_os ?_ | with_reducible refine wp_ol ?_ | (with_reducible refine wp_oc ?_ ?_; · (first | omega | (simp (disch := omega) only [gi_same, gi_ne_r, gi_ne_k, gi_sr_same, gi_sr_ne, gj_sj_same, gj_sj_ne_r, gj_sj_ne_k, gj_si, gi_sj, gj_sr, iwc, jwc, Int.toNat_natCast, tdn, tmn, b0, b1, yc0, yc1]; try omega))) | (with_reducible refine wp_t ?_ ?_; · (first | omega | (simp (disch := omega) only [gi_same, gi_ne_r, gi_ne_k, gi_sr_same, gi_sr_ne, gj_sj_same, gj_sj_ne_r, gj_sj_ne_k, gj_si, gi_sj, gj_sr, iwc, jwc, Int.toNat_natCast, tdn, tmn, b0, b1, yc0, yc1]; try omega))) | (with_reducible refine wp_f ?_ ?_; · (first | omega | (simp (disch := omega) only [gi_same, gi_ne_r, gi_ne_k, gi_sr_same, gi_sr_ne, gj_sj_same, gj_sj_ne_r, gj_sj_ne_k, gj_si, gi_sj, gj_sr, iwc, jwc, Int.toNat_natCast, tdn, tmn, b0, b1, yc0, yc1]; try omega))))
        have hG : EqP PAm t5 (si (si t5 118 17 y) 118 18 0) := by repeat (first | exact EqP.rf _ _ | (refine EqP.si ?_ _ _ _ (by omega)) | (refine EqP.sj ?_ _ _ _ (by omega)) | (refine EqP.sr ?_ _ _ (fun k => by omega)))
        have hEt := hE5.tr (hG.mo (fun r k h => by omega) : EqP PA _ _)
        refine wp_eq (x_milesOf hok (hM.of hEt (fun r k z => by omega)) hy) (wp_some ⟨?_, Inv_act hok hL hM hRO hLY hRP hTA hEt (act_fin hA5 hG ?_ ?_)⟩)
        · exact (hL.of hE7 (fun r k z => by omega)) 8 _ (by omega) (by omega) (by omega)
        · intro j hj
          rw [cv_eq hG (fun r k z => by omega) j hj, cv_eq hF5 (fun r k z => by omega) j hj, cv_eq hF7 (fun r k z => by omega) j hj]
        · have g118 : ∀ k, k ≠ 17 → k ≠ 18 → gi (si (si t5 118 17 y) 118 18 0) 118 k = gi σ 118 k := fun k h1 h2 => by
            simp (disch := omega) only [gi_same, gi_ne_r, gi_ne_k, gi_sr_same, gi_sr_ne, gj_sj_same, gj_sj_ne_r, gj_sj_ne_k, gj_si, gi_sj, gj_sr, iwc, jwc, Int.toNat_natCast, tdn, tmn, b0, b1, yc0, yc1]
            rw [hF5.i _ _ (by omega), hE7.i _ _ (by omega)]
          refine SR_walk (SRt_keep hEA.1.1 (fun k => hF6.i _ _ (by omega)) (hF6.i _ _ (by omega)) (fun k hk => g118 k (by omega) (by omega))) v4 hcp hq ?_ ?_ ?_ (by simp (disch := omega) only [gi_same, gi_ne_r, gi_ne_k, gi_sr_same, gi_sr_ne, gj_sj_same, gj_sj_ne_r, gj_sj_ne_k, gj_si, gi_sj, gj_sr, iwc, jwc, Int.toNat_natCast, tdn, tmn, b0, b1, yc0, yc1, v6]) (by simp (disch := omega) only [gi_same, gi_ne_r, gi_ne_k, gi_sr_same, gi_sr_ne, gj_sj_same, gj_sj_ne_r, gj_sj_ne_k, gj_si, gi_sj, gj_sr, iwc, jwc, Int.toNat_natCast, tdn, tmn, b0, b1, yc0, yc1, v7]) (by omega) (Or.inr ⟨by omega, by rw [v5, v6]; exact hinc, by rw [v6, v7]; omega⟩)
          · exact hT.of hF6 (fun k => by omega)
          · obtain ⟨c1, c2, c3, c4, c5, c6, c7⟩ := hTM
            refine ⟨by rw [g118 _ (by omega) (by omega)]; exact c1, by rw [g118 _ (by omega) (by omega)]; exact c2, by rw [g118 _ (by omega) (by omega)]; exact c3, by rw [g118 _ (by omega) (by omega)]; exact c4, by rw [g118 _ (by omega) (by omega)]; exact c5, by rw [g118 _ (by omega) (by omega)]; exact c6, ?_⟩
            conv => rhs; rw [← c7]
            exact rowl_congr fun i _ => g118 _ (by omega) (by omega)
          · rw [g118 _ (by omega) (by omega), v5, e5]
  · have hw : 0 ≤ gi σ 46 6 := by unfold WYo at hwy; omega
    exact wp_f h6 (wp_some (wp_some (no fun _ => Or.inl (by omega))))
theorem y_walk (w : Int) : MP (f_Qu_walk w) (f_Mo_walk w) := by
  rintro σ ⟨ld, bk, hok, hL, hM, hEA, hRO, hLY, hRP, hTA⟩
  have hI : Inv σ := ⟨ld, bk, hok, hL, hM, hEA, hRO, hLY, hRP, hTA⟩
  unfold f_Qu_walk f_Mo_walk f_Ea_tellWalk
  refine wp_ob ?_
  rcases hEA.1.w01 with h0 | h0
  · refine wp_t h0 (wp_some (wp_some ?_))
    exact wp_b0 (doWalk_eq hEA.1) (by omega) (wp_t rfl (wp_some ⟨rfl, hI⟩))
  rw [cv13] at h0
  obtain ⟨a, b, m, q, hcp, hq, hT, hTM, e5, e6, e7, hpl, hwy⟩ := SR_get hEA.1 h0
  refine wp_f (by omega) ?_
  have go : ∀ v, ∀ k : Int → SS → OO, Wp (if (1 : Int) = 0 then some (-1, σ) else k 1 σ) (fun r' σ2 => v = r' ∧ Inv σ2) → Wp (ob (f_Mo_doWalk σ) fun r s => if r = 0 then some (-1, s) else k r s) (fun r' σ2 => v = r' ∧ Inv σ2) := fun v k hk => wp_b1 (doWalk_eq hEA.1) h0 hk
  obtain ⟨c1, c2, c3, c4, c5⟩ := id hT
  obtain ⟨d1, d2, d3, d4, d5, d6, d7⟩ := id hTM
  by_cases w0 : w = 0
  · exact wp_t w0 (wp_some (wp_some (wp_b1 (doWalk_eq hEA.1) h0 (wp_f (by decide) (wp_t w0 (wp_some ⟨by omega, hI⟩))))))
  refine wp_f w0 ?_
  by_cases w1 : w = 1
  · exact wp_t w1 (wp_some (wp_some (wp_b1 (doWalk_eq hEA.1) h0 (wp_f (by decide) (wp_f w0 (wp_t w1 (wp_some ⟨by omega, hI⟩)))))))
  refine wp_f w1 ?_
  by_cases w2 : w = 2
  · exact wp_t w2 (wp_some (wp_some (wp_b1 (doWalk_eq hEA.1) h0 (wp_f (by decide) (wp_f w0 (wp_f w1 (wp_t w2 (wp_some ⟨by omega, hI⟩))))))))
  refine wp_f w2 ?_
  by_cases w3 : w = 3
  · exact wp_t w3 (wp_some (wp_some (wp_b1 (doWalk_eq hEA.1) h0 (wp_f (by decide) (wp_f w0 (wp_f w1 (wp_f w2 (wp_t w3 (wp_some ⟨by omega, hI⟩)))))))))
  refine wp_f w3 ?_
  by_cases w4 : w = 4
  · exact wp_t w4 (wp_some (wp_some (wp_b1 (doWalk_eq hEA.1) h0 (wp_f (by decide) (wp_f w0 (wp_f w1 (wp_f w2 (wp_f w3 (wp_t w4 (wp_some ⟨by omega, hI⟩))))))))))
  refine wp_f w4 ?_
  by_cases w5 : w = 5
  · exact wp_t w5 (wp_some (wp_some (wp_b1 (doWalk_eq hEA.1) h0 (wp_f (by decide) (wp_f w0 (wp_f w1 (wp_f w2 (wp_f w3 (wp_f w4 (wp_t w5 (wp_some ⟨by omega, hI⟩)))))))))))
  refine wp_f w5 ?_
  by_cases w6 : w = 6
  · refine wp_t w6 ?_
    by_cases ho : ovB q = true
    · exact wp_b1 (x_overC hT hq) ho (wp_f (by decide) (wp_some (wp_some (wp_b1 (doWalk_eq hEA.1) h0 (wp_f (by decide) (wp_f w0 (wp_f w1 (wp_f w2 (wp_f w3 (wp_f w4 (wp_f w5 (wp_t w6 (wp_b1 (x_overM (Or.inl rfl) hTM) ho (wp_f (by decide) (wp_some ⟨rfl, hI⟩)))))))))))))))
    · exact wp_b0 (x_overC hT hq) ho (wp_t rfl (wp_some (wp_some (wp_b1 (doWalk_eq hEA.1) h0 (wp_f (by decide) (wp_f w0 (wp_f w1 (wp_f w2 (wp_f w3 (wp_f w4 (wp_f w5 (wp_t w6 (wp_b0 (x_overM (Or.inl rfl) hTM) ho (wp_t rfl (wp_some ⟨rfl, hI⟩)))))))))))))))
  · exact wp_f w6 (wp_some (wp_some (wp_b1 (doWalk_eq hEA.1) h0 (wp_f (by decide) (wp_f w0 (wp_f w1 (wp_f w2 (wp_f w3 (wp_f w4 (wp_f w5 (wp_f w6 (wp_some ⟨rfl, hI⟩)))))))))))) 
theorem y_undo : MP f_Qu_undo f_Mo_undo := by
  rintro σ ⟨ld, bk, hok, hL, hM, hEA, hRO, hLY, hRP, hTA⟩
  have hI : Inv σ := ⟨ld, bk, hok, hL, hM, hEA, hRO, hLY, hRP, hTA⟩
  obtain ⟨hS, ⟨old, u, d, ho, hud, r9, r10, r11, a56, a57, hring⟩, hbox⟩ := hEA
  unfold f_Qu_undo f_Mo_undo f_Ea_takeBack
  refine wp_ob ?_
  by_cases hu : u = 0
  · refine wp_f (by omega) (wp_some (wp_some (wp_t (by omega) (wp_some ⟨rfl, hI⟩))))
  · refine wp_t (by omega) (wp_os (wp_os ?_))
    rw [r10]
    have e11 : gi (si σ 46 10 (iw ((u : Int) - 1))) 46 11 = d := by simp (disch := omega) only [gi_same, gi_ne_r, gi_ne_k, gi_sr_same, gi_sr_ne, gj_sj_same, gj_sj_ne_r, gj_sj_ne_k, gj_si, gi_sj, gj_sr, iwc, jwc, Int.toNat_natCast, tdn, tmn, b0, b1, yc0, yc1, r11]
    rw [e11, iwc (x := (u : Int) - 1) (by omega) (by omega), iwc (x := (d : Int) + 1) (by omega) (by omega)]
    have g9 : gi (si (si σ 46 10 ((u : Int) - 1)) 46 11 ((d : Int) + 1)) 46 9 = old := by simp (disch := omega) only [gi_same, gi_ne_r, gi_ne_k, gi_sr_same, gi_sr_ne, gj_sj_same, gj_sj_ne_r, gj_sj_ne_k, gj_si, gi_sj, gj_sr, iwc, jwc, Int.toNat_natCast, tdn, tmn, b0, b1, yc0, yc1, r9]
    have g10 : gi (si (si σ 46 10 ((u : Int) - 1)) 46 11 ((d : Int) + 1)) 46 10 = ((u - 1 : Nat) : Int) := by
      simp (disch := omega) only [gi_same, gi_ne_r, gi_ne_k, gi_sr_same, gi_sr_ne, gj_sj_same, gj_sj_ne_r, gj_sj_ne_k, gj_si, gi_sj, gj_sr, iwc, jwc, Int.toNat_natCast, tdn, tmn, b0, b1, yc0, yc1]
      omega
    refine wp_eq (x_slot _ old (u - 1) ho (by omega) g9 g10) ?_
    have hlt : (old + (u - 1)) % 41 < 41 := Nat.mod_lt _ (by omega)
    have hprev := hring (u - 1) (by omega)
    have hwk := hprev.w01
    refine wp_call (x_bring 48 (Or.inl rfl) (41 * ((old + (u - 1)) % 41)) (show 41 * ((old + (u - 1)) % 41) + 41 ≤ 1681 by omega) _ (by simp (disch := omega) only [gi_same, gi_ne_r, gi_ne_k, gi_sr_same, gi_sr_ne, gj_sj_same, gj_sj_ne_r, gj_sj_ne_k, gj_si, gi_sj, gj_sr, iwc, jwc, Int.toNat_natCast, tdn, tmn, b0, b1, yc0, yc1]; exact hwk)) ?_
    rintro _ s6 ⟨hE6, hV6⟩
    refine wp_some (wp_some ?_)
    have hEs : EqP (fun r k => r = 46 ∧ (k = 2 ∨ 4 ≤ k ∧ k ≤ 7 ∨ k = 10 ∨ k = 11) ∨ r = 47 ∨ r = 51 ∧ 3 ≤ k ∧ k ≤ 6 ∨ r = 53) σ s6 := by
      refine EqP.tr (b := si (si σ 46 10 ((u : Int) - 1)) 46 11 ((d : Int) + 1)) ?_ (hE6.mo (fun r k h => by omega))
      repeat (first | exact EqP.rf _ _ | (refine EqP.si ?_ _ _ _ (by omega)) | (refine EqP.sj ?_ _ _ _ (by omega)) | (refine EqP.sr ?_ _ _ (fun k => by omega)))
    have hrow : ∀ k, gi (si (si σ 46 10 ((u : Int) - 1)) 46 11 ((d : Int) + 1)) 48 k = gi σ 48 k := fun k => by simp (disch := omega) only [gi_same, gi_ne_r, gi_ne_k, gi_sr_same, gi_sr_ne, gj_sj_same, gj_sj_ne_r, gj_sj_ne_k, gj_si, gi_sj, gj_sr, iwc, jwc, Int.toNat_natCast, tdn, tmn, b0, b1, yc0, yc1]
    have k10 : gi s6 46 10 = ((u - 1 : Nat) : Int) := by rw [hE6.i _ _ (by omega)]; exact g10
    have k11 : gi s6 46 11 = ((d + 1 : Nat) : Int) := by
      rw [hE6.i _ _ (by omega)]
      simp (disch := omega) only [gi_same, gi_ne_r, gi_ne_k, gi_sr_same, gi_sr_ne, gj_sj_same, gj_sj_ne_r, gj_sj_ne_k, gj_si, gi_sj, gj_sr, iwc, jwc, Int.toNat_natCast, tdn, tmn, b0, b1, yc0, yc1]
      omega
    refine wp_f (by rw [hEs.i _ _ (by omega)]; omega) (wp_os (wp_os ?_))
    rw [hEs.i 86 56 (by omega), a56]
    have e57 : gi (si s6 86 56 (iw ((u : Int) - 1))) 86 57 = d := by simp (disch := omega) only [gi_same, gi_ne_r, gi_ne_k, gi_sr_same, gi_sr_ne, gj_sj_same, gj_sj_ne_r, gj_sj_ne_k, gj_si, gi_sj, gj_sr, iwc, jwc, Int.toNat_natCast, tdn, tmn, b0, b1, yc0, yc1]; rw [hEs.i _ _ (by omega)]; exact a57
    rw [e57, iwc (x := (u : Int) - 1) (by omega) (by omega), iwc (x := (d : Int) + 1) (by omega) (by omega)]
    unfold f_Mo_exchange
    refine wp_eq (x_exch 44 0 FU (u - 1) _ (by omega) (by simp (disch := omega) only [gi_same, gi_ne_r, gi_ne_k, gi_sr_same, gi_sr_ne, gj_sj_same, gj_sj_ne_r, gj_sj_ne_k, gj_si, gi_sj, gj_sr, iwc, jwc, Int.toNat_natCast, tdn, tmn, b0, b1, yc0, yc1]; omega) (by omega) (by unfold FU; omega)) ?_
    refine wp_some ⟨rfl, ?_⟩
    generalize hs3 : si (si s6 86 56 ((u : Int) - 1)) 86 57 ((d : Int) + 1) = s3
    have hE3 : EqP (fun r k => r = 86 ∧ (k = 56 ∨ k = 57)) s6 s3 := by rw [← hs3]; repeat (first | exact EqP.rf _ _ | (refine EqP.si ?_ _ _ _ (by omega)) | (refine EqP.sj ?_ _ _ _ (by omega)) | (refine EqP.sr ?_ _ _ (fun k => by omega)))
    have m1 : gi s3 86 56 = ((u - 1 : Nat) : Int) := by
      rw [← hs3]; simp (disch := omega) only [gi_same, gi_ne_r, gi_ne_k, gi_sr_same, gi_sr_ne, gj_sj_same, gj_sj_ne_r, gj_sj_ne_k, gj_si, gi_sj, gj_sr, iwc, jwc, Int.toNat_natCast, tdn, tmn, b0, b1, yc0, yc1]
      omega
    have m2 : gi s3 86 57 = ((d + 1 : Nat) : Int) := by
      rw [← hs3]; simp (disch := omega) only [gi_same, gi_ne_r, gi_ne_k, gi_sr_same, gi_sr_ne, gj_sj_same, gj_sj_ne_r, gj_sj_ne_k, gj_si, gi_sj, gj_sr, iwc, jwc, Int.toNat_natCast, tdn, tmn, b0, b1, yc0, yc1]
      omega
    clear hs3
    have q120 : ∀ k, gi s3 120 k = gi σ 120 k := fun k => by rw [hE3.i _ _ (by omega), hEs.i _ _ (by omega)]
    have q118 : ∀ k, gi s3 118 k = gi σ 118 k := fun k => by rw [hE3.i _ _ (by omega), hEs.i _ _ (by omega)]
    have hs4 : EqP (fun r k => r = 120 ∨ r = 118) s3 (sr (sr s3 120 (fun j => if 44 * (u - 1) + 0 ≤ j ∧ j < 44 * (u - 1) + 44 then gi s3 118 (j - 44 * (u - 1)) else gi s3 120 j)) 118 (fun j => if 0 ≤ j ∧ j < 44 then gi s3 120 (44 * (u - 1) + j) else gi s3 118 j)) := by
      refine EqP.sr (EqP.sr (EqP.rf _ _) _ _ (fun k => by omega)) _ _ (fun k => by omega)
    have hA : ∀ j, j < 44 → gi (sr (sr s3 120 (fun j => if 44 * (u - 1) + 0 ≤ j ∧ j < 44 * (u - 1) + 44 then gi s3 118 (j - 44 * (u - 1)) else gi s3 120 j)) 118 (fun j => if 0 ≤ j ∧ j < 44 then gi s3 120 (44 * (u - 1) + j) else gi s3 118 j)) 118 j = gi σ 120 (44 * (u - 1) + j) := fun j hj => by
      rw [gi_sr_same, if_pos (by omega)]; exact q120 _
    have hB : ∀ j, gi (sr (sr s3 120 (fun j => if 44 * (u - 1) + 0 ≤ j ∧ j < 44 * (u - 1) + 44 then gi s3 118 (j - 44 * (u - 1)) else gi s3 120 j)) 118 (fun j => if 0 ≤ j ∧ j < 44 then gi s3 120 (44 * (u - 1) + j) else gi s3 118 j)) 120 j = (if 44 * (u - 1) + 0 ≤ j ∧ j < 44 * (u - 1) + 44 then gi σ 118 (j - 44 * (u - 1)) else gi σ 120 j) := fun j => by
      rw [gi_sr_ne _ _ _ (by omega), gi_sr_same, q118, q120]
    generalize sr (sr s3 120 (fun j => if 44 * (u - 1) + 0 ≤ j ∧ j < 44 * (u - 1) + 44 then gi s3 118 (j - 44 * (u - 1)) else gi s3 120 j)) 118 (fun j => if 0 ≤ j ∧ j < 44 then gi s3 120 (44 * (u - 1) + j) else gi s3 118 j) = τ at hs4 hA hB ⊢
    have hEt : EqP PA σ τ := ((hEs.mo (fun r k h => by omega)).tr (hE3.mo (fun r k h => by omega))).tr (hs4.mo (fun r k h => by omega))
    refine Inv_act hok hL hM hRO hLY hRP hTA hEt ⟨?_, ⟨old, u - 1, d + 1, ho, by omega, ?_, ?_, ?_, ?_, ?_, ?_⟩, ?_⟩
    · refine hprev.cg (fun j hj => ?_) (fun j hj => ?_)
      · rw [cv_eq hs4 (fun r k z => by omega) j hj, cv_eq hE3 (fun r k z => by omega) j hj, hV6 j hj, hrow]
      · unfold mvr
        rw [hA j hj, if_pos (by omega)]
    · rw [hs4.i _ _ (by omega), hE3.i _ _ (by omega), hEs.i _ _ (by omega)]; exact r9
    · rw [hs4.i _ _ (by omega), hE3.i _ _ (by omega)]; exact k10
    · rw [hs4.i _ _ (by omega), hE3.i _ _ (by omega)]; exact k11
    · rw [hs4.i _ _ (by omega)]; exact m1
    · rw [hs4.i _ _ (by omega)]; exact m2
    · intro i hi
      refine (hring i (by omega)).cg (fun j hj => ?_) (fun j hj => ?_)
      · rw [hs4.i _ _ (by omega), hE3.i _ _ (by omega), hEs.i _ _ (by omega)]
      · unfold mvr
        by_cases i1 : i < u - 1
        · rw [if_pos i1, if_pos (by omega), hB, if_neg (by omega)]
        · rw [if_neg i1]
          by_cases i2 : i = u - 1
          · rw [if_pos i2, if_pos (by omega), hA j hj, i2]
          · rw [if_neg i2, if_neg (by omega), hB]
            by_cases i3 : i = u
            · rw [if_pos (by omega), if_pos i3]; congr 1; omega
            · rw [if_neg (by omega), if_neg i3]
    · intro x hx
      obtain ⟨k1, k2⟩ := hbox x hx
      have g : ∀ r k, (r = 49 ∨ r = 50 ∨ r = 136 ∨ r = 137) → gi τ r k = gi σ r k := fun r k h => hEt.i r k (by omega)
      rw [g 50 x (by omega), g 137 x (by omega)]
      refine ⟨k1, ?_⟩
      rcases k2 with k2 | ⟨k2, k3⟩
      · exact Or.inl k2
      · exact Or.inr ⟨k2, k3.cg (fun j _ => g _ _ (by omega)) (fun j _ => g _ _ (by omega))⟩
