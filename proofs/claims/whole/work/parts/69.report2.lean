/-! report: both sides -/
theorem RP_new {σ τ : SS} {n : Nat} {L w : Int} (h30 : n < 30) (hn : gi σ 79 3 = n) (h : RP σ) (hE : EqP (fun r k => PRc n r k ∨ PRm n r k) σ τ) (c1 : gi τ 79 3 = (n : Int) + 1) (c2 : gi τ 80 n = gi σ 79 2) (c3 : gi τ 81 n = -1) (c4 : bset (gj τ 82 n) (fun x => rpd L (x + 1) == w)) (m1 : gi τ 86 79 = (n : Int) + 1) (m2 : gi τ 131 n = L) (m3 : gi τ 132 n = w) (m4 : gi τ 133 n = gi σ 79 2) (m5 : gi τ 134 n = -1) (hL : L = -1 ∨ 1 ≤ L ∧ L ≤ 200) (hw : 0 ≤ w ∧ w ≤ 2) : RP τ := by
  obtain ⟨n', p1, p2, p3, p4, p5, p6, p7⟩ := h
  obtain rfl : n' = n := by omega
  have e792 : gi τ 79 2 = gi σ 79 2 := hE.i _ _ (by omega)
  refine ⟨n' + 1, by omega, by rw [c1]; rfl, by rw [m1]; rfl, by rw [e792, hE.i 86 80 (by omega)]; exact p4, by rw [e792]; exact p5, by rw [e792]; exact p6, fun i hi => ?_⟩
  by_cases hin : i = n'
  · subst hin
    rw [c2, c3, m2, m3, m4, m5]
    exact ⟨⟨rfl, p5⟩, ⟨rfl, by omega⟩, hL, hw, c4⟩
  · rw [hE.i 80 i (by omega), hE.i 81 i (by omega), hE.i 131 i (by omega), hE.i 132 i (by omega), hE.i 133 i (by omega), hE.i 134 i (by omega), hE.j 82 i (by omega)]
    exact p7 i (by omega)
theorem y_report (a b m w : Int) : MP (f_Qu_report a b m w) (f_Mo_report a b m w) := by
  rintro σ ⟨ld, bk, hok, hL, hM, hEA, hRO, hLY, hRP, hTA⟩
  have hI : Inv σ := ⟨ld, bk, hok, hL, hM, hEA, hRO, hLY, hRP, hTA⟩
  obtain ⟨n, p1, p2, p3, p4, -⟩ := id hRP
  unfold f_Qu_report
  by_cases hc : cplB ld a b m
  · refine wp_eq ((x_couple hok hL a b m).1 hc) ?_
    obtain ⟨a', b', m', rfl, rfl, rfl, hcp⟩ := cplB_nat hok hc
    refine wp_f (by omega) ?_
    by_cases hw : 0 ≤ w ∧ w ≤ 2
    · refine wp_f (by omega) (wp_t (by omega) (wp_ob ?_))
      by_cases hn : n < 30
      · refine wp_mono (x_tellC hok hL hn p2 hcp rfl hw) ?_
        rintro r s ⟨rfl, c1, c2, c3, c4, hEc⟩
        refine wp_some ?_
        refine wp_mono (x_tellM hok (hM.of hEc (fun r k z => by omega)) (by rw [hEc.i _ _ (by omega)]; exact hTA.2.2.2.2.2.2) hn (by rw [hEc.i _ _ (by omega)]; exact p3) hcp hc hw) ?_
        rintro r' τ ⟨rfl, m1, m2, m3, m4, m5, h5, hEm⟩
        refine ⟨rfl, ?_⟩
        have hEt : EqP (fun r k => PRc n r k ∨ PRm n r k) σ τ := (hEc.mo (fun r k h => Or.inl h)).tr (hEm.mo (fun r k h => Or.inr h))
        have hrel := l60_rel hok (gi ld 11) hcp
        refine ⟨ld, bk, hok, hL.of hEt (fun r k z => by omega), hM.of hEt (fun r k z => by omega), hEA.of (fun r k z => hEt.i r k (by omega)), hRO.of (fun r k z => hEt.i r k (by omega)), hLY.of (fun r k z => hEt.i r k (by omega)), ?_, ?_⟩
        · refine RP_new (L := olP ld (gi ld 11) a' b' m') (w := w) hn p2 hRP hEt ?_ ?_ ?_ ?_ m1 m2 m3 ?_ m5 (by rcases hrel with h | h <;> omega) hw
          · rw [hEm.i _ _ (by omega)]; exact c1
          · rw [hEm.i _ _ (by omega)]; exact c2
          · rw [hEm.i _ _ (by omega)]; exact c3
          · rw [hEm.j _ _ (by omega)]; exact c4
          · rw [m4, hEc.i _ _ (by omega)]; exact p4.symm
        · obtain ⟨q1, q2, q3, q4, q5, q6, q7⟩ := hTA
          refine ⟨?_, ?_, ?_, fun i hi => ?_, ?_, ?_, h5⟩
          · rw [hEt.i 0 1 (by omega), hEt.i 86 2 (by omega)]; exact q1
          · rw [hEt.i 0 1 (by omega)]; exact q2
          · rw [hEt.i 0 1 (by omega)]; exact q3
          · rw [hEt.i 1 i (by omega), hEt.i 87 i (by omega)]; exact q4 i hi
          · rw [hEt.i 42 2 (by omega), hEt.i 86 4 (by omega)]; exact q5
          · rw [hEt.i 42 3 (by omega), hEt.i 86 5 (by omega)]; exact q6
      · unfold f_Rp_tell f_Mo_report
        rw [p2]
        refine wp_f (by omega) (wp_f (by omega) (wp_some (wp_some ?_)))
        refine wp_eq ((x_isCoupleM hok hM _ _ _).1 hc) (wp_f (by decide) ?_)
        refine wp_b1 (x_isIn _ _ _ _) (by omega) (wp_f (by decide) ?_)
        exact wp_t (by omega) (wp_some ⟨rfl, hI⟩)
    · have : Wp (f_Mo_report a' b' m' w σ) fun r' σ2 => (-1 : Int) = r' ∧ Inv σ2 := by
        unfold f_Mo_report
        refine wp_eq ((x_isCoupleM hok hM _ _ _).1 hc) (wp_f (by decide) ?_)
        exact wp_b0 (x_isIn _ _ _ _) (by omega) (wp_t rfl (wp_some ⟨rfl, hI⟩))
      by_cases h3 : w < 0
      · exact wp_t h3 (wp_some this)
      · exact wp_f h3 (wp_f (by omega) (wp_some this))
  · refine wp_eq ((x_couple hok hL a b m).2 hc) (wp_t rfl (wp_some ?_))
    unfold f_Mo_report
    exact wp_eq ((x_isCoupleM hok hM a b m).2 hc) (wp_t rfl (wp_some ⟨rfl, hI⟩))
