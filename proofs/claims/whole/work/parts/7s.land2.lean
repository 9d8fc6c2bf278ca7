/-! the land: both sides -/
abbrev RdL (b : Nat) : Nat → Nat → Prop := fun r k => 89 ≤ r ∧ r ≤ 94 ∧ k = b ∨ (r = 95 ∨ r = 96) ∧ 8 * b ≤ k ∧ k < 8 * b + 8 ∨ 97 ≤ r ∧ r ≤ 100 ∧ 14 * b ≤ k ∧ k < 14 * b + 14 ∨ 101 ≤ r ∧ r ≤ 104 ∧ 6 * b ≤ k ∧ k < 6 * b + 6 ∨ r = 105 ∧ 48 * b ≤ k ∧ k < 48 * b + 48 ∨ (r = 106 ∨ r = 107 ∨ r = 109) ∧ 2 * b ≤ k ∧ k < 2 * b + 2 ∨ (r = 113 ∨ r = 114) ∧ 560 * b ≤ k ∧ k < 560 * b + 560 ∨ r = 86 ∧ k = 40
section
variable {b r k : Nat}
theorem rlA (h : 89 ≤ r ∧ r ≤ 94 ∧ k = b) : RdL b r k := Or.inl h
theorem rlB (h : (r = 95 ∨ r = 96) ∧ 8 * b ≤ k ∧ k < 8 * b + 8) : RdL b r k := Or.inr (Or.inl h)
theorem rlC (h : 97 ≤ r ∧ r ≤ 100 ∧ 14 * b ≤ k ∧ k < 14 * b + 14) : RdL b r k := Or.inr (Or.inr (Or.inl h))
theorem rlD (h : 101 ≤ r ∧ r ≤ 104 ∧ 6 * b ≤ k ∧ k < 6 * b + 6) : RdL b r k := Or.inr (Or.inr (Or.inr (Or.inl h)))
theorem rlE (h : r = 105 ∧ 48 * b ≤ k ∧ k < 48 * b + 48) : RdL b r k := Or.inr (Or.inr (Or.inr (Or.inr (Or.inl h))))
theorem rlF (h : (r = 106 ∨ r = 107 ∨ r = 109) ∧ 2 * b ≤ k ∧ k < 2 * b + 2) : RdL b r k := Or.inr (Or.inr (Or.inr (Or.inr (Or.inr (Or.inl h)))))
theorem rlG (h : (r = 113 ∨ r = 114) ∧ 560 * b ≤ k ∧ k < 560 * b + 560) : RdL b r k := Or.inr (Or.inr (Or.inr (Or.inr (Or.inr (Or.inr (Or.inl h))))))
theorem rlH (h : r = 86 ∧ k = 40) : RdL b r k := Or.inr (Or.inr (Or.inr (Or.inr (Or.inr (Or.inr (Or.inr h))))))
end
theorem RM.cg {ld σ τ : SS} {r k b : Nat} (hk : k < 2) (h : RM ld σ r k b) (g : ∀ r' j, RdL b r' j → gi τ r' j = gi σ r' j) : RM ld τ r k b := by
  obtain ⟨k1, k2⟩ := h
  refine ⟨by rw [g _ _ (rlF (by omega))]; exact k1, fun z => ?_⟩
  obtain ⟨fr, j1, j2, j3, j4⟩ := k2 z
  refine ⟨fr, by rw [g _ _ (rlF (by omega))]; exact j1, by rw [g _ _ (rlF (by omega))]; exact j2, j3, fun j hj => ?_⟩
  have hl := stL_len ld r
  rw [g _ _ (rlG (by omega)), g _ _ (rlG (by omega))]
  exact j4 j hj
theorem LM.cg {ld σ τ : SS} {b : Nat} (hok : LdOK ld) (h : LM ld σ b) (g : ∀ r' j, RdL b r' j → gi τ r' j = gi σ r' j) : LM ld τ b := by
  have l0 := hok.1
  have l4 := hok.2.1
  have l9 := hok.2.2.1
  have l12 := hok.2.2.2.1
  obtain ⟨h1, h2, ⟨h3, h4, h5, h6, h7, h8⟩, h9, h10, h11, h12, h13, h14⟩ := h
  refine ⟨h1, by rw [g _ _ (rlH (by omega))]; exact h2, ⟨by rw [g _ _ (rlA (by omega))]; exact h3, by rw [g _ _ (rlA (by omega))]; exact h4, by rw [g _ _ (rlA (by omega))]; exact h5, by rw [g _ _ (rlA (by omega))]; exact h6, by rw [g _ _ (rlA (by omega))]; exact h7, by rw [g _ _ (rlA (by omega))]; exact h8⟩, fun p hp => ?_, fun y hy => ?_, fun s hs => ?_, fun m hm => ?_, h13.cg (by omega) g, h14.cg (by omega) g⟩
  · rw [g 95 _ (rlB (by omega)), g 96 _ (rlB (by omega))]; exact h9 p hp
  · rw [g 97 _ (rlC (by omega)), g 98 _ (rlC (by omega)), g 99 _ (rlC (by omega)), g 100 _ (rlC (by omega))]; exact h10 y hy
  · rw [g 101 _ (rlD (by omega)), g 102 _ (rlD (by omega))]; exact h11 s hs
  · rw [g 103 _ (rlD (by omega)), g 104 _ (rlD (by omega))]
    obtain ⟨k1, k2, k3⟩ := h12 m hm
    have hg := (hok.ma hm).2.1
    refine ⟨k1, k2, fun i hi => ?_⟩
    rw [g 105 _ (rlE (by omega))]
    exact k3 i hi
theorem pm_bank {bk r k : Nat} (hb : bk < 2) (h : RdL bk r k) : ¬ PM (1 - bk) r k := by
  rintro (z | z | z | z | z | z | z | z | z) <;> rcases h with h | h | h | h | h | h | h | h <;> omega
theorem y_land : MP f_Qu_land f_Mo_land := by
  rintro σ ⟨ld, bk, hok, hL, hM, hEA, hRO, hLY, hRP, hTA⟩
  have hbk := hM.1
  obtain ⟨t1, t2, t3, t4, t5, t6, t7⟩ := hTA
  obtain ⟨N, hN⟩ : ∃ N : Nat, gi σ 0 1 = N := ⟨(gi σ 0 1).toNat, by omega⟩
  have hN16 : N ≤ 1600 := by omega
  unfold f_Qu_land
  refine wp_ol (wp_os ?_)
  rw [hN]
  have hE1 : EqP (fun r k => r = 0 ∧ k = 1) σ (si σ 0 1 0) := EqP.si (EqP.rf _ _) _ _ _ (by omega)
  have ha01 : gi (si σ 0 1 0) 0 1 = 0 := gi_same _ _ _ _
  generalize si σ 0 1 0 = σa at hE1 ha01 ⊢
  have G := fun (u : Nat) (hu : u = 2 ∨ u = 22) (x y : SS) (hx : ∀ i, i < N → gi x 1 i = gi σ 1 i) (hy2 : gi y 86 2 = N) (hy40 : gi y 86 40 = bk) (hy87 : ∀ i, i < N → gi y 87 i = gi σ 87 i) => g_land (B := gi σ 1) (N := N) (σ := x) (τ := y) hu hbk hN16 hy2 hy40 (fun i hi => ⟨hx i hi, by rw [hy87 i hi]; exact (t4 i (by omega)).1.symm, (t4 i (by omega)).2⟩)
  have a1 : ∀ i, i < N → gi σa 1 i = gi σ 1 i := fun i _ => hE1.i _ _ (by omega)
  have a2 : gi σa 86 2 = N := by rw [hE1.i _ _ (by omega), ← t1]; exact hN
  have a40 : gi σa 86 40 = bk := by rw [hE1.i _ _ (by omega)]; exact hM.2.1
  have a87 : ∀ i, i < N → gi σa 87 i = gi σ 87 i := fun i _ => hE1.i _ _ (by omega)
  obtain ⟨r1, σ1, e1, r1', τ1, e1', hEq1, hp1⟩ := G 22 (Or.inr rfl) σa σa a1 a2 a40 a87
  refine wp_eq e1 ?_
  have b1' : ∀ i, i < N → gi σ1 1 i = gi σ 1 i := fun i hi => by rw [hEq1.i _ _ (by omega)]; exact a1 i hi
  have b2' : gi σ1 86 2 = N := by rw [hEq1.i _ _ (by omega)]; exact a2
  have b40' : gi σ1 86 40 = bk := by rw [hEq1.i _ _ (by omega)]; exact a40
  have b87' : ∀ i, i < N → gi σ1 87 i = gi σ 87 i := fun i hi => by rw [hEq1.i _ _ (by omega)]; exact a87 i hi
  obtain ⟨q1, s1, f1, q1', τ2, f1', _, hp2⟩ := G 22 (Or.inr rfl) σa σ1 a1 b2' b40' b87'
  rw [e1] at f1
  injection f1 with f1
  have fr1 : r1 = q1 := congrArg Prod.fst f1
  have fs1 : σ1 = s1 := congrArg Prod.snd f1
  subst fr1 fs1
  have hEs1 : EqP (fun r k => r = 0 ∧ k = 1 ∨ PCx 22 r k) σ σ1 := (hE1.mo (fun r k z => Or.inl z)).tr (hEq1.mo (fun r k z => Or.inr z))
  by_cases hr1 : r1 = 0
  · refine wp_t hr1 (wp_some (wp_eqe f1' ?_))
    rcases hp2 with ⟨z, _⟩ | ⟨_, hr', h42, h43, h2, hE2⟩
    · omega
    · have hEt : EqP (fun r k => (r = 0 ∧ k = 1 ∨ PCx 22 r k) ∨ PMx (1 - bk) r k) σ τ2 := (hEs1.mo (fun r k z => Or.inl z)).tr (hE2.mo (fun r k z => Or.inr z))
      have nPM : ∀ r k, (r < 86 ∨ 116 < r ∨ r = 87 ∨ r = 86 ∧ (k < 2 ∨ 11 ≤ k ∧ k ≤ 40 ∨ 46 ≤ k)) → ¬ PMx (1 - bk) r k := by
        intro r k z w
        unfold PMx PM at w
        omega
      have g : ∀ r k, (r < 86 ∧ (r ≠ 0 ∨ k ≠ 1) ∧ ¬ PCx 22 r k ∨ 116 < r ∨ r = 87 ∨ r = 86 ∧ (k < 2 ∨ 11 ≤ k ∧ k ≤ 40 ∨ 46 ≤ k)) → gi τ2 r k = gi σ r k ∧ gj τ2 r k = gj σ r k := by
        intro r k z
        refine hEt r k ?_
        rintro (w | w)
        · omega
        · exact nPM r k (by omega) w
      have e01 : gi τ2 0 1 = 0 := by rw [hE2.i _ _ (nPM _ _ (by omega)), hEq1.i _ _ (by omega)]; exact ha01
      refine ⟨hr'.symm, ld, bk, hok, fun r k h1 h3 h4 => ?_, ?_, ?_, ?_, ?_, ?_, ?_⟩
      · rw [(g r k (by omega)).1]; exact hL r k h1 h3 h4
      · refine hM.cg hok (fun r j z => hEt.i r j ?_)
        rintro (w | w | w)
        · omega
        · exact pm_bank hbk z w
        · omega
      · exact hEA.of (fun r k z => (g r k (by omega)).1)
      · exact hRO.of (fun r k z => (g r k (by omega)).1)
      · exact hLY.of (fun r k z => (g r k (by omega)).1)
      · exact hRP.of (fun r k z => g r k (by omega))
      · refine ⟨by rw [e01, h2], by omega, by omega, fun i hi => ?_, (hE2.i 42 2 (nPM _ _ (by omega))).trans h42, (hE2.i 42 3 (nPM _ _ (by omega))).trans h43, ?_⟩
        · rw [(g 1 i (by omega)).1, (g 87 i (by omega)).1]; exact t4 i hi
        · rw [(g 86 54 (by omega)).1]; exact t7
  · refine wp_f hr1 ?_
    have hq1 : 0 ≤ q1' := by
      rcases hp2 with ⟨_, _, z, _⟩ | ⟨z, _⟩
      · exact z
      · omega
    obtain ⟨r2, σ2, e2, r2', τ3, e2', hEq2, hp3⟩ := G 2 (Or.inl rfl) σ1 σ1 b1' b2' b40' b87'
    rw [f1'] at e2'
    injection e2' with e2'
    have hr2' : q1' = r2' := congrArg Prod.fst e2'
    rcases hp3 with ⟨hr2, _, _, _, _, hokU, _⟩ | ⟨_, z, _⟩
    · refine wp_eq e2 ?_
      obtain ⟨hEAs, ⟨old, uu, dd, ho1, ho2, ho3, ho4⟩, hEAb⟩ := hEA
      have c9 : gi σ2 46 9 = old := by rw [hEq2.i _ _ (by omega), hEs1.i _ _ (by omega)]; exact ho3
      have h9 : gi (ldU 2 σ2) 2 9 = gi σ2 2 9 := rfl
      have hs9 := hokU.2.2.1
      refine wp_call (x_beginAnewC σ2 (by omega) ho1 c9) ?_
      rintro _ σ3 ⟨v, v12, v13, c10, c11, c50, c48, hE3⟩
      unfold f_Ro_reset f_Fi_layNothing f_Rp_forget
      refine wp_ob (wp_os (wp_os (wp_some (wp_ob (wp_os (wp_some (wp_ob (wp_os (wp_some (wp_some ?_)))))))))) 
      have hEz : EqP (fun r k => r = 54 ∧ (k = 2 ∨ k = 3) ∨ r = 61 ∧ k = 5 ∨ r = 79 ∧ k = 3) σ3 (si (si (si (si σ3 54 2 0) 54 3 (-1)) 61 5 0) 79 3 0) := EqP.si (EqP.si (EqP.si (EqP.si (EqP.rf _ _) _ _ _ (by omega)) _ _ _ (by omega)) _ _ _ (by omega)) _ _ _ (by omega)
      have z1 : gi (si (si (si (si σ3 54 2 0) 54 3 (-1)) 61 5 0) 79 3 0) 54 2 = 0 := by simp (disch := omega) only [gi_same, gi_ne_r, gi_ne_k, gi_sr_same, gi_sr_ne, gj_sj_same, gj_sj_ne_r, gj_sj_ne_k, gj_si, gi_sj, gj_sr, iwc, jwc, Int.toNat_natCast, tdn, tmn, b0, b1, yc0, yc1]
      have z2 : gi (si (si (si (si σ3 54 2 0) 54 3 (-1)) 61 5 0) 79 3 0) 54 3 = -1 := by simp (disch := omega) only [gi_same, gi_ne_r, gi_ne_k, gi_sr_same, gi_sr_ne, gj_sj_same, gj_sj_ne_r, gj_sj_ne_k, gj_si, gi_sj, gj_sr, iwc, jwc, Int.toNat_natCast, tdn, tmn, b0, b1, yc0, yc1]
      have z3 : gi (si (si (si (si σ3 54 2 0) 54 3 (-1)) 61 5 0) 79 3 0) 61 5 = 0 := by simp (disch := omega) only [gi_same, gi_ne_r, gi_ne_k, gi_sr_same, gi_sr_ne, gj_sj_same, gj_sj_ne_r, gj_sj_ne_k, gj_si, gi_sj, gj_sr, iwc, jwc, Int.toNat_natCast, tdn, tmn, b0, b1, yc0, yc1]
      have z4 : gi (si (si (si (si σ3 54 2 0) 54 3 (-1)) 61 5 0) 79 3 0) 79 3 = 0 := by simp (disch := omega) only [gi_same, gi_ne_r, gi_ne_k, gi_sr_same, gi_sr_ne, gj_sj_same, gj_sj_ne_r, gj_sj_ne_k, gj_si, gi_sj, gj_sr, iwc, jwc, Int.toNat_natCast, tdn, tmn, b0, b1, yc0, yc1]
      generalize si (si (si (si σ3 54 2 0) 54 3 (-1)) 61 5 0) 79 3 0 = σz at hEz z1 z2 z3 z4 ⊢
      have hE2z : EqP (fun r k => PBA r k ∨ r = 54 ∧ (k = 2 ∨ k = 3) ∨ r = 61 ∧ k = 5 ∨ r = 79 ∧ k = 3) σ2 σz := (hE3.mo (fun r k z => Or.inl z)).tr (hEz.mo (fun r k z => Or.inr z))
      have d2 : gi σz 86 2 = N := by rw [hE2z.i _ _ (by omega), hEq2.i _ _ (by omega)]; exact b2'
      have d40 : gi σz 86 40 = bk := by rw [hE2z.i _ _ (by omega), hEq2.i _ _ (by omega)]; exact b40'
      have d87 : ∀ i, i < N → gi σz 87 i = gi σ 87 i := fun i hi => by rw [hE2z.i _ _ (by omega), hEq2.i _ _ (by omega)]; exact b87' i hi
      obtain ⟨q3, s3, f3, q3', τz, f3', _, hp4⟩ := G 2 (Or.inl rfl) σ1 σz b1' d2 d40 d87
      rw [e2] at f3
      injection f3 with f3
      have fr3 : r2 = q3 := congrArg Prod.fst f3
      have fs3 : σ2 = s3 := congrArg Prod.snd f3
      subst fr3 fs3
      refine wp_eqe f3' ?_
      rcases hp4 with ⟨_, hr', _, k42, k43, hokU', τL, hLML, kL4, kL5, kL2, hEL, hSA, hEP⟩ | ⟨w, _⟩
      · obtain ⟨s0, sr', s13, s56, s57, s60, s61, s62, s79, s137⟩ := hSA
        have nPL : ∀ r k, (r < 86 ∨ 116 < r ∨ r = 87 ∨ r = 86 ∧ (k < 2 ∨ 11 ≤ k ∧ k ≤ 39 ∨ 46 ≤ k)) → ¬ (PMx (1 - bk) r k ∨ r = 86 ∧ k = 40) := by
          intro r k z w
          unfold PMx PM at w
          omega
        -- the class's places behind all
        have g : ∀ r k, r < 86 → gi τz r k = gi σz r k ∧ gj τz r k = gj σz r k := by
          intro r k hr
          have w1 := hEP r k (by omega)
          have w2 := hEL r k (nPL r k (by omega))
          exact ⟨w1.1.trans w2.1, w1.2.trans w2.2⟩
        have gr : ∀ k, (k = 54 ∨ k = 80) → gi τz 86 k = gi σ 86 k := by
          intro k hk
          rw [hEP.i _ _ (by omega), hEL.i _ _ (nPL _ _ (by omega)), hE2z.i _ _ (by omega), hEq2.i _ _ (by omega), hEs1.i _ _ (by omega)]
        have hcv : ∀ j, cv τz j = cv σ3 j := by
          intro j
          unfold cv
          rw [(g 47 _ (by omega)).1, (g 46 2 (by omega)).1, (g 53 _ (by omega)).1, (g 46 _ (by omega)).1, (g 51 _ (by omega)).1, hEz.i 47 _ (by omega), hEz.i 46 2 (by omega), hEz.i 53 _ (by omega), hEz.i 46 _ (by omega), hEz.i 51 _ (by omega)]
        have e01 : gi τz 0 1 = 0 := by rw [(g 0 1 (by omega)).1, hE2z.i _ _ (by omega), hEq2.i _ _ (by omega), hEq1.i _ _ (by omega)]; exact ha01
        have e86 : ∀ k, (k = 2 ∨ k = 4 ∨ k = 5) → gi τz 86 k = gi τL 86 k := fun k hk => hEP.i _ _ (by omega)
        have h20 : gi σz 2 0 = q3' := by rw [hr', hE2z.i _ _ (by omega)]
        refine ⟨h20, ldU 2 σ2, 1 - bk, hokU', fun r k h1 h3 h4 => ?_, hLML.of hEP (fun r k z => by omega), ?_, ?_, ?_, ?_, ?_⟩
        · rw [(g r k (by omega)).1, hE2z.i _ _ (by omega)]
          rfl
        · refine EA_anew hokU' ho1 ?_ (fun j hj => ?_) ?_ ?_ ?_ ?_ (fun x hx => ?_) (fun j hj => ?_) s0 sr' s13 s56 s57 s137
          · rw [(g _ _ (by omega)).1, hE2z.i _ _ (by omega)]; exact c9
          · rw [(g _ _ (by omega)).1, hEz.i _ _ (by omega)]; exact v j hj
          · rw [(g _ _ (by omega)).1, hEz.i _ _ (by omega)]; exact v12
          · rw [(g _ _ (by omega)).1, hEz.i _ _ (by omega)]; exact v13
          · rw [(g _ _ (by omega)).1, hEz.i _ _ (by omega)]; exact c10
          · rw [(g _ _ (by omega)).1, hEz.i _ _ (by omega)]; exact c11
          · rw [(g _ _ (by omega)).1, hEz.i _ _ (by omega)]; exact c50 x hx
          · rw [(g _ _ (by omega)).1, hEz.i _ _ (by omega), hcv]; exact c48 j hj
        · exact Or.inl ⟨by rw [(g _ _ (by omega)).1]; exact z1, by rw [(g _ _ (by omega)).1]; exact z2, s60, s61⟩
        · exact ⟨0, by omega, by rw [(g _ _ (by omega)).1]; exact z3, s62, fun i hi => absurd hi (Nat.not_lt_zero _)⟩
        · obtain ⟨rn, rp1, rp2, rp3, rp4, rp5, rp6, rp7⟩ := hRP
          have e79 : gi τz 79 2 = gi σ 79 2 := by rw [(g _ _ (by omega)).1, hE2z.i _ _ (by omega), hEq2.i _ _ (by omega), hEs1.i _ _ (by omega)]
          exact ⟨0, by omega, by rw [(g _ _ (by omega)).1]; exact z4, s79, by rw [e79, gr 80 (by omega)]; exact rp4, by rw [e79]; exact rp5, by rw [e79]; exact rp6, fun i hi => absurd hi (Nat.not_lt_zero _)⟩
        · have e42 : ∀ k, gi τz 42 k = gi σ2 42 k := fun k => by rw [(g _ _ (by omega)).1, hE2z.i _ _ (by omega)]
          refine ⟨by rw [e01, e86 2 (by omega), kL2], by omega, by omega, fun i hi => ?_, by rw [e42, k42, e86 4 (by omega), kL4], by rw [e42, k43, e86 5 (by omega), kL5], by rw [gr 54 (by omega)]; exact t7⟩
          have e1i : gi τz 1 i = gi σ 1 i := by rw [(g _ _ (by omega)).1, hE2z.i _ _ (by omega), hEq2.i _ _ (by omega), hEs1.i _ _ (by omega)]
          have e87i : gi τz 87 i = gi σ 87 i := by rw [hEP.i _ _ (by omega), hEL.i _ _ (nPL _ _ (by omega)), hE2z.i _ _ (by omega), hEq2.i _ _ (by omega), hEs1.i _ _ (by omega)]
          rw [e1i, e87i]
          exact t4 i hi
      · omega
    · omega
