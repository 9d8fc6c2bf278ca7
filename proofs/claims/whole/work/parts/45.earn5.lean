theorem cv_hi (σ : SS) (j : Nat) (h : 13 ≤ j) : cv σ j = if j < 17 then gi σ 46 (j - 9) else if j < 21 then gi σ 51 (j - 14) else gi σ 53 (j - 21) := by
  unfold cv
  rw [if_neg (show ¬ j < 12 by omega), if_neg (show ¬ j = 12 by omega)]
theorem SR_upd {ld : SS} {V M V' M' : Nat → Int} (h : SR ld V M) (ht : SRt V' M') (hv : ∀ j, 13 ≤ j → j < 41 → V' j = V j) (hm : ∀ j, 13 ≤ j → j < 44 → M' j = M j) : SR ld V' M' := by
  obtain ⟨_, h5⟩ := h
  refine ⟨ht, ?_⟩
  rcases h5 with ⟨k1, k2⟩ | ⟨k1, a, b, m, q, w1, w2, ⟨v1, v2, v3, v4, v5⟩, ⟨u1, u2, u3, u4, u5, u6, u7⟩, w5, w6, w7, w8, w9⟩
  · exact Or.inl ⟨by rw [hv 13 (by omega) (by omega)]; exact k1, by rw [hm 13 (by omega) (by omega)]; exact k2⟩
  · refine Or.inr ⟨by rw [hv 13 (by omega) (by omega)]; exact k1, a, b, m, q, w1, w2, ⟨?_, ?_, ?_, ?_, ?_⟩, ⟨?_, ?_, ?_, ?_, ?_, ?_, ?_⟩, ?_, ?_, ?_, ?_, ?_⟩
    · rw [hv 17 (by omega) (by omega)]; exact v1
    · rw [hv 18 (by omega) (by omega)]; exact v2
    · rw [hv 19 (by omega) (by omega)]; exact v3
    · rw [hv 20 (by omega) (by omega)]; exact v4
    · conv => rhs; rw [← v5]
      have := w2.2.1
      exact rowl_congr fun i hi => hv _ (by omega) (by omega)
    · rw [hm 13 (by omega) (by omega)]; exact u1
    · rw [hm 14 (by omega) (by omega)]; exact u2
    · rw [hm 15 (by omega) (by omega)]; exact u3
    · rw [hm 20 (by omega) (by omega)]; exact u4
    · rw [hm 19 (by omega) (by omega)]; exact u5
    · rw [hm 21 (by omega) (by omega)]; exact u6
    · conv => rhs; rw [← u7]
      have := w2.2.1
      exact rowl_congr fun i hi => hm _ (by omega) (by omega)
    · rw [hv 14 (by omega) (by omega), hm 16 (by omega) (by omega)]; exact w5
    · rw [hv 15 (by omega) (by omega), hm 17 (by omega) (by omega)]; exact w6
    · rw [hv 16 (by omega) (by omega), hm 18 (by omega) (by omega)]; exact w7
    · rw [hv 14 (by omega) (by omega)]; exact w8
    · rw [hv 14 (by omega) (by omega), hv 15 (by omega) (by omega), hv 16 (by omega) (by omega)]; exact w9
theorem y_year : MP f_Qu_year f_Mo_year := by
  rintro σ ⟨ld, bk, hok, hL, hM, hEA, hRO, hLY, hRP, hTA⟩
  have hI : Inv σ := ⟨ld, bk, hok, hL, hM, hEA, hRO, hLY, hRP, hTA⟩
  have s6 := hok.2.2.1
  have e9 : gi σ 2 9 = gi ld 2 9 := hL 2 9 (by omega) (by omega) (by omega)
  obtain ⟨t1, t2, t3, t4⟩ := id hEA.1.1
  rw [cv12] at t2 t3 t4
  unfold f_Qu_year f_Mo_year f_Ea_passYear
  refine wp_ob ?_
  by_cases h0 : 0 < gi ld 2 9
  · refine wp_t (by omega) (wp_os ?_)
    have hsd : Int.tmod (iw (iw (gi σ 46 2 * 137) + 71)) 1000 = (gi σ 46 2 * 137 + 71) % 1000 := by
      rw [iwc (x := gi σ 46 2 * 137) (by omega) (by omega), iwc (by omega) (by omega), tmn _ (by omega)]
    rw [hsd]
    have hsr : 0 ≤ (gi σ 46 2 * 137 + 71) % 1000 ∧ (gi σ 46 2 * 137 + 71) % 1000 < 1000 := by omega
    have hsdM : Int.tmod (iw (iw (137 * gi σ 118 0) + 71)) 1000 = (gi σ 46 2 * 137 + 71) % 1000 := by
      rw [← t2, iwc (x := 137 * gi σ 46 2) (by omega) (by omega), iwc (by omega) (by omega), tmn _ (by omega)]
      congr 1; omega
    generalize (gi σ 46 2 * 137 + 71) % 1000 = sd at hsr hsdM ⊢
    obtain ⟨n, rfl⟩ : ∃ n : Nat, sd = n := ⟨sd.toNat, by omega⟩
    obtain ⟨S, hS⟩ : ∃ S : Nat, gi ld 2 9 = S := ⟨(gi ld 2 9).toNat, by omega⟩
    have g29 : gi (si σ 46 2 (n : Int)) 2 9 = S := by simp (disch := omega) only [gi_same, gi_ne_r, gi_ne_k, gi_sr_same, gi_sr_ne, gj_sj_same, gj_sj_ne_r, gj_sj_ne_k, gj_si, gi_sj, gj_sr, iwc, jwc, Int.toNat_natCast, tdn, tmn, b0, b1, yc0, yc1]; omega
    have g462 : gi (si σ 46 2 (n : Int)) 46 2 = n := by simp (disch := omega) only [gi_same, gi_ne_r, gi_ne_k, gi_sr_same, gi_sr_ne, gj_sj_same, gj_sj_ne_r, gj_sj_ne_k, gj_si, gi_sj, gj_sr, iwc, jwc, Int.toNat_natCast, tdn, tmn, b0, b1, yc0, yc1]
    rw [g29, g462]
    refine wp_oc (by omega) (wp_ol ?_)
    have hsl : Int.tmod (n : Int) (S : Int) = ((n % S : Nat) : Int) := by rw [tmn _ (by omega)]; exact (Int.natCast_emod n S).symm
    rw [hsl]
    have hslt : n % S < S := Nat.mod_lt _ (by omega)
    have hpar : Int.tmod (Int.tdiv (n : Int) 10) 2 = ((n / 10 % 2 : Nat) : Int) := by rw [tdn _ (by omega), tmn _ (by omega)]; omega
    rw [hpar]
    -- the place of the temper
    generalize hkk : 2 * (n % S) + n / 10 % 2 = kk
    have hk12 : kk < 12 := by omega
    generalize n % S = sl at hsl hslt hkk ⊢
    obtain ⟨q1, q2, q3⟩ := t1 kk hk12
    rw [cv_t _ kk hk12] at q1 q2 q3
    -- the class's new state
    have tail : Wp (j_Ea_passYear_67 (sl : Int) (kk : Int) (si σ 46 2 (n : Int))) fun r τ => Wp (some (r, τ) : OO) fun r σ1 => Wp (f_Mo_year σ1) fun r' σ2 => r = r' ∧ Inv σ2 := by
      unfold j_Ea_passYear_67
      refine wp_f (by omega) (wp_f (by omega) (wp_oc (by omega) (wp_oc (by omega) (wp_os ?_))))
      rw [Int.toNat_natCast]
      have hz : zmin (iw (gi (si σ 46 2 (n : Int)) 47 kk + 1)) 9 = if gi σ 47 kk < 9 then gi σ 47 kk + 1 else 9 := by
        simp (disch := omega) only [gi_same, gi_ne_r, gi_ne_k, gi_sr_same, gi_sr_ne, gj_sj_same, gj_sj_ne_r, gj_sj_ne_k, gj_si, gi_sj, gj_sr, iwc, jwc, Int.toNat_natCast, tdn, tmn, b0, b1, yc0, yc1]
        unfold zmin
        split <;> split <;> omega
      rw [hz]
      have hE6 : EqP PAc σ (si (si σ 46 2 (n : Int)) 47 kk (if gi σ 47 kk < 9 then gi σ 47 kk + 1 else 9)) := by repeat (first | exact EqP.rf _ _ | (refine EqP.si ?_ _ _ _ (by omega)) | (refine EqP.sj ?_ _ _ _ (by omega)) | (refine EqP.sr ?_ _ _ (fun k => by omega)))
      have hF6 : EqP (fun r k => r = 46 ∧ k = 2 ∨ r = 47 ∧ k = kk) σ (si (si σ 46 2 (n : Int)) 47 kk (if gi σ 47 kk < 9 then gi σ 47 kk + 1 else 9)) := by repeat (first | exact EqP.rf _ _ | (refine EqP.si ?_ _ _ _ (by omega)) | (refine EqP.sj ?_ _ _ _ (by omega)) | (refine EqP.sr ?_ _ _ (fun k => by omega)))
      have v2 : gi (si (si σ 46 2 (n : Int)) 47 kk (if gi σ 47 kk < 9 then gi σ 47 kk + 1 else 9)) 46 2 = n := by simp (disch := omega) only [gi_same, gi_ne_r, gi_ne_k, gi_sr_same, gi_sr_ne, gj_sj_same, gj_sj_ne_r, gj_sj_ne_k, gj_si, gi_sj, gj_sr, iwc, jwc, Int.toNat_natCast, tdn, tmn, b0, b1, yc0, yc1]
      have vk : gi (si (si σ 46 2 (n : Int)) 47 kk (if gi σ 47 kk < 9 then gi σ 47 kk + 1 else 9)) 47 kk = if gi σ 47 kk < 9 then gi σ 47 kk + 1 else 9 := by simp (disch := omega) only [gi_same, gi_ne_r, gi_ne_k, gi_sr_same, gi_sr_ne, gj_sj_same, gj_sj_ne_r, gj_sj_ne_k, gj_si, gi_sj, gj_sr, iwc, jwc, Int.toNat_natCast, tdn, tmn, b0, b1, yc0, yc1]
      generalize si (si σ 46 2 (n : Int)) 47 kk (if gi σ 47 kk < 9 then gi σ 47 kk + 1 else 9) = s6 at hE6 hF6 v2 vk ⊢
      unfold j_Ea_passYear_100
      have hw := hEA.1.w01
      rw [cv13, ← hF6.i 46 4 (by omega)] at hw
      refine wp_call (x_actC hEA hE6 hw) ?_
      rintro _ s7 ⟨hA7, hE7, hF7⟩
      refine wp_some (wp_some ?_)
      unfold f_Mo_year
      have hM7 := hM.of hE7 (fun r k z => by omega)
      refine wp_eq (x_soulMany hM7) (wp_f (by omega) ?_)
      refine wp_call (x_actM hA7 hE7) ?_
      rintro _ t5 ⟨hA5, hE5, hF5⟩
      refine wp_os ?_
      have g0 : gi t5 118 0 = gi σ 118 0 := by rw [hF5.i _ _ (by omega), hE7.i _ _ (by omega)]
      rw [g0, hsdM]
      have hM6 : LM ld (si t5 118 0 (n : Int)) bk := (hM.of hE5 (fun r k z => by omega)).of (P := fun r k => r = 118) (by repeat (first | exact EqP.rf _ _ | (refine EqP.si ?_ _ _ _ (by omega)) | (refine EqP.sj ?_ _ _ _ (by omega)) | (refine EqP.sr ?_ _ _ (fun k => by omega)))) (fun r k z => by omega)
      refine wp_eq (x_soulMany hM6) (wp_oc (by omega) (wp_ol (wp_ol ?_)))
      have g1 : gi (si t5 118 0 (n : Int)) 118 0 = n := by simp (disch := omega) only [gi_same, gi_ne_r, gi_ne_k, gi_sr_same, gi_sr_ne, gj_sj_same, gj_sj_ne_r, gj_sj_ne_k, gj_si, gi_sj, gj_sr, iwc, jwc, Int.toNat_natCast, tdn, tmn, b0, b1, yc0, yc1]
      rw [g1, hS, hsl, hpar, show iw (iw (1 + iw (2 * (sl : Int))) + ((n / 10 % 2 : Nat) : Int)) = ((1 + kk : Nat) : Int) by simp (disch := omega) only [iwc]; omega]
      refine wp_oc (by omega) ?_
      rw [Int.toNat_natCast]
      have hs118 : ∀ k, k ≠ 0 → gi (si t5 118 0 (n : Int)) 118 k = gi σ 118 k := fun k hk => by
        simp (disch := omega) only [gi_same, gi_ne_r, gi_ne_k, gi_sr_same, gi_sr_ne, gj_sj_same, gj_sj_ne_r, gj_sj_ne_k, gj_si, gi_sj, gj_sr, iwc, jwc, Int.toNat_natCast, tdn, tmn, b0, b1, yc0, yc1]
        rw [hF5.i _ _ (by omega), hE7.i _ _ (by omega)]
      have hG6 : EqP PAm t5 (si t5 118 0 (n : Int)) := by repeat (first | exact EqP.rf _ _ | (refine EqP.si ?_ _ _ _ (by omega)) | (refine EqP.sj ?_ _ _ _ (by omega)) | (refine EqP.sr ?_ _ _ (fun k => by omega)))
      rw [hs118 (1 + kk) (by omega), ← q1]
      have fin : ∀ τ, EqP PAm t5 τ → gi τ 118 0 = n → gi τ 118 (1 + kk) = (if gi σ 47 kk < 9 then gi σ 47 kk + 1 else 9) → (∀ k, k ≠ 0 → k ≠ 1 + kk → gi τ 118 k = gi σ 118 k) → Inv τ := by
        intro τ hG g0 gk gr
        refine Inv_act hok hL hM hRO hLY hRP hTA (hE5.tr (hG.mo (fun r k h => by omega))) (act_fin hA5 hG ?_ ?_)
        · intro j hj
          rw [cv_eq hG (fun r k z => by omega) j hj, cv_eq hF5 (fun r k z => by omega) j hj, cv_eq hF7 (fun r k z => by omega) j hj]
        · refine SR_upd hEA.1 ⟨fun j hj => ?_, ?_, ?_, ?_⟩ (fun j h1 h2 => ?_) (fun j h1 h2 => gr j (by omega) (by omega))
          · rw [cv_t _ j hj]
            by_cases hjk : j = kk
            · rw [hjk, vk, gk]
              refine ⟨rfl, ?_⟩
              split <;> omega
            · rw [hF6.i 47 j (by omega), gr (1 + j) (by omega) (by omega), ← cv_t σ j hj]
              exact t1 j hj
          · rw [cv12, v2, g0]
          · rw [cv12, v2]; omega
          · rw [cv12, v2]; omega
          · rw [cv_hi _ j h1, cv_hi _ j h1]
            split
            · exact hF6.i _ _ (by omega)
            · split
              · exact hF6.i _ _ (by omega)
              · exact hF6.i _ _ (by omega)
      by_cases h9 : 9 ≤ gi σ 47 kk
      · refine wp_t h9 (wp_some ⟨rfl, fin _ hG6 (by simp (disch := omega) only [gi_same, gi_ne_r, gi_ne_k, gi_sr_same, gi_sr_ne, gj_sj_same, gj_sj_ne_r, gj_sj_ne_k, gj_si, gi_sj, gj_sr, iwc, jwc, Int.toNat_natCast, tdn, tmn, b0, b1, yc0, yc1]) ?_ (fun k h1 h2 => hs118 k h1)⟩)
        rw [if_neg (by omega), hs118 _ (by omega)]; omega
      · refine wp_f h9 (wp_oc (by omega) (wp_oc (by omega) (wp_os (wp_some ⟨rfl, fin _ ?_ ?_ ?_ ?_⟩))))
        · exact EqP.si hG6 _ _ _ (by omega)
        · simp (disch := omega) only [gi_same, gi_ne_r, gi_ne_k, gi_sr_same, gi_sr_ne, gj_sj_same, gj_sj_ne_r, gj_sj_ne_k, gj_si, gi_sj, gj_sr, iwc, jwc, Int.toNat_natCast, tdn, tmn, b0, b1, yc0, yc1]
        · rw [if_pos (by omega)]; simp (disch := omega) only [gi_same, gi_ne_r, gi_ne_k, gi_sr_same, gi_sr_ne, gj_sj_same, gj_sj_ne_r, gj_sj_ne_k, gj_si, gi_sj, gj_sr, iwc, jwc, Int.toNat_natCast, tdn, tmn, b0, b1, yc0, yc1]
        · intro k h1 h2
          rw [gi_ne_k _ _ _ _ h2]; exact hs118 k h1
    by_cases hp : ((n / 10 % 2 : Nat) : Int) = 0
    · refine wp_t hp ?_
      rw [show iw (2 * (sl : Int)) = (kk : Int) by rw [iwc (by omega) (by omega)]; omega]
      exact wp_mono tail (fun r τ h => h)
    · refine wp_f hp ?_
      rw [show iw (iw (2 * (sl : Int)) + 1) = (kk : Int) by rw [iwc (x := 2 * (sl : Int)) (by omega) (by omega), iwc (by omega) (by omega)]; omega]
      exact wp_mono tail (fun r τ h => h)
  · refine wp_f (by omega) (wp_some (wp_some ?_))
    exact wp_eq (x_soulMany hM) (wp_t (by omega) (wp_some ⟨rfl, hI⟩))
/-! words said in earnest -/
abbrev WS : Type := Int × Int × Int × QQ
noncomputable def stW (ld : SS) (tp : Nat → Int) (a b : Nat) (s : WS) : WS :=
  if gi ld 8 s.2.1.toNat ≤ s.2.2.1 + 1 then (oth ld s.2.1 s.1, -1, 0, wayP ld tp a b s.2.1.toNat (oth ld s.2.1 s.1).toNat (s.2.2.1 + 1) s.2.2.2)
  else (s.1, s.2.1, s.2.2.1 + 1, wayP ld tp a b s.2.1.toNat (oth ld s.2.1 s.1).toNat (s.2.2.1 + 1) s.2.2.2)
def wEnd (s : WS) : Bool := decide (s.2.1 < 0) || ovB s.2.2.2
noncomputable def wdn (ld : SS) (tp : Nat → Int) (a b : Nat) : Nat → WS → WS
  | 0, s => s
  | n + 1, s => if wEnd s then s else wdn ld tp a b n (stW ld tp a b s)
noncomputable def wdc (ld : SS) (tp : Nat → Int) (a b : Nat) : Nat → WS → Nat
  | 0, _ => 0
  | n + 1, s => if wEnd s then 0 else wdc ld tp a b n (stW ld tp a b s) + 1
def WOK (ld : SS) (s : WS) : Prop := QOK s.2.2.2 ∧ (0 ≤ s.1 ∧ s.1 < gi ld 2 0) ∧ ((s.2.1 = -1 ∧ s.2.2.1 = 0) ∨ ((0 ≤ s.2.1 ∧ s.2.1 < gi ld 2 4) ∧ (gi ld 6 s.2.1.toNat = s.1 ∨ gi ld 7 s.2.1.toNat = s.1) ∧ 0 ≤ s.2.2.1 ∧ s.2.2.1 < gi ld 8 s.2.1.toNat))
theorem stW_ok {ld : SS} (hok : LdOK ld) {tp : Nat → Int} {a b : Nat} {s : WS} (h : WOK ld s) (hw : 0 ≤ s.2.1) : WOK ld (stW ld tp a b s) ∧ 0 ≤ oth ld s.2.1 s.1 ∧ oth ld s.2.1 s.1 < gi ld 2 0 := by
  obtain ⟨hq, hpl, hwy⟩ := h
  rcases hwy with ⟨h1, _⟩ | ⟨h1, h2, h3, h4⟩
  · omega
  have ho := (oth_val hok (y := s.2.1.toNat) (p := s.1) (by omega)).mpr h2
  rw [show ((s.2.1.toNat : Nat) : Int) = s.2.1 by omega] at ho
  have hr := oth_rng hok s.2.1 s.1
  have hp := (hok.pl (p := (oth ld s.2.1 s.1).toNat) (by omega)).1.1
  have hq2 := wayP_ok (ld := ld) (tp := tp) (a := a) (b := b) (y := s.2.1.toNat) (e := (oth ld s.2.1 s.1).toNat) (k := s.2.2.1 + 1) hq hp
  refine ⟨?_, ho, by omega⟩
  unfold stW
  by_cases hl : gi ld 8 s.2.1.toNat ≤ s.2.2.1 + 1
  · rw [if_pos hl]
    exact ⟨hq2, by dsimp only; omega, Or.inl ⟨rfl, rfl⟩⟩
  · rw [if_neg hl]
    exact ⟨hq2, hpl, Or.inr ⟨h1, h2, by dsimp only; omega, by dsimp only; omega⟩⟩
theorem wdn_ok {ld : SS} (hok : LdOK ld) {tp : Nat → Int} {a b : Nat} : ∀ (n : Nat) {s : WS}, WOK ld s → WOK ld (wdn ld tp a b n s) := by
  intro n
  induction n with
  | zero => intro s h; exact h
  | succ n ih =>
    intro s h
    rw [wdn]
    split
    · exact h
    · rename_i hw
      unfold wEnd at hw
      simp at hw
      exact ih (stW_ok hok h hw.1).1
def EC (σ : SS) (a b m : Nat) (s : WS) : Prop := gi σ 46 4 = 1 ∧ TC σ 51 a b m s.2.2.2 ∧ gi σ 46 5 = s.1 ∧ gi σ 46 6 = s.2.1 ∧ gi σ 46 7 = s.2.2.1
def EM (σ : SS) (a b m : Nat) (s : WS) : Prop := TM σ 118 a b m s.2.2.2 ∧ gi σ 118 16 = s.1 ∧ gi σ 118 17 = s.2.1 ∧ gi σ 118 18 = s.2.2.1
abbrev PWd : Nat → Nat → Prop := fun r k => r = 46 ∧ 5 ≤ k ∧ k ≤ 7 ∨ 51 ≤ r ∧ r ≤ 53 ∨ r = 18 ∨ r = 21
theorem x_sayOneC {ld σ : SS} (hok : LdOK ld) (hL : LC ld σ) {a b m : Nat} (hc : CPL ld a b m) {tp : Nat → Int} (htp : ∀ j, j < 12 → gi σ 47 j = tp j) {s : WS} (hE : EC σ a b m s) (hw : WOK ld s) (h0 : 0 ≤ s.2.1) (ho : ¬ ovB s.2.2.2 = true) : Wp (f_Ea_sayOne σ) fun _ τ => EC τ a b m (stW ld tp a b s) ∧ EqP PWd σ τ := by
  obtain ⟨g4, hT, g5, g6, g7⟩ := hE
  obtain ⟨_, o1, o2⟩ := stW_ok hok (tp := tp) (a := a) (b := b) hw h0
  obtain ⟨hq, hpl, hwy⟩ := hw
  rcases hwy with ⟨h1, _⟩ | ⟨h1, h2, h3, h4⟩
  · omega
  obtain ⟨l1, l2⟩ := (hok.wy (y := s.2.1.toNat) (by omega)).2.2.2.1
  have l4 := hok.2.1
  unfold f_Ea_sayOne
  refine wp_eq (x_otherC hok hL _ _) (wp_os ?_)
  rw [g6, g5, g7, iwc (by omega) (by omega)]
  have hE3 : EqP PWd σ (si σ 46 7 (s.2.2.1 + 1)) := by repeat (first | exact EqP.rf _ _ | (refine EqP.si ?_ _ _ _ (by omega)) | (refine EqP.sj ?_ _ _ _ (by omega)) | (refine EqP.sr ?_ _ _ (fun k => by omega)))
  have k5 : gi (si σ 46 7 (s.2.2.1 + 1)) 46 5 = s.1 := by simp (disch := omega) only [gi_same, gi_ne_r, gi_ne_k, gi_sr_same, gi_sr_ne, gj_sj_same, gj_sj_ne_r, gj_sj_ne_k, gj_si, gi_sj, gj_sr, iwc, jwc, Int.toNat_natCast, tdn, tmn, b0, b1, yc0, yc1, g5]
  have k6 : gi (si σ 46 7 (s.2.2.1 + 1)) 46 6 = s.2.1 := by simp (disch := omega) only [gi_same, gi_ne_r, gi_ne_k, gi_sr_same, gi_sr_ne, gj_sj_same, gj_sj_ne_r, gj_sj_ne_k, gj_si, gi_sj, gj_sr, iwc, jwc, Int.toNat_natCast, tdn, tmn, b0, b1, yc0, yc1, g6]
  have k7 : gi (si σ 46 7 (s.2.2.1 + 1)) 46 7 = s.2.2.1 + 1 := by simp (disch := omega) only [gi_same, gi_ne_r, gi_ne_k, gi_sr_same, gi_sr_ne, gj_sj_same, gj_sj_ne_r, gj_sj_ne_k, gj_si, gi_sj, gj_sr, iwc, jwc, Int.toNat_natCast, tdn, tmn, b0, b1, yc0, yc1]
  have k4 : gi (si σ 46 7 (s.2.2.1 + 1)) 46 4 = 1 := by simp (disch := omega) only [gi_same, gi_ne_r, gi_ne_k, gi_sr_same, gi_sr_ne, gj_sj_same, gj_sj_ne_r, gj_sj_ne_k, gj_si, gi_sj, gj_sr, iwc, jwc, Int.toNat_natCast, tdn, tmn, b0, b1, yc0, yc1, g4]
  have kT : TC (si σ 46 7 (s.2.2.1 + 1)) 51 a b m s.2.2.2 := hT.of (P := fun r k => r = 46) (by repeat (first | exact EqP.rf _ _ | (refine EqP.si ?_ _ _ _ (by omega)) | (refine EqP.sj ?_ _ _ _ (by omega)) | (refine EqP.sr ?_ _ _ (fun k => by omega)))) (fun k => by omega)
  generalize si σ 46 7 (s.2.2.1 + 1) = s3 at hE3 k4 k5 k6 k7 kT ⊢
  rw [k6, k7]
  have hL3 := hL.of hE3 (fun r k z => by omega)
  have hsw := x_sayOnWay (u := 47) (tp := tp) (y := s.2.1.toNat) (e := (oth ld s.2.1 s.1).toNat) hok hL3 (by omega) (by omega) rfl rfl (fun j hj => by rw [hE3.i _ _ (by omega)]; exact htp j hj) hc kT hq (ovB_f ho) (by omega) (by omega) (s.2.2.1 + 1)
  rw [show ((s.2.1.toNat : Nat) : Int) = s.2.1 by omega, show (((oth ld s.2.1 s.1).toNat : Nat) : Int) = oth ld s.2.1 s.1 by omega] at hsw
  refine wp_call hsw ?_
  rintro _ s6 ⟨hT6, hE6⟩
  have hL6 := hL3.of hE6 (fun r k z => by omega)
  have j4 : gi s6 46 4 = 1 := by rw [hE6.i _ _ (by omega)]; exact k4
  have j5 : gi s6 46 5 = s.1 := by rw [hE6.i _ _ (by omega)]; exact k5
  have j6 : gi s6 46 6 = s.2.1 := by rw [hE6.i _ _ (by omega)]; exact k6
  have j7 : gi s6 46 7 = s.2.2.1 + 1 := by rw [hE6.i _ _ (by omega)]; exact k7
  rw [j6]
  refine wp_b1 (x_isWayC hok hL6 _) h1 (wp_f (by decide) ?_)
  rw [j6, j7, hL6 8 _ (by omega) (by omega) (by omega)]
  refine wp_oc (by omega) ?_
  have hEs := hE3.tr (hE6.mo (fun r k h => by omega) : EqP PWd _ _)
  unfold stW
  by_cases hl : gi ld 8 s.2.1.toNat ≤ s.2.2.1 + 1
  · rw [if_pos hl]
    refine wp_f (by omega) (wp_os (wp_os (wp_os (wp_some ⟨⟨?_, ?_, ?_, ?_, ?_⟩, ?_⟩))))
    · simp (disch := omega) only [gi_same, gi_ne_r, gi_ne_k, gi_sr_same, gi_sr_ne, gj_sj_same, gj_sj_ne_r, gj_sj_ne_k, gj_si, gi_sj, gj_sr, iwc, jwc, Int.toNat_natCast, tdn, tmn, b0, b1, yc0, yc1, j4]
    · exact hT6.of (P := fun r k => r = 46) (by repeat (first | exact EqP.rf _ _ | (refine EqP.si ?_ _ _ _ (by omega)) | (refine EqP.sj ?_ _ _ _ (by omega)) | (refine EqP.sr ?_ _ _ (fun k => by omega)))) (fun k => by omega)
    · simp (disch := omega) only [gi_same, gi_ne_r, gi_ne_k, gi_sr_same, gi_sr_ne, gj_sj_same, gj_sj_ne_r, gj_sj_ne_k, gj_si, gi_sj, gj_sr, iwc, jwc, Int.toNat_natCast, tdn, tmn, b0, b1, yc0, yc1]
    · simp (disch := omega) only [gi_same, gi_ne_r, gi_ne_k, gi_sr_same, gi_sr_ne, gj_sj_same, gj_sj_ne_r, gj_sj_ne_k, gj_si, gi_sj, gj_sr, iwc, jwc, Int.toNat_natCast, tdn, tmn, b0, b1, yc0, yc1]
    · simp (disch := omega) only [gi_same, gi_ne_r, gi_ne_k, gi_sr_same, gi_sr_ne, gj_sj_same, gj_sj_ne_r, gj_sj_ne_k, gj_si, gi_sj, gj_sr, iwc, jwc, Int.toNat_natCast, tdn, tmn, b0, b1, yc0, yc1]
    · exact EqP.si (EqP.si (EqP.si hEs _ _ _ (by omega)) _ _ _ (by omega)) _ _ _ (by omega)
  · rw [if_neg hl]
    exact wp_t (by omega) (wp_some ⟨⟨j4, hT6, j5, j6, j7⟩, hEs⟩)
theorem x_wordsC_loop {ld : SS} (hok : LdOK ld) {a b m : Nat} (hc : CPL ld a b m) {tp : Nat → Int} (N : Nat) (hN : N ≤ 60) (Q : Int → SS → Prop) :
    ∀ (n i fu : Nat) (σ : SS) (s : WS), i + n = N → n < fu → LC ld σ → (∀ j, j < 12 → gi σ 47 j = tp j) → EC σ a b m s → WOK ld s → (∀ τ, EC τ a b m (wdn ld tp a b n s) → EqP PWd σ τ → Wp (j_Ea_sayWords_50 ((i + wdc ld tp a b n s : Nat) : Int) τ) Q) → Wp (l_Ea_sayWords_11 N fu i σ) Q := by
  intro n
  induction n with
  | zero =>
    intro i fu σ s hi hfu hL htp hE hw hQ
    obtain ⟨fu, rfl⟩ : ∃ f, fu = f + 1 := ⟨fu - 1, by omega⟩
    rw [l_Ea_sayWords_11]
    exact wp_t (by omega) (hQ σ hE (EqP.rf _ _))
  | succ n ih =>
    intro i fu σ s hi hfu hL htp hE hw hQ
    obtain ⟨fu, rfl⟩ : ∃ f, fu = f + 1 := ⟨fu - 1, by omega⟩
    rw [l_Ea_sayWords_11]
    refine wp_f (by omega) ?_
    by_cases h0 : 0 ≤ s.2.1
    · have h4 : s.2.1 < gi ld 2 4 := by obtain ⟨_, _, h | h⟩ := hw <;> omega
      refine wp_b1 (x_isWayC hok hL _) (by rw [hE.2.2.2.1]; exact ⟨h0, h4⟩) (wp_f (by decide) ?_)
      by_cases ho : ovB s.2.2.2 = true
      · refine wp_b1 (x_overC hE.2.1 hw.1) ho (wp_f (by decide) ?_)
        have e : wEnd s = true := by unfold wEnd; rw [ho]; simp
        rw [wdn, if_pos e, wdc, if_pos e] at hQ
        exact hQ σ hE (EqP.rf _ _)
      · refine wp_b0 (x_overC hE.2.1 hw.1) ho (wp_t rfl ?_)
        have e : ¬ wEnd s = true := by unfold wEnd; simp at ho ⊢; exact ⟨by omega, ho⟩
        rw [wdn, if_neg e, wdc, if_neg e] at hQ
        refine wp_call (x_sayOneC hok hL hc htp hE hw h0 ho) ?_
        rintro _ s8 ⟨hE8, hF8⟩
        rw [show iw ((i : Int) + 1) = ((i + 1 : Nat) : Int) by rw [iwc (by omega) (by omega)]; omega]
        refine ih (i + 1) fu s8 _ (by omega) (by omega) (hL.of hF8 (fun r k z => by omega)) (fun j hj => by rw [hF8.i _ _ (by omega)]; exact htp j hj) hE8 (stW_ok hok hw h0).1 ?_
        intro τ h1 h2
        have := hQ τ h1 (hF8.tr h2)
        rw [show i + (wdc ld tp a b n (stW ld tp a b s) + 1) = i + 1 + wdc ld tp a b n (stW ld tp a b s) by omega] at this
        exact this
    · refine wp_b0 (x_isWayC hok hL _) (by rw [hE.2.2.2.1]; omega) (wp_t rfl ?_)
      have e : wEnd s = true := by unfold wEnd; simp; left; omega
      rw [wdn, if_pos e, wdc, if_pos e] at hQ
      exact hQ σ hE (EqP.rf _ _)
abbrev PWm : Nat → Nat → Prop := fun r k => r = 118 ∧ 13 ≤ k ∨ r = 117 ∨ r = 86 ∧ 46 ≤ k ∧ k ≤ 51
theorem x_wordsM_loop {ld : SS} (hok : LdOK ld) {bk : Nat} {a b m : Nat} (hc : CPL ld a b m) {tp : Nat → Int} (N : Nat) (hN : N ≤ 60) :
    ∀ (n i fu : Nat) (σ : SS) (s : WS), i + n = N → n < fu → LM ld σ bk → TPM ld σ bk tp → EM σ a b m s → WOK ld s → Wp (l_Mo_words_25 N fu i σ) fun r τ => r = ((i + wdc ld tp a b n s : Nat) : Int) ∧ EM τ a b m (wdn ld tp a b n s) ∧ EqP PWm σ τ := by
  intro n
  induction n with
  | zero =>
    intro i fu σ s hi hfu hM hTp hE hw
    obtain ⟨fu, rfl⟩ : ∃ f, fu = f + 1 := ⟨fu - 1, by omega⟩
    rw [l_Mo_words_25]
    exact wp_t (by omega) (wp_some ⟨rfl, hE, EqP.rf _ _⟩)
  | succ n ih =>
    intro i fu σ s hi hfu hM hTp hE hw
    obtain ⟨fu, rfl⟩ : ∃ f, fu = f + 1 := ⟨fu - 1, by omega⟩
    obtain ⟨hT, g16, g17, g18⟩ := id hE
    rw [l_Mo_words_25]
    refine wp_f (by omega) ?_
    by_cases h0 : 0 ≤ s.2.1
    · refine wp_f (by omega) ?_
      by_cases ho : ovB s.2.2.2 = true
      · refine wp_b1 (x_overM (Or.inl rfl) hT) ho (wp_f (by decide) (wp_some ?_))
        have e : wEnd s = true := by unfold wEnd; rw [ho]; simp
        rw [wdn, if_pos e, wdc, if_pos e]
        exact ⟨rfl, hE, EqP.rf _ _⟩
      · refine wp_b0 (x_overM (Or.inl rfl) hT) ho (wp_t rfl ?_)
        have e : ¬ wEnd s = true := by unfold wEnd; simp at ho ⊢; exact ⟨by omega, ho⟩
        rw [wdn, if_neg e, wdc, if_neg e]
        obtain ⟨hw8, o1, o2⟩ := stW_ok hok (tp := tp) (a := a) (b := b) hw h0
        obtain ⟨hq, hpl, hwy⟩ := id hw
        rcases hwy with ⟨h1, _⟩ | ⟨h1, h2, h3, h4⟩
        · omega
        obtain ⟨l1, l2⟩ := (hok.wy (y := s.2.1.toNat) (by omega)).2.2.2.1
        have l4 := hok.2.1
        have l0 := hok.1
        refine wp_ol (wp_os ?_)
        rw [g17, g18, iwc (x := s.2.2.1 + 1) (by omega) (by omega)]
        have hE3 : EqP PWm σ (si σ 118 18 (s.2.2.1 + 1)) := by repeat (first | exact EqP.rf _ _ | (refine EqP.si ?_ _ _ _ (by omega)) | (refine EqP.sj ?_ _ _ _ (by omega)) | (refine EqP.sr ?_ _ _ (fun k => by omega)))
        have k16 : gi (si σ 118 18 (s.2.2.1 + 1)) 118 16 = s.1 := by simp (disch := omega) only [gi_same, gi_ne_r, gi_ne_k, gi_sr_same, gi_sr_ne, gj_sj_same, gj_sj_ne_r, gj_sj_ne_k, gj_si, gi_sj, gj_sr, iwc, jwc, Int.toNat_natCast, tdn, tmn, b0, b1, yc0, yc1, g16]
        have k17 : gi (si σ 118 18 (s.2.2.1 + 1)) 118 17 = s.2.1 := by simp (disch := omega) only [gi_same, gi_ne_r, gi_ne_k, gi_sr_same, gi_sr_ne, gj_sj_same, gj_sj_ne_r, gj_sj_ne_k, gj_si, gi_sj, gj_sr, iwc, jwc, Int.toNat_natCast, tdn, tmn, b0, b1, yc0, yc1, g17]
        have k18 : gi (si σ 118 18 (s.2.2.1 + 1)) 118 18 = s.2.2.1 + 1 := by simp (disch := omega) only [gi_same, gi_ne_r, gi_ne_k, gi_sr_same, gi_sr_ne, gj_sj_same, gj_sj_ne_r, gj_sj_ne_k, gj_si, gi_sj, gj_sr, iwc, jwc, Int.toNat_natCast, tdn, tmn, b0, b1, yc0, yc1]
        have kT : TM (si σ 118 18 (s.2.2.1 + 1)) 118 a b m s.2.2.2 := hT.of (P := fun r k => r = 118 ∧ k = 18) (by repeat (first | exact EqP.rf _ _ | (refine EqP.si ?_ _ _ _ (by omega)) | (refine EqP.sj ?_ _ _ _ (by omega)) | (refine EqP.sr ?_ _ _ (fun k => by omega)))) (fun k => by omega)
        generalize si σ 118 18 (s.2.2.1 + 1) = s10 at hE3 k16 k17 k18 kT ⊢
        have hM10 := hM.of hE3 (fun r k z => by omega)
        have hT10 := hTp.of hE3 (fun r k z => by omega)
        refine wp_eq (x_milesOf hok hM10 h1) ?_
        rw [k18]
        have hi1 : iw ((i : Int) + 1) = ((i + 1 : Nat) : Int) := by rw [iwc (by omega) (by omega)]; omega
        have last : ∀ (z0 : Int) (hz : (z0 = 1 ∧ gi ld 8 s.2.1.toNat ≤ s.2.2.1 + 1) ∨ (z0 = 0 ∧ ¬ gi ld 8 s.2.1.toNat ≤ s.2.2.1 + 1)), Wp (j_Mo_words_89 (l_Mo_words_25 N fu) N i s.2.1 z0 s10) fun r τ => r = ((i + (wdc ld tp a b n (stW ld tp a b s) + 1) : Nat) : Int) ∧ EM τ a b m (wdn ld tp a b n (stW ld tp a b s)) ∧ EqP PWm σ τ := by
          intro z0 hz
          unfold j_Mo_words_89
          refine wp_eq (x_otherM hok hM10 h1 _) ?_
          rw [k16]
          have say : ∀ z3 : Int, (z3 = if z0 = 0 then -1 else oth ld s.2.1 s.1) → Wp (j_Mo_words_122 (l_Mo_words_25 N fu) N i z0 (oth ld s.2.1 s.1) s.2.1 z3 s10) fun r τ => r = ((i + (wdc ld tp a b n (stW ld tp a b s) + 1) : Nat) : Int) ∧ EM τ a b m (wdn ld tp a b n (stW ld tp a b s)) ∧ EqP PWm σ τ := by
            intro z3 h3'
            unfold j_Mo_words_122
            refine wp_call (x_sayM hok hM10 hT10 (Or.inl rfl) hc kT hq (ovB_f ho) s.2.1 z3 (by omega) (by rw [h3']; split <;> omega)) ?_
            rintro _ s1 ⟨hT1, hE1⟩
            have hEs := hE3.tr (hE1.mo (fun r k h => by omega) : EqP PWm _ _)
            have hM1 := hM.of hEs (fun r k z => by omega)
            have hTp1 := hTp.of hEs (fun r k z => by omega)
            have hmid : midM ld s.2.1 z3 (sayP ld tp a b s.2.2.2) = wayP ld tp a b s.2.1.toNat (oth ld s.2.1 s.1).toNat (s.2.2.1 + 1) s.2.2.2 := by
              unfold midM endM wayP
              rw [if_neg (show ¬ s.2.1 < 0 by omega)]
              rcases hz with ⟨hz1, hz2⟩ | ⟨hz1, hz2⟩
              · rw [if_pos hz2, h3', if_neg (show ¬ z0 = 0 by omega), if_pos o1]
              · rw [if_neg hz2, h3', if_pos hz1, if_neg (show ¬ (0 : Int) ≤ -1 by omega)]
            rw [hmid] at hT1
            rw [show i + (wdc ld tp a b n (stW ld tp a b s) + 1) = i + 1 + wdc ld tp a b n (stW ld tp a b s) by omega]
            rcases hz with ⟨hz1, hz2⟩ | ⟨hz1, hz2⟩
            · refine wp_f (by omega) (wp_os (wp_os (wp_os ?_)))
              rw [hi1]
              have hEx : EqP PWm σ (si (si (si s1 118 16 (oth ld s.2.1 s.1)) 118 17 (-1)) 118 18 0) := EqP.si (EqP.si (EqP.si hEs _ _ _ (by omega)) _ _ _ (by omega)) _ _ _ (by omega)
              refine wp_mono (ih (i + 1) fu _ (stW ld tp a b s) (by omega) (by omega) (hM.of hEx (fun r k z => by omega)) (hTp.of hEx (fun r k z => by omega)) ?_ hw8) ?_
              · unfold stW
                rw [if_pos hz2]
                refine ⟨hT1.of (P := fun r k => r = 118 ∧ 16 ≤ k ∧ k ≤ 18) (by repeat (first | exact EqP.rf _ _ | (refine EqP.si ?_ _ _ _ (by omega)) | (refine EqP.sj ?_ _ _ _ (by omega)) | (refine EqP.sr ?_ _ _ (fun k => by omega)))) (fun k => by omega), ?_, ?_, ?_⟩
                · simp (disch := omega) only [gi_same, gi_ne_r, gi_ne_k, gi_sr_same, gi_sr_ne, gj_sj_same, gj_sj_ne_r, gj_sj_ne_k, gj_si, gi_sj, gj_sr, iwc, jwc, Int.toNat_natCast, tdn, tmn, b0, b1, yc0, yc1]
                · simp (disch := omega) only [gi_same, gi_ne_r, gi_ne_k, gi_sr_same, gi_sr_ne, gj_sj_same, gj_sj_ne_r, gj_sj_ne_k, gj_si, gi_sj, gj_sr, iwc, jwc, Int.toNat_natCast, tdn, tmn, b0, b1, yc0, yc1]
                · simp (disch := omega) only [gi_same, gi_ne_r, gi_ne_k, gi_sr_same, gi_sr_ne, gj_sj_same, gj_sj_ne_r, gj_sj_ne_k, gj_si, gi_sj, gj_sr, iwc, jwc, Int.toNat_natCast, tdn, tmn, b0, b1, yc0, yc1]
              · rintro r τ ⟨f1, f2, f3⟩
                exact ⟨f1, f2, hEx.tr f3⟩
            · refine wp_t hz1 ?_
              rw [hi1]
              refine wp_mono (ih (i + 1) fu s1 (stW ld tp a b s) (by omega) (by omega) hM1 hTp1 ?_ hw8) ?_
              · unfold stW
                rw [if_neg hz2]
                exact ⟨hT1, by rw [hE1.i _ _ (by omega)]; exact k16, by rw [hE1.i _ _ (by omega)]; exact k17, by rw [hE1.i _ _ (by omega)]; exact k18⟩
              · rintro r τ ⟨f1, f2, f3⟩
                exact ⟨f1, f2, hEs.tr f3⟩
          rcases hz with ⟨hz1, hz2⟩ | ⟨hz1, hz2⟩
          · exact wp_f (by omega) (say _ (by rw [if_neg (by omega)]))
          · exact wp_t hz1 (say _ (by rw [if_pos hz1]))
        by_cases hl : s.2.2.1 + 1 = gi ld 8 s.2.1.toNat
        · exact wp_t hl (last 1 (Or.inl ⟨rfl, by omega⟩))
        · exact wp_f hl (last 0 (Or.inr ⟨rfl, by omega⟩))
    · refine wp_t (by omega) (wp_some ?_)
      have e : wEnd s = true := by unfold wEnd; simp; left; omega
      rw [wdn, if_pos e, wdc, if_pos e]
      exact ⟨rfl, hE, EqP.rf _ _⟩
theorem y_words (n : Int) : MP (f_Qu_words n) (f_Mo_words n) := by
  rintro σ ⟨ld, bk, hok, hL, hM, hEA, hRO, hLY, hRP, hTA⟩
  have hI : Inv σ := ⟨ld, bk, hok, hL, hM, hEA, hRO, hLY, hRP, hTA⟩
  unfold f_Qu_words f_Mo_words
  by_cases hn : 0 ≤ n ∧ n ≤ 60
  · obtain ⟨N, rfl⟩ : ∃ k : Nat, n = k := ⟨n.toNat, by omega⟩
    refine wp_f (by omega) (wp_t (by omega) (wp_ob ?_))
    unfold f_Ea_sayWords
    rcases hEA.1.w01 with h0 | h0
    · refine wp_t h0 (wp_some (wp_some ?_))
      refine wp_b1 (x_isIn _ _ _ _) (by omega) (wp_f (by decide) ?_)
      exact wp_b0 (doWalk_eq hEA.1) (by omega) (wp_t rfl (wp_some ⟨rfl, hI⟩))
    rw [cv13] at h0
    obtain ⟨a, b, m, q, hcp, hq, hT, hTM, e5, e6, e7, hpl, hwy⟩ := SR_get hEA.1 h0
    refine wp_f (by omega) ?_
    have hEC : EC σ a b m (gi σ 46 5, gi σ 46 6, gi σ 46 7, q) := ⟨h0, hT, rfl, rfl, rfl⟩
    have hWO : WOK ld (gi σ 46 5, gi σ 46 6, gi σ 46 7, q) := ⟨hq, hpl, hwy⟩
    refine x_wordsC_loop (tp := gi σ 47) hok hcp N (by omega) _ N 0 FU σ _ (by omega) (by unfold FU; omega) hL (fun _ _ => rfl) hEC hWO ?_
    intro s6 hC6 hF6
    have hE6 : EqP PAc σ s6 := hF6.mo (fun r k h => by omega)
    unfold j_Ea_sayWords_50
    refine wp_call (x_actC hEA hE6 (Or.inr hC6.1)) ?_
    rintro _ s7 ⟨hA7, hE7, hF7⟩
    refine wp_some (wp_some ?_)
    refine wp_b1 (x_isIn _ _ _ _) (by omega) (wp_f (by decide) ?_)
    have hW7 : f_Mo_doWalk s7 = some (1, s7) := by
      unfold f_Mo_doWalk
      rw [hE7.i 118 13 (by omega), hTM.1, if_neg (by omega)]
    refine wp_eq hW7 (wp_f (by decide) ?_)
    refine wp_call (x_actM hA7 hE7) ?_
    rintro _ t5 ⟨hA5, hE5, hF5⟩
    have g118 : ∀ k, gi t5 118 k = gi σ 118 k := fun k => by rw [hF5.i _ _ (by omega), hE7.i _ _ (by omega)]
    have hTP5 : TPM ld t5 bk (gi σ 47) := by
      refine TPM.of (tpm_ea hEA hTA) (P := fun r k => r ≠ 118 ∧ PA r k) ?_ (fun r k h => by omega)
      intro r k hk
      by_cases hr : r = 118
      · subst hr; exact ⟨g118 k, by rw [hF5.j _ _ (by omega), hE7.j _ _ (by omega)]⟩
      · exact hE5 r k (fun z => hk ⟨hr, z⟩)
    have hEM : EM t5 a b m (gi σ 46 5, gi σ 46 6, gi σ 46 7, q) := by
      obtain ⟨c1, c2, c3, c4, c5, c6, c7⟩ := hTM
      refine ⟨⟨by rw [g118]; exact c1, by rw [g118]; exact c2, by rw [g118]; exact c3, by rw [g118]; exact c4, by rw [g118]; exact c5, by rw [g118]; exact c6, ?_⟩, by rw [g118]; exact e5.symm, by rw [g118]; exact e6.symm, by rw [g118]; exact e7.symm⟩
      conv => rhs; rw [← c7]
      exact rowl_congr fun i _ => g118 _
    refine wp_mono (x_wordsM_loop hok hcp N (by omega) N 0 FU t5 _ (by omega) (by unfold FU; omega) (hM.of hE5 (fun r k z => by omega)) hTP5 hEM hWO) ?_
    rintro r τ ⟨hr, hMτ, hG⟩
    refine ⟨hr.symm, Inv_act hok hL hM hRO hLY hRP hTA (hE5.tr (hG.mo (fun r k h => by omega))) (act_fin hA5 (hG.mo (fun r k h => by omega)) ?_ ?_)⟩
    · intro j hj
      rw [cv_eq hG (fun r k z => by omega) j hj, cv_eq hF5 (fun r k z => by omega) j hj, cv_eq hF7 (fun r k z => by omega) j hj]
    · obtain ⟨w1, w2, w3⟩ := wdn_ok hok (tp := gi σ 47) (a := a) (b := b) N hWO
      obtain ⟨x1, x2, x3, x4, x5⟩ := hC6
      obtain ⟨z1, z2, z3, z4⟩ := hMτ
      refine SR_walk (SRt_keep hEA.1.1 (fun k => hF6.i _ _ (by omega)) (hF6.i _ _ (by omega)) (fun k hk => by rw [hG.i _ _ (by omega), g118])) x1 hcp w1 x2 z1 (by rw [x3, z2]) (by rw [x4, z3]) (by rw [x5, z4]) (by rw [x3]; exact w2) ?_
      unfold WYo
      rw [x3, x4, x5]; exact w3
  · have : Wp (f_Mo_words n σ) fun r' σ2 => (-1 : Int) = r' ∧ Inv σ2 := by
      unfold f_Mo_words
      exact wp_b0 (x_isIn _ _ _ _) (by omega) (wp_t rfl (wp_some ⟨rfl, hI⟩))
    unfold f_Mo_words at this
    by_cases h3 : n < 0
    · exact wp_t h3 (wp_some this)
    · exact wp_f h3 (wp_f (by omega) (wp_some this))
