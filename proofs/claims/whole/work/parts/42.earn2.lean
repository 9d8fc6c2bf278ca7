/-! the methods in earnest -/
abbrev PA : Nat → Nat → Prop := fun r k => r = 46 ∧ 2 ≤ k ∨ r = 47 ∨ r = 48 ∨ 51 ≤ r ∧ r ≤ 53 ∨ r = 18 ∨ r = 21 ∨ r = 86 ∧ (46 ≤ k ∧ k ≤ 51 ∨ k = 56 ∨ k = 57) ∨ r = 117 ∨ r = 118 ∨ r = 120
theorem Inv_act {ld σ τ : SS} {bk : Nat} (hok : LdOK ld) (hL : LC ld σ) (hM : LM ld σ bk) (hRO : RO ld σ) (hLY : LY σ) (hRP : RP σ) (hTA : TA σ) (he : EqP PA σ τ) (hEA : EA ld τ) : Inv τ :=
  ⟨ld, bk, hok, hL.of he (fun r k z => by omega), hM.of he (fun r k z => by omega), hEA, hRO.of (fun r k z => he.i r k (by omega)), hLY.of (fun r k z => he.i r k (by omega)), hRP.of (fun r k z => he r k (by omega)), hTA.of (fun r k z => he.i r k (by omega))⟩
/-- an act half done: the class's state V lies in the ring, the reference's old state in its row -/
def ACM (ld σ : SS) (V : Nat → Int) (t : SS) : Prop := ∃ old u d : Nat, old ≤ 40 ∧ u + d ≤ 40 ∧ (∀ i, i ≤ u + d → SR ld (fun j => gi σ 48 (41 * ((old + i) % 41) + j)) (mvr σ u i)) ∧
    (∀ x, x < 3 → gi σ 50 x = gi σ 137 x ∧ (gi σ 50 x = 0 ∨ gi σ 50 x = 1 ∧ SR ld (fun j => gi σ 49 (41 * x + j)) (fun j => gi σ 136 (44 * x + j)))) ∧
    (∀ r k, (r = 49 ∨ r = 50 ∨ r = 136 ∨ r = 137) → gi t r k = gi σ r k) ∧
    gi t 46 9 = old1 old u ∧ gi t 46 10 = u1f u ∧ gi t 46 11 = 0 ∧ gi t 86 56 = u1f u ∧ gi t 86 57 = 0 ∧
    (∀ j, j < 41 → gi t 48 (41 * ((old1 old u + u1f u) % 41) + j) = V j) ∧ (∀ s, s < 41 → s ≠ (old1 old u + u1f u) % 41 → ∀ j, j < 41 → gi t 48 (41 * s + j) = gi σ 48 (41 * s + j)) ∧
    ∀ i j, i < u1f u → j < 44 → gi t 120 (44 * i + j) = (if u < 40 then (if i < u then gi σ 120 (44 * i + j) else gi σ 118 j) else (if i < 39 then gi σ 120 (44 * (i + 1) + j) else gi σ 118 j))
/-- the same ahead of the reference's turn -/
def ACC (ld σ : SS) (V : Nat → Int) (t : SS) : Prop := ∃ old u d : Nat, old ≤ 40 ∧ u + d ≤ 40 ∧ gi σ 86 56 = u ∧ (∀ i, i ≤ u + d → SR ld (fun j => gi σ 48 (41 * ((old + i) % 41) + j)) (mvr σ u i)) ∧
    (∀ x, x < 3 → gi σ 50 x = gi σ 137 x ∧ (gi σ 50 x = 0 ∨ gi σ 50 x = 1 ∧ SR ld (fun j => gi σ 49 (41 * x + j)) (fun j => gi σ 136 (44 * x + j)))) ∧
    gi t 46 9 = old1 old u ∧ gi t 46 10 = u1f u ∧ gi t 46 11 = 0 ∧
    (∀ j, j < 41 → gi t 48 (41 * ((old1 old u + u1f u) % 41) + j) = V j) ∧ ∀ s, s < 41 → s ≠ (old1 old u + u1f u) % 41 → ∀ j, j < 41 → gi t 48 (41 * s + j) = gi σ 48 (41 * s + j)
abbrev PAc : Nat → Nat → Prop := fun r k => r = 46 ∧ 2 ≤ k ∧ k ≤ 7 ∨ r = 47 ∨ 51 ≤ r ∧ r ≤ 53 ∨ r = 18 ∨ r = 21
abbrev PAd : Nat → Nat → Prop := fun r k => r = 46 ∧ 2 ≤ k ∨ r = 47 ∨ r = 48 ∨ 51 ≤ r ∧ r ≤ 53 ∨ r = 18 ∨ r = 21
abbrev PAm : Nat → Nat → Prop := fun r k => r = 118 ∨ r = 117 ∨ r = 86 ∧ 46 ≤ k ∧ k ≤ 51
theorem x_actC {ld σ s6 : SS} (hEA : EA ld σ) (hE : EqP PAc σ s6) (hw : gi s6 46 4 = 0 ∨ gi s6 46 4 = 1) : Wp (f_Ea_keepAct s6) fun _ s7 => ACC ld σ (cv s6) s7 ∧ EqP PAd σ s7 ∧ EqP (fun r k => r = 46 ∧ 9 ≤ k ∧ k ≤ 11 ∨ r = 48) s6 s7 := by
  obtain ⟨hS, ⟨old, u, d, ho, hud, r9, r10, r11, a56, a57, hring⟩, hbox⟩ := hEA
  refine wp_mono (x_keepActC s6 old u ho (by omega) (by rw [hE.i _ _ (by omega)]; exact r9) (by rw [hE.i _ _ (by omega)]; exact r10) hw) ?_
  rintro _ s7 ⟨hE7, c1, c2, c3, c4, c5⟩
  refine ⟨⟨old, u, d, ho, hud, a56, hring, hbox, c1, c2, c3, c4, ?_⟩, (hE.mo (fun r k h => by omega)).tr (hE7.mo (fun r k h => by omega)), hE7⟩
  intro s hs hne j hj
  rw [c5 s hs hne j hj, hE.i _ _ (by omega)]
theorem x_actM {ld σ s7 : SS} {V : Nat → Int} (h : ACC ld σ V s7) (hE : EqP PAd σ s7) : Wp (f_Mo_keepAct s7) fun _ t => ACM ld σ V t ∧ EqP PA σ t ∧ EqP (fun r k => r = 86 ∧ (k = 56 ∨ k = 57) ∨ r = 120) s7 t := by
  obtain ⟨old, u, d, ho, hud, a56, hring, hbox, c1, c2, c3, c4, c5⟩ := h
  refine wp_mono (x_keepActM s7 u (by omega) (by rw [hE.i _ _ (by omega)]; exact a56)) ?_
  rintro _ t ⟨hE7, m1, m2, m3⟩
  refine ⟨⟨old, u, d, ho, hud, hring, hbox, ?_, ?_, ?_, ?_, m1, m2, ?_, ?_, ?_⟩, (hE.mo (fun r k h => by omega)).tr (hE7.mo (fun r k h => by omega)), hE7⟩
  · intro r k hr
    rw [hE7.i _ _ (by omega), hE.i _ _ (by omega)]
  · rw [hE7.i _ _ (by omega)]; exact c1
  · rw [hE7.i _ _ (by omega)]; exact c2
  · rw [hE7.i _ _ (by omega)]; exact c3
  · intro j hj
    rw [hE7.i _ _ (by omega)]; exact c4 j hj
  · intro s hs hne j hj
    rw [hE7.i _ _ (by omega)]; exact c5 s hs hne j hj
  · intro i j hi hj
    rw [m3 i j hi hj, hE.i 120 _ (by omega), hE.i 118 _ (by omega), hE.i 120 _ (by omega)]
theorem act_fin {ld σ t τ : SS} {V : Nat → Int} (h : ACM ld σ V t) (hE : EqP PAm t τ) (hV : ∀ j, j < 41 → cv τ j = V j) (hs : SR ld V (gi τ 118)) : EA ld τ := by
  obtain ⟨old, u, d, ho, hud, hring, hbox, hb, c1, c2, c3, m1, m2, r1, r2, w⟩ := h
  refine act_EA ho hud hring hbox (fun r k hr => by rw [hE.i _ _ (by omega)]; exact hb r k hr) (by rw [hE.i _ _ (by omega)]; exact c1) (by rw [hE.i _ _ (by omega)]; exact c2) (by rw [hE.i _ _ (by omega)]; exact c3) (by rw [hE.i _ _ (by omega)]; exact m1) (by rw [hE.i _ _ (by omega)]; exact m2) ?_ ?_ ?_ (hs.cg hV (fun _ _ => rfl))
  · intro j hj
    rw [hE.i _ _ (by omega), hV j hj]; exact r1 j hj
  · intro s hs hne j hj
    rw [hE.i _ _ (by omega)]; exact r2 s hs hne j hj
  · intro i j hi hj
    rw [hE.i _ _ (by omega)]; exact w i j hi hj
theorem cv_eq {P : Nat → Nat → Prop} {σ τ : SS} (he : EqP P σ τ) (hp : ∀ r k, (r = 46 ∧ 2 ≤ k ∧ k ≤ 7 ∨ r = 47 ∨ r = 51 ∧ 3 ≤ k ∧ k ≤ 6 ∨ r = 53) → ¬ P r k) : ∀ j, j < 41 → cv τ j = cv σ j := by
  intro j hj
  have g : ∀ r k, (r = 46 ∧ 2 ≤ k ∧ k ≤ 7 ∨ r = 47 ∨ r = 51 ∧ 3 ≤ k ∧ k ≤ 6 ∨ r = 53) → gi τ r k = gi σ r k := fun r k z => he.i r k (hp r k z)
  unfold cv
  rw [g 47 _ (by omega), g 46 2 (by omega), g 53 _ (by omega)]
  split
  · rfl
  · split
    · rfl
    · split
      · exact g 46 _ (by omega)
      · split
        · exact g 51 _ (by omega)
        · rfl
theorem doWalk_eq {ld σ : SS} {V : Nat → Int} (h : SR ld V (gi σ 118)) : f_Mo_doWalk σ = some (if V 13 = 1 then 1 else 0, σ) := by
  unfold f_Mo_doWalk
  rcases h.2 with ⟨h1, h2⟩ | ⟨h1, a, b, m, q, _, _, _, w, _⟩
  · rw [if_pos (by omega), if_neg (by omega)]
  · rw [if_neg (by rw [w.1]; omega), if_pos h1]
theorem SR.w01 {ld : SS} {V M : Nat → Int} (h : SR ld V M) : V 13 = 0 ∨ V 13 = 1 := by
  rcases h.2 with ⟨h1, _⟩ | ⟨h1, _⟩
  · exact Or.inl h1
  · exact Or.inr h1
theorem cv13 (σ : SS) : cv σ 13 = gi σ 46 4 := rfl
theorem cv12 (σ : SS) : cv σ 12 = gi σ 46 2 := rfl
theorem cv_t (σ : SS) (j : Nat) (h : j < 12) : cv σ j = gi σ 47 j := if_pos h
theorem cv53 (σ : SS) (i : Nat) : cv σ (21 + i) = gi σ 53 i := by
  unfold cv
  rw [if_neg (by omega), if_neg (by omega), if_neg (by omega), if_neg (by omega), Nat.add_sub_cancel_left]
theorem SRt_keep {σ s t : SS} (h : SRt (cv σ) (gi σ 118)) (h47 : ∀ k, gi s 47 k = gi σ 47 k) (h2 : gi s 46 2 = gi σ 46 2) (h118 : ∀ k, k < 13 → gi t 118 k = gi σ 118 k) : SRt (cv s) (gi t 118) := by
  obtain ⟨t1, t2, t3, t4⟩ := h
  refine ⟨fun j hj => ?_, ?_, ?_, ?_⟩
  · rw [cv_t _ j hj, h47, h118 _ (by omega), ← cv_t σ j hj]; exact t1 j hj
  · rw [cv12, h2, h118 _ (by omega)]; exact t2
  · rw [cv12, h2]; exact t3
  · rw [cv12, h2]; exact t4
def WYo (ld s : SS) : Prop := (gi s 46 6 = -1 ∧ gi s 46 7 = 0) ∨ ((0 ≤ gi s 46 6 ∧ gi s 46 6 < gi ld 2 4) ∧ (gi ld 6 (gi s 46 6).toNat = gi s 46 5 ∨ gi ld 7 (gi s 46 6).toNat = gi s 46 5) ∧ 0 ≤ gi s 46 7 ∧ gi s 46 7 < gi ld 8 (gi s 46 6).toNat)
theorem SR_walk {ld s t : SS} {a b m : Nat} {q : QQ} (T : SRt (cv s) (gi t 118)) (hw : gi s 46 4 = 1) (hc : CPL ld a b m) (hq : QOK q) (hT : TC s 51 a b m q) (hTM : TM t 118 a b m q) (e5 : gi s 46 5 = gi t 118 16) (e6 : gi s 46 6 = gi t 118 17) (e7 : gi s 46 7 = gi t 118 18) (hpl : 0 ≤ gi s 46 5 ∧ gi s 46 5 < gi ld 2 0) (hwy : WYo ld s) : SR ld (cv s) (gi t 118) := by
  refine ⟨T, Or.inr ⟨hw, a, b, m, q, hc, hq, ⟨hT.1, hT.2.1, hT.2.2.1, hT.2.2.2.1, ?_⟩, hTM, e5, e6, e7, hpl, hwy⟩⟩
  conv => rhs; rw [← hT.2.2.2.2]
  exact rowl_congr fun i _ => cv53 s i
theorem SR_get {ld σ t : SS} (h : SR ld (cv σ) (gi t 118)) (hw : gi σ 46 4 = 1) : ∃ a b m q, CPL ld a b m ∧ QOK q ∧ TC σ 51 a b m q ∧ TM t 118 a b m q ∧ gi σ 46 5 = gi t 118 16 ∧ gi σ 46 6 = gi t 118 17 ∧ gi σ 46 7 = gi t 118 18 ∧ (0 ≤ gi σ 46 5 ∧ gi σ 46 5 < gi ld 2 0) ∧ WYo ld σ := by
  rcases h.2 with ⟨h1, _⟩ | ⟨h1, a, b, m, q, hc, hq, ⟨v1, v2, v3, v4, v5⟩, hTM, e5, e6, e7, hpl, hwy⟩
  · rw [cv13] at h1; omega
  · refine ⟨a, b, m, q, hc, hq, ⟨v1, v2, v3, v4, ?_⟩, hTM, e5, e6, e7, hpl, hwy⟩
    conv => rhs; rw [← v5]
    exact rowl_congr fun i _ => (cv53 σ i).symm
theorem y_setOut (a b m p : Int) : MP (f_Qu_setOut a b m p) (f_Mo_setOut a b m p) := by
  rintro σ ⟨ld, bk, hok, hL, hM, hEA, hRO, hLY, hRP, hTA⟩
  have hI : Inv σ := ⟨ld, bk, hok, hL, hM, hEA, hRO, hLY, hRP, hTA⟩
  unfold f_Qu_setOut f_Mo_setOut
  by_cases hc : cplB ld a b m
  · refine wp_eq ((x_couple hok hL a b m).1 hc) ?_
    obtain ⟨a', b', m', rfl, rfl, rfl, hcp⟩ := cplB_nat hok hc
    refine wp_f (by omega) ?_
    by_cases hp : 0 ≤ p ∧ p < gi ld 2 0
    · refine wp_b1 (x_isPlaceC hok hL p) hp (wp_f (by decide) ?_)
      refine wp_ob ?_
      unfold f_Ea_beginWalk
      refine wp_call (x_begin (t := 51) hok hL (by omega) hcp rfl) ?_
      rintro _ s2 ⟨hT2, hE2⟩
      refine wp_os (wp_os (wp_os (wp_os ?_)))
      generalize hs6 : si (si (si (si s2 46 4 1) 46 5 p) 46 6 (-1)) 46 7 0 = s6
      have hE6 : EqP PAc σ s6 := by
        rw [← hs6]
        refine EqP.si (EqP.si (EqP.si (EqP.si (hE2.mo (fun r k h => by omega)) _ _ _ (by omega)) _ _ _ (by omega)) _ _ _ (by omega)) _ _ _ (by omega)
      have v4 : gi s6 46 4 = 1 := by rw [← hs6]; simp (disch := omega) only [gi_same, gi_ne_r, gi_ne_k, gi_sr_same, gi_sr_ne, gj_sj_same, gj_sj_ne_r, gj_sj_ne_k, gj_si, gi_sj, gj_sr, iwc, jwc, Int.toNat_natCast, tdn, tmn, b0, b1, yc0, yc1]
      have v5 : gi s6 46 5 = p := by rw [← hs6]; simp (disch := omega) only [gi_same, gi_ne_r, gi_ne_k, gi_sr_same, gi_sr_ne, gj_sj_same, gj_sj_ne_r, gj_sj_ne_k, gj_si, gi_sj, gj_sr, iwc, jwc, Int.toNat_natCast, tdn, tmn, b0, b1, yc0, yc1]
      have v6 : gi s6 46 6 = -1 := by rw [← hs6]; simp (disch := omega) only [gi_same, gi_ne_r, gi_ne_k, gi_sr_same, gi_sr_ne, gj_sj_same, gj_sj_ne_r, gj_sj_ne_k, gj_si, gi_sj, gj_sr, iwc, jwc, Int.toNat_natCast, tdn, tmn, b0, b1, yc0, yc1]
      have v7 : gi s6 46 7 = 0 := by rw [← hs6]; simp (disch := omega) only [gi_same, gi_ne_r, gi_ne_k, gi_sr_same, gi_sr_ne, gj_sj_same, gj_sj_ne_r, gj_sj_ne_k, gj_si, gi_sj, gj_sr, iwc, jwc, Int.toNat_natCast, tdn, tmn, b0, b1, yc0, yc1]
      have v2 : gi s6 46 2 = gi σ 46 2 := by rw [← hs6]; simp (disch := omega) only [gi_same, gi_ne_r, gi_ne_k, gi_sr_same, gi_sr_ne, gj_sj_same, gj_sj_ne_r, gj_sj_ne_k, gj_si, gi_sj, gj_sr, iwc, jwc, Int.toNat_natCast, tdn, tmn, b0, b1, yc0, yc1]; exact hE2.i _ _ (by omega)
      have v47 : ∀ k, gi s6 47 k = gi σ 47 k := fun k => by rw [← hs6]; simp (disch := omega) only [gi_same, gi_ne_r, gi_ne_k, gi_sr_same, gi_sr_ne, gj_sj_same, gj_sj_ne_r, gj_sj_ne_k, gj_si, gi_sj, gj_sr, iwc, jwc, Int.toNat_natCast, tdn, tmn, b0, b1, yc0, yc1]; exact hE2.i _ _ (by omega)
      have v51 : ∀ k, gi s6 51 k = gi s2 51 k := fun k => by rw [← hs6]; simp (disch := omega) only [gi_same, gi_ne_r, gi_ne_k, gi_sr_same, gi_sr_ne, gj_sj_same, gj_sj_ne_r, gj_sj_ne_k, gj_si, gi_sj, gj_sr, iwc, jwc, Int.toNat_natCast, tdn, tmn, b0, b1, yc0, yc1]
      have v53 : ∀ k, gi s6 53 k = gi s2 53 k := fun k => by rw [← hs6]; simp (disch := omega) only [gi_same, gi_ne_r, gi_ne_k, gi_sr_same, gi_sr_ne, gj_sj_same, gj_sj_ne_r, gj_sj_ne_k, gj_si, gi_sj, gj_sr, iwc, jwc, Int.toNat_natCast, tdn, tmn, b0, b1, yc0, yc1]
      clear hs6
      refine wp_call (x_actC hEA hE6 (Or.inr v4)) ?_
      rintro _ s7 ⟨hA7, hE7, hF7⟩
      refine wp_some (wp_some ?_)
      have hM7 := hM.of hE7 (fun r k z => by omega)
      refine wp_eq ((x_isCoupleM hok hM7 _ _ _).1 hc) (wp_f (by decide) ?_)
      refine wp_b1 (x_isPlaceM hok hM7 p) hp (wp_f (by decide) ?_)
      refine wp_call (x_actM hA7 hE7) ?_
      rintro _ t5 ⟨hA5, hE5, hF5⟩
      refine wp_call (x_beginM (u := 118) hok (hM.of hE5 (fun r k z => by omega)) (Or.inl rfl) hcp) ?_
      rintro _ t7 ⟨hT7, hG7⟩
      repeat (first | with_reducible refine wp_os ?_ | with_reducible refine wp_ol ?_ | (with_reducible refine wp_oc ?_ ?_; · (first | omega | (simp (disch := omega) only [gi_same, gi_ne_r, gi_ne_k, gi_sr_same, gi_sr_ne, gj_sj_same, gj_sj_ne_r, gj_sj_ne_k, gj_si, gi_sj, gj_sr, iwc, jwc, Int.toNat_natCast, tdn, tmn, b0, b1, yc0, yc1]; try omega))) | (with_reducible refine wp_t ?_ ?_; · (first | omega | (simp (disch := omega) only [gi_same, gi_ne_r, gi_ne_k, gi_sr_same, gi_sr_ne, gj_sj_same, gj_sj_ne_r, gj_sj_ne_k, gj_si, gi_sj, gj_sr, iwc, jwc, Int.toNat_natCast, tdn, tmn, b0, b1, yc0, yc1]; try omega))) | (with_reducible refine wp_f ?_ ?_; · (first | omega | (simp (disch := omega) only [gi_same, gi_ne_r, gi_ne_k, gi_sr_same, gi_sr_ne, gj_sj_same, gj_sj_ne_r, gj_sj_ne_k, gj_si, gi_sj, gj_sr, iwc, jwc, Int.toNat_natCast, tdn, tmn, b0, b1, yc0, yc1]; try omega))))
      have hG : EqP PAm t5 (si (si (si t7 118 16 p) 118 17 (-1)) 118 18 0) := by
        refine EqP.si (EqP.si (EqP.si (hG7.mo (fun r k h => by omega)) _ _ _ (by omega)) _ _ _ (by omega)) _ _ _ (by omega)
      have hq := begP_ok hok hcp.2.2.2.1
      refine wp_some ⟨rfl, Inv_act hok hL hM hRO hLY hRP hTA (hE5.tr (hG.mo (fun r k h => by omega))) (act_fin hA5 hG ?_ ?_)⟩
      · intro j hj
        rw [cv_eq hG (fun r k z => by omega) j hj, cv_eq hF5 (fun r k z => by omega) j hj, cv_eq hF7 (fun r k z => by omega) j hj]
      · have g118 : ∀ k, k < 13 → gi (si (si (si t7 118 16 p) 118 17 (-1)) 118 18 0) 118 k = gi σ 118 k := fun k hk => by
          simp (disch := omega) only [gi_same, gi_ne_r, gi_ne_k, gi_sr_same, gi_sr_ne, gj_sj_same, gj_sj_ne_r, gj_sj_ne_k, gj_si, gi_sj, gj_sr, iwc, jwc, Int.toNat_natCast, tdn, tmn, b0, b1, yc0, yc1]
          rw [hG7.i _ _ (by omega), hF5.i _ _ (by omega), hE7.i _ _ (by omega)]
        refine SR_walk (SRt_keep hEA.1.1 v47 v2 g118) v4 hcp hq.1 ?_ ?_ (by simp (disch := omega) only [gi_same, gi_ne_r, gi_ne_k, gi_sr_same, gi_sr_ne, gj_sj_same, gj_sj_ne_r, gj_sj_ne_k, gj_si, gi_sj, gj_sr, iwc, jwc, Int.toNat_natCast, tdn, tmn, b0, b1, yc0, yc1, v5]) (by simp (disch := omega) only [gi_same, gi_ne_r, gi_ne_k, gi_sr_same, gi_sr_ne, gj_sj_same, gj_sj_ne_r, gj_sj_ne_k, gj_si, gi_sj, gj_sr, iwc, jwc, Int.toNat_natCast, tdn, tmn, b0, b1, yc0, yc1, v6]) (by simp (disch := omega) only [gi_same, gi_ne_r, gi_ne_k, gi_sr_same, gi_sr_ne, gj_sj_same, gj_sj_ne_r, gj_sj_ne_k, gj_si, gi_sj, gj_sr, iwc, jwc, Int.toNat_natCast, tdn, tmn, b0, b1, yc0, yc1, v7]) (by omega) (Or.inl ⟨v6, v7⟩)
        · obtain ⟨c1, c2, c3, c4, c5⟩ := hT2
          refine ⟨by rw [v51]; exact c1, by rw [v51]; exact c2, by rw [v51]; exact c3, by rw [v51]; exact c4, ?_⟩
          conv => rhs; rw [← c5]
          exact rowl_congr fun i _ => v53 i
        · exact hT7.of (P := fun r k => r = 118 ∧ 16 ≤ k ∧ k ≤ 18) (by repeat (first | exact EqP.rf _ _ | (refine EqP.si ?_ _ _ _ (by omega)) | (refine EqP.sj ?_ _ _ _ (by omega)) | (refine EqP.sr ?_ _ _ (fun k => by omega)))) (fun k hk => by omega)
    · have : Wp (f_Mo_setOut a' b' m' p σ) fun r' σ2 => (-1 : Int) = r' ∧ Inv σ2 := by
        unfold f_Mo_setOut
        refine wp_eq ((x_isCoupleM hok hM _ _ _).1 hc) (wp_f (by decide) ?_)
        refine wp_b0 (x_isPlaceM hok hM p) hp (wp_t rfl (wp_some ⟨rfl, hI⟩))
      unfold f_Mo_setOut at this
      exact wp_b0 (x_isPlaceC hok hL p) hp (wp_t rfl (wp_some this))
  · refine wp_eq ((x_couple hok hL a b m).2 hc) (wp_t rfl (wp_some ?_))
    exact wp_eq ((x_isCoupleM hok hM a b m).2 hc) (wp_t rfl (wp_some ⟨rfl, hI⟩))
