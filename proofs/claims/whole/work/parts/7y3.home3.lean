/-! home: the class goes along one way more -/
abbrev PDg (dep : Nat) : Nat → Nat → Prop := fun r k => (r = 72 ∧ dep + 1 ≤ k ∨ r = 73 ∧ dep + 1 ≤ k ∨ r = 74 ∧ 24 * (dep + 1) ≤ k) ∨ (r = 61 ∧ (k = 5 ∨ k = 19) ∨ r = 65) ∨ (76 ≤ r ∧ r ≤ 78 ∨ r = 18 ∨ r = 21)
theorem milP_ov {ld : SS} {tp : Nat → Int} {a b y e : Nat} : ∀ (r : Nat) (k : Int) (q : QQ), (milP ld tp a b y e r k q).1 = true → ovB (milP ld tp a b y e r k q).2.2 = true := by
  intro r
  induction r with
  | zero => intro k q h; rw [milP] at h; exact absurd h Bool.false_ne_true
  | succ r ih =>
    intro k q
    rw [milP]
    split
    · rename_i h; exact fun _ => h
    · exact ih _ _
theorem x_goH {ld : SS} (hok : LdOK ld) {tp : Nat → Int} {a b m : Nat} (hc : CPL ld a b m) (w e : Nat) (hw : (w : Int) < gi ld 2 4) (he : (e : Int) < gi ld 2 0) (dep : Nat) (σ0 : SS) (Q : Int → SS → Prop) :
    ∀ (r : Nat) (k : Int) (fu : Nat) (σ : SS) (q : QQ), k + r = gi ld 8 w → 0 ≤ k → r + 1 < fu → LC ld σ → (∀ j, j < 12 → gi σ 47 j = tp j) → EqP (PTk 76) σ0 σ → TC σ 76 a b m q → QOK q → ¬ overP q →
    (∀ τ, EqP (PTk 76) σ0 τ → TC τ 76 a b m (milP ld tp a b w e r k q).2.2 → Wp (j_Fi_goesOn_106 dep w e (milP ld tp a b w e r k q).2.1 τ) Q) → Wp (l_Fi_goesOn_65 dep w e fu k σ) Q := by
  have l8 := (hok.wy hw).2.2.2.1
  have l4 := hok.2.1
  have hcalm := (hok.pl he).1.1
  intro r
  induction r with
  | zero =>
    intro k fu σ q hk hk0 hfu hL htp hE hT hq ho hQ
    obtain ⟨fu, rfl⟩ : ∃ f, fu = f + 1 := ⟨fu - 1, by omega⟩
    rw [l_Fi_goesOn_65]
    refine wp_oc (by omega) ?_
    rw [Int.toNat_natCast, hL 8 w (by omega) (by omega) (by omega)]
    exact wp_t (by omega) (hQ σ hE hT)
  | succ r ih =>
    intro k fu σ q hk hk0 hfu hL htp hE hT hq ho hQ
    obtain ⟨fu, rfl⟩ : ∃ f, fu = f + 1 := ⟨fu - 1, by omega⟩
    rw [l_Fi_goesOn_65]
    refine wp_oc (by omega) ?_
    rw [Int.toNat_natCast, hL 8 w (by omega) (by omega) (by omega)]
    refine wp_f (by omega) ?_
    have hov : ¬ ovB q = true := fun z => ho (ovB_t.mp z)
    refine wp_b0 (x_overC hT hq) hov (wp_t rfl ?_)
    rw [iwc (x := k + 1) (by omega) (by omega)]
    refine wp_call (x_sayOnWay (u := 47) (tp := tp) (y := w) (e := e) hok hL (by omega) (by omega) rfl rfl htp hc hT hq ho hw he (k + 1)) ?_
    rintro _ s8 ⟨hT8, hE8⟩
    have hq8 := wayP_ok (ld := ld) (tp := tp) (a := a) (b := b) (y := w) (e := e) (k := k + 1) hq hcalm
    rw [milP] at hQ
    generalize wayP ld tp a b w e (k + 1) q = q8 at hT8 hq8 hQ
    have hE08 : EqP (PTk 76) σ0 s8 := hE.tr hE8
    have hL8 := hL.of hE8 (fun r k z => by omega)
    by_cases h : ovB q8 = true
    · rw [if_pos h] at hQ
      obtain ⟨fu, rfl⟩ : ∃ f, fu = f + 1 := ⟨fu - 1, by omega⟩
      rw [l_Fi_goesOn_65]
      refine wp_oc (by omega) ?_
      rw [Int.toNat_natCast, hL8 8 w (by omega) (by omega) (by omega)]
      by_cases hl : gi ld 8 w ≤ k + 1
      · exact wp_t hl (hQ s8 hE08 hT8)
      · exact wp_f hl (wp_b1 (x_overC hT8 hq8) h (wp_f (by decide) (hQ s8 hE08 hT8)))
    · rw [if_neg h] at hQ
      exact ih (k + 1) fu s8 q8 (by omega) (by omega) (by omega) hL8 (fun j hj => by rw [hE8.i _ _ (by omega)]; exact htp j hj) hE08 hT8 hq8 (ovB_f h) hQ
/-- what a way more brings: rows found, or a walk that goes on -/
noncomputable def onH (ld : SS) (tp : Nat → Int) (a b : Nat) (tt : Int) (pre : List Nat) (w p : Nat) (q : QQ) : List (List Nat) :=
  if oth ld w p = -1 then [] else if (mhH ld tp a b w p q).1 = true then (if (mhH ld tp a b w p q).2.1 = gi ld 8 w ∧ oth ld w p = tt then [pre ++ [w]] else []) else []
theorem x_goesOnH {ld : SS} (hok : LdOK ld) {tp : Nat → Int} {a b m : Nat} (hc : CPL ld a b m) {D : Nat} {tt : Int} (hD : D ≤ 4) (pre : List Nat) (hpd : pre.length < D) (w p : Nat) (hw : (w : Int) < gi ld 2 4) (q : QQ) (hq : QOK q) (ho : ¬ overP q) (s : HS) (hs : s.1 ≤ 1000000) (σ : SS) (hL : LC ld σ) (htp : ∀ j, j < 12 → gi σ 47 j = tp j) (g17 : gi σ 61 17 = tt) (g18 : gi σ 61 18 = D) (h72 : ∀ i (h : i < pre.length), gi σ 72 i = (pre[i] : Int)) (hw72 : gi σ 72 pre.length = w) (h73 : gi σ 73 pre.length = p) (hTS : TS σ (24 * pre.length) a b m q) (hH : HB σ s) :
    Wp (f_Fi_goesOn pre.length σ) fun v τ => EqP (PDg pre.length) σ τ ∧ ((v = 0 ∧ HB τ ((onH ld tp a b tt pre w p q).foldl hstep s) ∧ (oth ld w p ≠ -1 → (mhH ld tp a b w p q).1 = false → D ≤ pre.length + 1)) ∨ (v = 1 ∧ oth ld w p ≠ -1 ∧ (mhH ld tp a b w p q).1 = false ∧ pre.length + 1 < D ∧ HB τ s ∧ gi τ 73 (pre.length + 1) = oth ld w p ∧ gi τ 72 (pre.length + 1) = -1 ∧ TS τ (24 * (pre.length + 1)) a b m (mhH ld tp a b w p q).2.2)) := by
  have l4 := hok.2.1
  have l0 := hok.1
  have hor := oth_rng hok (w : Int) (p : Int)
  unfold f_Fi_goesOn
  refine wp_f (by omega) (wp_t (by omega) (wp_oc (by omega) (wp_ol (wp_oc (by omega) ?_))))
  rw [Int.toNat_natCast, hw72, h73]
  refine wp_eq (x_otherC hok hL _ _) ?_
  by_cases h1 : oth ld w p = -1
  · have hon : onH ld tp a b tt pre w p q = [] := if_pos h1
    rw [hon]
    exact wp_t h1 (wp_some ⟨EqP.rf _ _, Or.inl ⟨rfl, hH, fun z => absurd h1 z⟩⟩)
  refine wp_f h1 ?_
  obtain ⟨e, he⟩ : ∃ e : Nat, oth ld w p = e := ⟨(oth ld w p).toNat, by omega⟩
  have hmh : mhH ld tp a b w p q = milP ld tp a b w e (gi ld 8 w).toNat 0 q := by unfold mhH; rw [he, Int.toNat_natCast]
  have hon : onH ld tp a b tt pre w p q = (if (milP ld tp a b w e (gi ld 8 w).toNat 0 q).1 = true then (if (milP ld tp a b w e (gi ld 8 w).toNat 0 q).2.1 = gi ld 8 w ∧ (e : Int) = tt then [pre ++ [w]] else []) else []) := by
    unfold onH
    rw [if_neg h1, hmh, he]
  rw [show iw ((pre.length : Int) * 24) = ((24 * pre.length : Nat) : Int) by rw [iwc (by omega) (by omega)]; omega, hmh, he]
  have hel : (e : Int) < gi ld 2 0 := by omega
  refine wp_call (x_bringTS (24 * pre.length) (by omega) hTS hq.2.1) ?_
  rintro _ s1 ⟨hT1, hE1⟩
  have l8 := (hok.wy hw).2.2.2.1
  have hmq := milP_ok (tp := tp) (a := a) (b := b) (y := w) (hok.pl hel).1.1 (gi ld 8 w).toNat 0 q hq ho
  refine x_goH hok (tp := tp) hc w e hw hel pre.length s1 _ (gi ld 8 w).toNat 0 FU s1 q (by omega) (by omega) (by unfold FU; omega) (hL.of hE1 (fun r k z => by omega)) (fun j hj => by rw [hE1.i _ _ (by omega)]; exact htp j hj) (EqP.rf _ _) hT1 hq ho ?_
  intro s2 hE2 hT2
  have hmv := milP_ov (ld := ld) (tp := tp) (a := a) (b := b) (y := w) (e := e) (gi ld 8 w).toNat 0 q
  generalize milP ld tp a b w e (gi ld 8 w).toNat 0 q = M at hmq hT2 hmv hon ⊢
  have hE02 : EqP (PTk 76) σ s2 := hE1.tr hE2
  have hEg : EqP (PDg pre.length) σ s2 := hE02.mo (fun r k z => by omega)
  have hH2 : HB s2 s := hH.of hE02 (fun r k z => by omega)
  unfold j_Fi_goesOn_106
  have e1 : iw ((pre.length : Int) + 1) = ((pre.length + 1 : Nat) : Int) := by rw [iwc (by omega) (by omega)]; omega
  rw [e1]
  by_cases hM : M.1 = true
  · have nf : ∀ P : Prop, M.1 = false → P := fun P z => by rw [hM] at z; exact absurd z (by decide)
    have hover : ovB M.2.2 = true := hmv hM
    refine wp_b1 (x_overC hT2 hmq.1) hover (wp_f (by decide) (wp_oc (by omega) ?_))
    rw [Int.toNat_natCast, (hL.of hE02 (fun r k z => by omega)) 8 w (by omega) (by omega) (by omega), hE02.i 61 17 (by omega), g17]
    by_cases h2 : M.2.1 = gi ld 8 w
    · refine wp_t h2 ?_
      by_cases h3 : (e : Int) = tt
      · refine wp_t h3 ?_
        rw [show onH ld tp a b tt pre w p q = [pre ++ [w]] by rw [hon, if_pos hM, if_pos ⟨h2, h3⟩]]
        have hlr := x_layRow (pre ++ [w]) (by rw [List.length_append]; show pre.length + 1 ≤ 4; omega) (s := s) (σ := s2) hs (fun j hj => ?_) hH2
        · rw [show (pre ++ [w]).length = pre.length + 1 from List.length_append] at hlr
          refine wp_call hlr ?_
          rintro _ τ ⟨k1, k2⟩
          exact wp_some ⟨hEg.tr (k2.mo (fun r k z => by omega)), Or.inl ⟨rfl, k1, fun _ => nf _⟩⟩
        · have hj' : j < pre.length + 1 := by rw [List.length_append] at hj; exact hj
          rw [hE02.i _ _ (by omega)]
          by_cases e : j < pre.length
          · rw [List.getElem_append_left e]; exact h72 j e
          · obtain rfl : j = pre.length := by omega
            rw [List.getElem_append_right (by omega)]
            simp only [Nat.sub_self, List.getElem_cons_zero]
            exact hw72
      · rw [show onH ld tp a b tt pre w p q = [] by rw [hon, if_pos hM, if_neg (fun z => h3 z.2)]]
        exact wp_f h3 (wp_some ⟨hEg, Or.inl ⟨rfl, hH2, fun _ => nf _⟩⟩)
    · rw [show onH ld tp a b tt pre w p q = [] by rw [hon, if_pos hM, if_neg (fun z => h2 z.1)]]
      exact wp_f h2 (wp_some ⟨hEg, Or.inl ⟨rfl, hH2, fun _ => nf _⟩⟩)
  · rw [show onH ld tp a b tt pre w p q = [] by rw [hon, if_neg hM]]
    rw [Bool.not_eq_true] at hM
    have hov : ¬ ovB M.2.2 = true := fun z => hmq.2 hM (ovB_t.mp z)
    refine wp_b0 (x_overC hT2 hmq.1) hov (wp_t rfl ?_)
    rw [hE02.i 61 18 (by omega), g18]
    by_cases hd : D ≤ pre.length + 1
    · exact wp_t (by omega) (wp_some ⟨hEg, Or.inl ⟨rfl, hH2, fun _ _ => hd⟩⟩)
    · refine wp_f (by omega) (wp_t (by omega) (wp_oc (by omega) (wp_os (wp_oc (by omega) (wp_os ?_)))))
      rw [Int.toNat_natCast, show iw (((pre.length + 1 : Nat) : Int) * 24) = ((24 * (pre.length + 1) : Nat) : Int) by rw [iwc (by omega) (by omega)]; omega]
      have hE3 : EqP (fun r k => (r = 72 ∨ r = 73) ∧ k = pre.length + 1) s2 (si (si s2 73 (pre.length + 1) e) 72 (pre.length + 1) (-1)) := EqP.si (EqP.si (EqP.rf _ _) _ _ _ (by omega)) _ _ _ (by omega)
      have k73 : gi (si (si s2 73 (pre.length + 1) e) 72 (pre.length + 1) (-1)) 73 (pre.length + 1) = e := by rw [gi_ne_r _ _ _ _ (by omega)]; exact gi_same _ _ _ _
      have k72 : gi (si (si s2 73 (pre.length + 1) e) 72 (pre.length + 1) (-1)) 72 (pre.length + 1) = -1 := gi_same _ _ _ _
      generalize si (si s2 73 (pre.length + 1) e) 72 (pre.length + 1) (-1) = s3 at hE3 k73 k72 ⊢
      refine wp_call (x_putTS (24 * (pre.length + 1)) (by omega) (hT2.of hE3 (fun k => by omega)) hmq.1.2.1) ?_
      rintro _ τ ⟨k1, k2⟩
      refine wp_some ⟨(hEg.tr (hE3.mo (fun r k z => by omega))).tr (k2.mo (fun r k z => by omega)), Or.inr ⟨rfl, by omega, hM, by omega, (hH2.of hE3 (fun r k z => by omega)).of k2 (fun r k z => by omega), ?_, ?_, k1⟩⟩
      · rw [k2.i _ _ (by omega)]; exact k73
      · rw [k2.i _ _ (by omega)]; exact k72
