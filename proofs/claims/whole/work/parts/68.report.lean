/-! report -/
abbrev PRc (n : Nat) : Nat → Nat → Prop := fun r k => (r = 80 ∨ r = 81 ∨ r = 82) ∧ k = n ∨ r = 79 ∧ k = 3 ∨ PTk 83 r k
theorem x_tellC {ld σ : SS} (hok : LdOK ld) (hL : LC ld σ) {n : Nat} (h30 : n < 30) (p2 : gi σ 79 3 = n) {a b m : Nat} (hc : CPL ld a b m) {code w : Int} (hcode : code = 100 * (a : Int) + 10 * (b : Int) + (m : Int)) (hw : 0 ≤ w ∧ w ≤ 2) : Wp (f_Rp_tell code w σ) fun r τ => r = n ∧ gi τ 79 3 = (n : Int) + 1 ∧ gi τ 80 n = gi σ 79 2 ∧ gi τ 81 n = -1 ∧ bset (gj τ 82 n) (fun x => rpd (olP ld (gi ld 11) a b m) (x + 1) == w) ∧ EqP (PRc n) σ τ := by
  unfold f_Rp_tell
  rw [p2]
  refine wp_f (by omega) (wp_t (by omega) (wp_oc (by omega) (wp_os ?_)))
  rw [Int.toNat_natCast]
  have e5 : gi (si σ 80 n (gi σ 79 2)) 79 3 = n := by simp (disch := omega) only [gi_same, gi_ne_r, gi_ne_k, gi_sr_same, gi_sr_ne, gj_sj_same, gj_sj_ne_r, gj_sj_ne_k, gj_si, gi_sj, gj_sr, iwc, jwc, Int.toNat_natCast, tdn, tmn, b0, b1, yc0, yc1, p2]
  rw [e5, Int.toNat_natCast]
  refine wp_oc (by omega) (wp_os ?_)
  have hE8 : EqP (PRc n) σ (si (si σ 80 n (gi σ 79 2)) 81 n (-1)) := by repeat (first | exact EqP.rf _ _ | (refine EqP.si ?_ _ _ _ (by omega)) | (refine EqP.sj ?_ _ _ _ (by omega)) | (refine EqP.sr ?_ _ _ (fun k => by omega)))
  have e80 : gi (si (si σ 80 n (gi σ 79 2)) 81 n (-1)) 80 n = gi σ 79 2 := by simp (disch := omega) only [gi_same, gi_ne_r, gi_ne_k, gi_sr_same, gi_sr_ne, gj_sj_same, gj_sj_ne_r, gj_sj_ne_k, gj_si, gi_sj, gj_sr, iwc, jwc, Int.toNat_natCast, tdn, tmn, b0, b1, yc0, yc1]
  have e81 : gi (si (si σ 80 n (gi σ 79 2)) 81 n (-1)) 81 n = -1 := by simp (disch := omega) only [gi_same, gi_ne_r, gi_ne_k, gi_sr_same, gi_sr_ne, gj_sj_same, gj_sj_ne_r, gj_sj_ne_k, gj_si, gi_sj, gj_sr, iwc, jwc, Int.toNat_natCast, tdn, tmn, b0, b1, yc0, yc1]
  have e8 : gi (si (si σ 80 n (gi σ 79 2)) 81 n (-1)) 79 3 = n := by simp (disch := omega) only [gi_same, gi_ne_r, gi_ne_k, gi_sr_same, gi_sr_ne, gj_sj_same, gj_sj_ne_r, gj_sj_ne_k, gj_si, gi_sj, gj_sr, iwc, jwc, Int.toNat_natCast, tdn, tmn, b0, b1, yc0, yc1, p2]
  generalize si (si σ 80 n (gi σ 79 2)) 81 n (-1) = s8 at hE8 e80 e81 e8 ⊢
  refine wp_call (x_toldC hok (hL.of hE8 (fun r k z => by omega)) hc hcode) ?_
  rintro r10 s10 ⟨rfl, hE10⟩
  obtain ⟨v, hv, hbs⟩ := x_roadsBy _ _ (l60_rel hok (gi ld 11) hc) w hw s10
  refine wp_eq hv ?_
  rw [e8, Int.toNat_natCast]
  refine wp_oc (by omega) (wp_os (wp_os ?_))
  have e13 : gi (sj s10 82 n v) 79 3 = n := by rw [gi_sj, hE10.i _ _ (by omega)]; exact e8
  rw [e13, iwc (x := (n : Int) + 1) (by omega) (by omega), gi_same, iwc (x := (n : Int) + 1 - 1) (by omega) (by omega)]
  refine wp_some ⟨by omega, gi_same _ _ _ _, ?_, ?_, ?_, ?_⟩
  · rw [gi_ne_r _ _ _ _ (by omega), gi_sj, hE10.i _ _ (by omega)]; exact e80
  · rw [gi_ne_r _ _ _ _ (by omega), gi_sj, hE10.i _ _ (by omega)]; exact e81
  · rw [gj_si, gj_sj_same]; exact hbs
  · exact EqP.si (EqP.sj (hE8.tr (hE10.mo (fun r k h => by omega))) _ _ _ (by omega)) _ _ _ (by omega)
abbrev PRm (n : Nat) : Nat → Nat → Prop := fun r k => (r = 131 ∨ r = 132 ∨ r = 133 ∨ r = 134) ∧ k = n ∨ r = 86 ∧ k = 79 ∨ PTo r k
theorem x_tellM {ld σ : SS} (hok : LdOK ld) {bk : Nat} (hM : LM ld σ bk) (h54 : gi σ 86 54 = 0) {n : Nat} (h30 : n < 30) (p3 : gi σ 86 79 = n) {a b m : Nat} (hc : CPL ld a b m) (hcB : cplB ld a b m) {w : Int} (hw : 0 ≤ w ∧ w ≤ 2) : Wp (f_Mo_report a b m w σ) fun r τ => r = n ∧ gi τ 86 79 = (n : Int) + 1 ∧ gi τ 131 n = olP ld (gi ld 11) a b m ∧ gi τ 132 n = w ∧ gi τ 133 n = gi σ 86 80 ∧ gi τ 134 n = -1 ∧ gi τ 86 54 = 0 ∧ EqP (PRm n) σ τ := by
  unfold f_Mo_report
  refine wp_eq ((x_isCoupleM hok hM _ _ _).1 hcB) (wp_f (by decide) ?_)
  refine wp_b1 (x_isIn _ _ _ _) (by omega) (wp_f (by decide) (wp_f (by omega) ?_))
  refine wp_call (x_toldM hok hM hc h54) ?_
  rintro r7 s7 ⟨rfl, h547, hE7⟩
  rw [p3, Int.toNat_natCast]
  have m79 : gi s7 86 79 = n := by rw [hE7.i _ _ (by omega)]; exact p3
  have m80 : gi s7 86 80 = gi σ 86 80 := by rw [hE7.i _ _ (by omega)]
  generalize olP ld (gi ld 11) a b m = L
  refine wp_oc (by omega) (wp_os ?_)
  have f9 : gi (si s7 131 n L) 86 79 = n := by simp (disch := omega) only [gi_same, gi_ne_r, gi_ne_k, gi_sr_same, gi_sr_ne, gj_sj_same, gj_sj_ne_r, gj_sj_ne_k, gj_si, gi_sj, gj_sr, iwc, jwc, Int.toNat_natCast, tdn, tmn, b0, b1, yc0, yc1, m79]
  have g9 : gi (si s7 131 n L) 86 80 = gi σ 86 80 := by simp (disch := omega) only [gi_same, gi_ne_r, gi_ne_k, gi_sr_same, gi_sr_ne, gj_sj_same, gj_sj_ne_r, gj_sj_ne_k, gj_si, gi_sj, gj_sr, iwc, jwc, Int.toNat_natCast, tdn, tmn, b0, b1, yc0, yc1, m80]
  have k9 : gi (si s7 131 n L) 131 n = L := gi_same _ _ _ _
  have z9 : gi (si s7 131 n L) 86 54 = 0 := by simp (disch := omega) only [gi_same, gi_ne_r, gi_ne_k, gi_sr_same, gi_sr_ne, gj_sj_same, gj_sj_ne_r, gj_sj_ne_k, gj_si, gi_sj, gj_sr, iwc, jwc, Int.toNat_natCast, tdn, tmn, b0, b1, yc0, yc1, h547]
  have hE9 : EqP (PRm n) σ (si s7 131 n L) := EqP.si (hE7.mo (fun r k h => by omega)) _ _ _ (by omega)
  generalize si s7 131 n L = s9 at f9 g9 k9 z9 hE9 ⊢
  rw [f9, Int.toNat_natCast]
  refine wp_oc (by omega) (wp_os ?_)
  have f12 : gi (si s9 132 n w) 86 79 = n := by simp (disch := omega) only [gi_same, gi_ne_r, gi_ne_k, gi_sr_same, gi_sr_ne, gj_sj_same, gj_sj_ne_r, gj_sj_ne_k, gj_si, gi_sj, gj_sr, iwc, jwc, Int.toNat_natCast, tdn, tmn, b0, b1, yc0, yc1, f9]
  have g12 : gi (si s9 132 n w) 86 80 = gi σ 86 80 := by simp (disch := omega) only [gi_same, gi_ne_r, gi_ne_k, gi_sr_same, gi_sr_ne, gj_sj_same, gj_sj_ne_r, gj_sj_ne_k, gj_si, gi_sj, gj_sr, iwc, jwc, Int.toNat_natCast, tdn, tmn, b0, b1, yc0, yc1, g9]
  have k12 : gi (si s9 132 n w) 131 n = L := by simp (disch := omega) only [gi_same, gi_ne_r, gi_ne_k, gi_sr_same, gi_sr_ne, gj_sj_same, gj_sj_ne_r, gj_sj_ne_k, gj_si, gi_sj, gj_sr, iwc, jwc, Int.toNat_natCast, tdn, tmn, b0, b1, yc0, yc1, k9]
  have l12 : gi (si s9 132 n w) 132 n = w := gi_same _ _ _ _
  have z12 : gi (si s9 132 n w) 86 54 = 0 := by simp (disch := omega) only [gi_same, gi_ne_r, gi_ne_k, gi_sr_same, gi_sr_ne, gj_sj_same, gj_sj_ne_r, gj_sj_ne_k, gj_si, gi_sj, gj_sr, iwc, jwc, Int.toNat_natCast, tdn, tmn, b0, b1, yc0, yc1, z9]
  have hE12 : EqP (PRm n) σ (si s9 132 n w) := EqP.si hE9 _ _ _ (by omega)
  generalize si s9 132 n w = s12 at f12 g12 k12 l12 z12 hE12 ⊢
  rw [f12, g12, Int.toNat_natCast]
  refine wp_oc (by omega) (wp_os ?_)
  generalize gi σ 86 80 = T
  have f15 : gi (si s12 133 n T) 86 79 = n := by simp (disch := omega) only [gi_same, gi_ne_r, gi_ne_k, gi_sr_same, gi_sr_ne, gj_sj_same, gj_sj_ne_r, gj_sj_ne_k, gj_si, gi_sj, gj_sr, iwc, jwc, Int.toNat_natCast, tdn, tmn, b0, b1, yc0, yc1, f12]
  rw [f15, Int.toNat_natCast]
  refine wp_oc (by omega) (wp_os (wp_os ?_))
  have f18 : gi (si (si s12 133 n T) 134 n (-1)) 86 79 = n := by simp (disch := omega) only [gi_same, gi_ne_r, gi_ne_k, gi_sr_same, gi_sr_ne, gj_sj_same, gj_sj_ne_r, gj_sj_ne_k, gj_si, gi_sj, gj_sr, iwc, jwc, Int.toNat_natCast, tdn, tmn, b0, b1, yc0, yc1, f12]
  rw [f18, iwc (x := (n : Int) + 1) (by omega) (by omega), gi_same, iwc (x := (n : Int) + 1 - 1) (by omega) (by omega)]
  refine wp_some ⟨by omega, gi_same _ _ _ _, by simp (disch := omega) only [gi_same, gi_ne_r, gi_ne_k, gi_sr_same, gi_sr_ne, gj_sj_same, gj_sj_ne_r, gj_sj_ne_k, gj_si, gi_sj, gj_sr, iwc, jwc, Int.toNat_natCast, tdn, tmn, b0, b1, yc0, yc1, k12], by simp (disch := omega) only [gi_same, gi_ne_r, gi_ne_k, gi_sr_same, gi_sr_ne, gj_sj_same, gj_sj_ne_r, gj_sj_ne_k, gj_si, gi_sj, gj_sr, iwc, jwc, Int.toNat_natCast, tdn, tmn, b0, b1, yc0, yc1, l12], by simp (disch := omega) only [gi_same, gi_ne_r, gi_ne_k, gi_sr_same, gi_sr_ne, gj_sj_same, gj_sj_ne_r, gj_sj_ne_k, gj_si, gi_sj, gj_sr, iwc, jwc, Int.toNat_natCast, tdn, tmn, b0, b1, yc0, yc1], by simp (disch := omega) only [gi_same, gi_ne_r, gi_ne_k, gi_sr_same, gi_sr_ne, gj_sj_same, gj_sj_ne_r, gj_sj_ne_k, gj_si, gi_sj, gj_sr, iwc, jwc, Int.toNat_natCast, tdn, tmn, b0, b1, yc0, yc1], by simp (disch := omega) only [gi_same, gi_ne_r, gi_ne_k, gi_sr_same, gi_sr_ne, gj_sj_same, gj_sj_ne_r, gj_sj_ne_k, gj_si, gi_sj, gj_sr, iwc, jwc, Int.toNat_natCast, tdn, tmn, b0, b1, yc0, yc1, z12], ?_⟩
  exact EqP.si (EqP.si (EqP.si hE12 _ _ _ (by omega)) _ _ _ (by omega)) _ _ _ (by omega)
