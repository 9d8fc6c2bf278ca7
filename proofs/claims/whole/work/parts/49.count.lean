/-! adds, fair, turned -/
noncomputable def otN (ld : SS) (y : Nat) : Nat := (gi ld 7 y).toNat
noncomputable def ms2 (ld : SS) (tp : Nat → Int) (t : Nat × Nat × Nat) (y1 y2 : Nat) : Nat := msG ld tp t.1 t.2.1 t.2.2 (wfx (fun _ => y1) 1 y2) (wfx (fun _ => otN ld y1) 1 (otN ld y2)) 2 0 0 none 0
noncomputable def adP (ld : SS) (tp : Nat → Int) (y1 y2 : Nat) (t : Nat × Nat × Nat) : Bool := decide (ms2 ld tp t y1 y2 = ms1 ld tp t y1 0 + ms1 ld tp t y2 0)
noncomputable def cnt (P : Nat × Nat × Nat → Bool) (t : Nat × Nat × Nat) (n : Int) : Int := if P t then iw (n + 1) else n
theorem rI_cnt {P : Nat × Nat × Nat → Bool} {t : Nat × Nat × Nat} {n : Int} (h : rI n) : rI (cnt P t n) := by
  unfold cnt; split
  · exact rI_iw _
  · exact h
theorem EqP.hL {P : Nat → Nat → Prop} {ld a b : SS} (h : EqP P a b) (hL : LC ld a) (hp : ∀ r k, P r k → r < 2 ∨ 20 < r ∨ r = 18) : LC ld b := hL.of h hp
theorem otN_pl {ld : SS} (hok : LdOK ld) {y : Nat} (hy : (y : Int) < gi ld 2 4) : ((otN ld y : Nat) : Int) < gi ld 2 0 ∧ ((otN ld y : Nat) : Int) = gi ld 7 y := by
  have := (hok.wy hy).2.1
  unfold otN; omega
theorem oth_from {ld : SS} (hok : LdOK ld) {y : Nat} (hy : (y : Int) < gi ld 2 4) {p : Int} (hp : gi ld 6 y = p) : oth ld y p = (otN ld y : Nat) := by
  unfold oth
  rw [if_pos ⟨by omega, hy⟩, Int.toNat_natCast, if_pos hp]
  exact (otN_pl hok hy).2.symm
theorem x_add_stepC {ld : SS} (hok : LdOK ld) {tp : Nat → Int} {y1 y2 : Nat} (hy1 : (y1 : Int) < gi ld 2 4) (hy2 : (y2 : Int) < gi ld 2 4) (hj : gi ld 7 y1 = gi ld 6 y2) (Q : Int → SS → Prop) (σ0 : SS) (fu c : Nat) (st : Int) (σ : SS) (hc : c < 600) (hL : LC ld σ0) (htp : ∀ j, j < 12 → gi σ0 47 j = tp j) (hr : rI st) (hE : EqP PMe σ0 σ)
    (hk : ∀ σ', EqP PMe σ0 σ' → Wp (l_Fi_countAdding_5 y1 y2 fu (if cpB ld (dC c) = true then cnt (adP ld tp y1 y2) (dC c) st else st) ((c + 1 : Nat) : Int) σ') Q) : Wp (l_Fi_countAdding_5 y1 y2 (fu + 1) st c σ) Q := by
  have hLσ := hL.of hE (fun r k z => by omega)
  have htpσ : ∀ j, j < 12 → gi σ 47 j = tp j := fun j hj => by rw [hE.i _ _ (by omega)]; exact htp j hj
  have hi : iw ((c : Int) + 1) = ((c + 1 : Nat) : Int) := by rw [iwc (by omega) (by omega)]; omega
  rw [l_Fi_countAdding_5]
  refine wp_f (by omega) ?_
  by_cases hcp : cpB ld (dC c) = true
  · refine wp_b1 (x_isCoupleC hok hLσ c hc) hcp (wp_f (by decide) ?_)
    rw [if_pos hcp] at hk
    have hC := (cpB_iff hok _ _ _).mp hcp
    have hcode : (c : Int) = 100 * ((c / 100 : Nat) : Int) + 10 * ((c / 10 % 10 : Nat) : Int) + ((c % 10 : Nat) : Int) := by omega
    refine x_ms1C (tp := tp) hok hLσ htpσ hC y1 hy1 0 hcode ?_
    intro s6 hE6
    refine x_ms1C (tp := tp) hok (hLσ.of hE6 (fun r k z => by omega)) (fun j hj => by rw [hE6.i _ _ (by omega)]; exact htpσ j hj) hC y2 hy2 0 hcode ?_
    intro s8 hE8
    refine wp_ol ?_
    have hE08 : EqP PMe σ0 s8 := (hE.tr (hE6.mo (fun r k h => h))).tr (hE8.mo (fun r k h => h))
    have hL8 := hL.of hE08 (fun r k z => by omega)
    refine wp_call (x_setPath hok hL8 y1 hy1 0) ?_
    rintro _ s10 ⟨hR10, hP10, hE10⟩
    rw [if_pos rfl, if_pos rfl] at hR10 hP10
    have hL10 := hL8.of hE10 (fun r k z => by omega)
    have hpd : pend 1 (fun _ => (gi ld 7 y1).toNat) (gi ld 6 y1).toNat = (gi ld 7 y1).toNat := rfl
    have w1 := hok.wy hy1
    have ho : oth ld y2 (pend 1 (fun _ => (gi ld 7 y1).toNat) (gi ld 6 y1).toNat : Nat) = (otN ld y2 : Nat) := by
      rw [hpd]; exact oth_from hok hy2 (by omega)
    refine wp_call ((x_append hok hL10 62 (by omega) hP10 hR10 y2).1 ⟨by omega, by rw [ho]; omega⟩) ?_
    rintro _ s13 ⟨_, hR13, hE13⟩
    rw [ho, Int.toNat_natCast, Int.toNat_natCast] at hR13
    have hP13 := hP10.snoc hok (by omega) hy2 ho
    have hE013 : EqP PMe σ0 s13 := (hE08.tr (hE10.mo (fun r k h => by omega))).tr (hE13.mo (fun r k h => by omega))
    refine wp_call (x_measurePath (tp := tp) hok (hL.of hE013 (fun r k z => by omega)) (fun j hj => by rw [hE013.i _ _ (by omega)]; exact htp j hj) hC hP13 (by decide) hR13 hcode) ?_
    rintro r14 s14 ⟨hr14, hE14⟩
    have hE014 : EqP PMe σ0 s14 := hE013.tr (hE14.mo (fun r k h => by omega))
    have b1 := ms1_le hok (tp := tp) (t := (c / 100, c / 10 % 10, c % 10)) hy1 (back := 0)
    have b2 := ms1_le hok (tp := tp) (t := (c / 100, c / 10 % 10, c % 10)) hy2 (back := 0)
    rw [iwc (by omega) (by omega), hi]
    have hkk := hk s14 hE014
    have hms : r14 = (ms2 ld tp (dC c) y1 y2 : Nat) := hr14
    unfold cnt adP at hkk
    by_cases hd : ms2 ld tp (dC c) y1 y2 = ms1 ld tp (dC c) y1 0 + ms1 ld tp (dC c) y2 0
    · rw [decide_eq_true hd, if_pos rfl] at hkk
      refine wp_t ?_ hkk
      rw [hms, hd]; unfold dC; omega
    · rw [decide_eq_false hd, if_neg (by decide)] at hkk
      refine wp_f ?_ hkk
      rw [hms]; unfold dC at hd ⊢; omega
  · refine wp_b0 (x_isCoupleC hok hLσ c hc) hcp (wp_t rfl ?_)
    rw [if_neg hcp] at hk
    rw [hi]
    exact hk σ hE
theorem x_add_stepM {ld : SS} (hok : LdOK ld) {bk : Nat} {tp : Nat → Int} {y1 y2 : Nat} (hy1 : (y1 : Int) < gi ld 2 4) (hy2 : (y2 : Int) < gi ld 2 4) (hj : gi ld 7 y1 = gi ld 6 y2) (Q : Int → SS → Prop) (σ0 : SS) (fu c : Nat) (st : Int) (σ : SS) (hc : c < 216) (hM0 : LM ld σ0 bk) (hTp0 : TPM ld σ0 bk tp) (hr : rI st) (hE : EqP PMs σ0 σ)
    (hk : ∀ σ', EqP PMs σ0 σ' → Wp (l_Mo_adds_36 y1 y2 fu (if cpB ld (dM c) = true then cnt (adP ld tp y1 y2) (dM c) st else st) ((c + 1 : Nat) : Int) σ') Q) : Wp (l_Mo_adds_36 y1 y2 (fu + 1) st c σ) Q := by
  have hM := hM0.of hE (fun r k z => by omega)
  have hTp := hTp0.of hE (fun r k z => by omega)
  have hi : iw ((c : Int) + 1) = ((c + 1 : Nat) : Int) := by rw [iwc (by omega) (by omega)]; omega
  rw [l_Mo_adds_36]
  unfold f_Mo_coupleMany
  refine wp_eq rfl (wp_f (by omega) ?_)
  by_cases hcp : cpB ld (dM c) = true
  · refine wp_b1 (x_canBe hok hM c hc) hcp (wp_f (by decide) ?_)
    rw [if_pos hcp] at hk
    have hC := (cpB_iff hok _ _ _).mp hcp
    refine wp_call (x_measureBy hok hM hTp c hC y1 hy1 0) ?_
    rintro r5 s5 ⟨hr5, hE5⟩
    refine wp_call (x_measureBy hok (hM.of hE5 (fun r k z => by omega)) (hTp.of hE5 (fun r k z => by omega)) c hC y2 hy2 0) ?_
    rintro r6 s6 ⟨hr6, hE6⟩
    refine wp_ol (wp_os ?_)
    have hE08 : EqP PMs σ0 (si s6 86 68 0) := EqP.si ((hE.tr hE5).tr hE6) _ _ _ (by omega)
    have g8 : gi (si s6 86 68 0) 86 68 = ((0 : Nat) : Int) := gi_same _ _ _ _
    generalize si s6 86 68 0 = s8 at hE08 g8 ⊢
    have hM8 := hM0.of hE08 (fun r k z => by omega)
    have hT8 := hTp0.of hE08 (fun r k z => by omega)
    refine wp_eq (x_fromOf hok hM8 (y := (y1 : Int)) (by omega)) ?_
    rw [Int.toNat_natCast]
    have w1 := hok.wy hy1
    refine wp_call (x_measured hok hM8 hT8 c hC y1 (otN ld y1) hy1 (otN_pl hok hy1).1 (oth_from hok hy1 rfl) none trivial 0 (by omega) g8) ?_
    rintro r10 s10 ⟨hr10, hO10, g10, hE10⟩
    have hM10 := hM8.of hE10 (fun r k z => by omega)
    have hT10 := hT8.of hE10 (fun r k z => by omega)
    refine wp_eq (x_fromOf hok hM10 (y := (y2 : Int)) (by omega)) ?_
    rw [Int.toNat_natCast, hr10]
    have hcn := msW_cnt (ld := ld) (tp := tp) (a := c / 36) (b := c / 6 % 6) (m := c % 6) (y := y1) (e := otN ld y1) (gi ld 8 y1 - 0).toNat 0 none 0
    refine wp_call (x_measured hok hM10 hT10 c hC y2 (otN ld y2) hy2 (otN_pl hok hy2).1 (oth_from hok hy2 rfl) _ hO10 _ (by omega) g10) ?_
    rintro r12 s12 ⟨hr12, hO12, g12, hE12⟩
    have hE012 : EqP PMs σ0 s12 := (hE08.tr hE10).tr hE12
    have hms : gi s12 86 68 = (ms2 ld tp (dM c) y1 y2 : Nat) := by
      rw [g12]
      unfold ms2
      rw [msG, msG, msG]
      rfl
    have b1 := ms1_le hok (tp := tp) (t := dM c) hy1 (back := 0)
    have b2 := ms1_le hok (tp := tp) (t := dM c) hy2 (back := 0)
    rw [hms, hr5, hr6, iwc (x := ((ms1 ld tp (dM c) y1 0 : Nat) : Int) + ((ms1 ld tp (dM c) y2 0 : Nat) : Int)) (by omega) (by omega), hi]
    have hkk := hk s12 hE012
    unfold cnt adP at hkk
    by_cases hd : ms2 ld tp (dM c) y1 y2 = ms1 ld tp (dM c) y1 0 + ms1 ld tp (dM c) y2 0
    · rw [decide_eq_true hd, if_pos rfl] at hkk
      exact wp_t (by omega) (wp_ol hkk)
    · rw [decide_eq_false hd, if_neg (by decide)] at hkk
      refine wp_f (by omega) (wp_ol ?_)
      rw [Int.add_zero, iw_id hr]
      exact hkk
  · refine wp_b0 (x_canBe hok hM c hc) hcp (wp_t rfl ?_)
    rw [if_neg hcp] at hk
    rw [hi]
    exact hk σ hE
theorem y_adds (y1 y2 : Int) : MP (f_Qu_adds y1 y2) (f_Mo_adds y1 y2) := by
  rintro σ ⟨ld, bk, hok, hL, hM, hEA, hRO, hLY, hRP, hTA⟩
  have hI : Inv σ := ⟨ld, bk, hok, hL, hM, hEA, hRO, hLY, hRP, hTA⟩
  have l4 := hok.2.1
  unfold f_Qu_adds f_Mo_adds
  by_cases hy1 : 0 ≤ y1 ∧ y1 < gi ld 2 4
  · refine wp_b1 (x_isWayC hok hL y1) hy1 (wp_f (by decide) ?_)
    by_cases hy2 : 0 ≤ y2 ∧ y2 < gi ld 2 4
    · refine wp_b1 (x_isWayC hok hL y2) hy2 (wp_f (by decide) ?_)
      obtain ⟨z1, rfl⟩ : ∃ n : Nat, y1 = n := ⟨y1.toNat, by omega⟩
      obtain ⟨z2, rfl⟩ : ∃ n : Nat, y2 = n := ⟨y2.toNat, by omega⟩
      refine wp_oc (by omega) (wp_oc (by omega) ?_)
      rw [Int.toNat_natCast, Int.toNat_natCast, hL 7 z1 (by omega) (by omega) (by omega), hL 6 z2 (by omega) (by omega) (by omega)]
      have ref : ∀ (v : Int) (τ : SS), EqP PMe σ τ → v = (if gi ld 7 z1 = gi ld 6 z2 then (cps ld).foldl (fun s t => cnt (adP ld (gi σ 47) z1 z2) t s) 0 else -1) → Wp (f_Mo_adds z1 z2 τ) fun r' σ2 => v = r' ∧ Inv σ2 := by
        intro v τ hEτ hv
        have hMτ := hM.of hEτ (fun r k z => by omega)
        have hTτ := (tpm_ea (bk := bk) hEA hTA).of hEτ (fun r k z => by omega)
        unfold f_Mo_adds
        refine wp_b1 (x_isWayM hok hMτ _) hy1 (wp_f (by decide) ?_)
        refine wp_b1 (x_isWayM hok hMτ _) hy2 (wp_f (by decide) ?_)
        refine wp_eq (x_toOf hok hMτ hy1) ?_
        refine wp_eq (x_fromOf hok hMτ hy2) ?_
        rw [Int.toNat_natCast, Int.toNat_natCast]
        by_cases hj : gi ld 7 z1 = gi ld 6 z2
        · rw [if_pos hj] at hv
          refine wp_t hj ?_
          refine loopN (β := Int) 216 (fun fu c st s => l_Mo_adds_36 z1 z2 fu st c s) (fun c st => if cpB ld (dM c) = true then cnt (adP ld (gi σ 47) z1 z2) (dM c) st else st) (fun _ st s => rI st ∧ EqP PMs τ s) _ ?_ 216 0 FU 0 τ (by omega) (by unfold FU; omega) ⟨by unfold rI; omega, EqP.rf _ _⟩ ?_
          · rintro fu c st s hc ⟨hr, hE⟩ hk
            exact x_add_stepM hok hy1.2 hy2.2 hj _ τ fu c st s hc hMτ hTτ hr hE (fun σ' hE' => hk σ' ⟨by split; exact rI_cnt hr; exact hr, hE'⟩)
          · rintro fu' s ⟨hr, hE⟩
            show Wp (l_Mo_adds_36 z1 z2 (fu' + 1) _ ((216 : Nat) : Int) s) _
            rw [l_Mo_adds_36]
            unfold f_Mo_coupleMany
            refine wp_eq rfl (wp_t (by omega) (wp_some ⟨?_, hI.sc ((hEτ.mo (fun r k h => by omega)).tr (hE.mo (fun r k h => by omega)))⟩))
            rw [hv]
            exact (foldM (ld := ld) (cnt (adP ld (gi σ 47) z1 z2)) 0).symm
        · rw [if_neg hj] at hv
          exact wp_f hj (wp_some ⟨hv, hI.sc (hEτ.mo (fun r k h => by omega))⟩)
      unfold f_Mo_adds at ref
      by_cases hj : gi ld 7 z1 = gi ld 6 z2
      · refine wp_t hj (wp_ob ?_)
        unfold f_Fi_countAdding
        refine loopN (β := Int) 600 (fun fu c st s => l_Fi_countAdding_5 z1 z2 fu st c s) (fun c st => if cpB ld (dC c) = true then cnt (adP ld (gi σ 47) z1 z2) (dC c) st else st) (fun _ st s => rI st ∧ EqP PMe σ s) _ ?_ 600 0 FU 0 σ (by omega) (by unfold FU; omega) ⟨by unfold rI; omega, EqP.rf _ _⟩ ?_
        · rintro fu c st s hc ⟨hr, hE⟩ hk
          exact x_add_stepC hok hy1.2 hy2.2 hj _ σ fu c st s hc hL (fun _ _ => rfl) hr hE (fun σ' hE' => hk σ' ⟨by split; exact rI_cnt hr; exact hr, hE'⟩)
        · rintro fu' s ⟨hr, hE⟩
          show Wp (l_Fi_countAdding_5 z1 z2 (fu' + 1) _ ((600 : Nat) : Int) s) _
          rw [l_Fi_countAdding_5]
          refine wp_t (by omega) (wp_some (wp_some (ref _ s hE ?_)))
          rw [if_pos hj]
          exact foldC hok (cnt (adP ld (gi σ 47) z1 z2)) 0
      · exact wp_f hj (wp_some (ref _ σ (EqP.rf _ _) (by rw [if_neg hj])))
    · refine wp_b0 (x_isWayC hok hL y2) hy2 (wp_t rfl (wp_some ?_))
      refine wp_b1 (x_isWayM hok hM _) hy1 (wp_f (by decide) ?_)
      exact wp_b0 (x_isWayM hok hM _) hy2 (wp_t rfl (wp_some ⟨rfl, hI⟩))
  · refine wp_b0 (x_isWayC hok hL y1) hy1 (wp_t rfl (wp_some ?_))
    exact wp_b0 (x_isWayM hok hM _) hy1 (wp_t rfl (wp_some ⟨rfl, hI⟩))
/-! fair -/
noncomputable def frl (ld : SS) (tp : Nat → Int) (t : Nat × Nat × Nat) : Nat → Nat → Bool
  | 0, _ => true
  | r + 1, y => if ms1 ld tp t y 0 = ms1 ld tp t y 1 then frl ld tp t r (y + 1) else false
noncomputable def frP (ld : SS) (tp : Nat → Int) (t : Nat × Nat × Nat) : Bool := frl ld tp t (gi ld 2 4).toNat 0
theorem x_fair23 {ld : SS} (hok : LdOK ld) {tp : Nat → Int} (c : Nat) (hC : CPL ld (c / 100) (c / 10 % 10) (c % 10)) (self4 : Int → Int → SS → OO) (n : Int) (Q : Int → SS → Prop) (σ0 : SS) (hL : LC ld σ0) (htp : ∀ j, j < 12 → gi σ0 47 j = tp j) :
    ∀ (r y fu : Nat) (σ : SS), y + r = (gi ld 2 4).toNat → r + 1 < fu → EqP PMe σ0 σ → (∀ τ, EqP PMe σ0 τ → Wp (j_Fi_countFair_82 self4 n c (if frl ld tp (dC c) r y = true then 1 else 0) τ) Q) → Wp (l_Fi_countFair_23 self4 n c fu 1 y σ) Q := by
  have l4 := hok.2.1
  intro r
  induction r with
  | zero =>
    intro y fu σ hy hfu hE hk
    obtain ⟨fu, rfl⟩ : ∃ f, fu = f + 1 := ⟨fu - 1, by omega⟩
    rw [l_Fi_countFair_23]
    refine wp_t (by rw [hE.i _ _ (by omega), hL 2 4 (by omega) (by omega) (by omega)]; omega) ?_
    exact hk σ hE
  | succ r ih =>
    intro y fu σ hy hfu hE hk
    obtain ⟨fu, rfl⟩ : ∃ f, fu = f + 1 := ⟨fu - 1, by omega⟩
    have hLσ := hL.of hE (fun r k z => by omega)
    have htpσ : ∀ j, j < 12 → gi σ 47 j = tp j := fun j hj => by rw [hE.i _ _ (by omega)]; exact htp j hj
    have hy4 : (y : Int) < gi ld 2 4 := by omega
    have hcode : (c : Int) = 100 * ((c / 100 : Nat) : Int) + 10 * ((c / 10 % 10 : Nat) : Int) + ((c % 10 : Nat) : Int) := by omega
    rw [l_Fi_countFair_23]
    refine wp_f (by rw [hLσ 2 4 (by omega) (by omega) (by omega)]; omega) (wp_f (by decide) ?_)
    refine x_ms1C (tp := tp) hok hLσ htpσ hC y hy4 0 hcode ?_
    intro s5 hE5
    refine x_ms1C (tp := tp) hok (hLσ.of hE5 (fun r k z => by omega)) (fun j hj => by rw [hE5.i _ _ (by omega)]; exact htpσ j hj) hC y hy4 1 hcode ?_
    intro s7 hE7
    have hE07 : EqP PMe σ0 s7 := (hE.tr (hE5.mo (fun r k h => h))).tr (hE7.mo (fun r k h => h))
    rw [show iw ((y : Int) + 1) = ((y + 1 : Nat) : Int) by rw [iwc (by omega) (by omega)]; omega]
    rw [frl] at hk
    by_cases hd : ms1 ld tp (dC c) y 0 = ms1 ld tp (dC c) y 1
    · rw [if_pos hd] at hk
      refine wp_t (by unfold dC at hd; omega) ?_
      exact ih (y + 1) fu s7 (by omega) (by omega) hE07 hk
    · rw [if_neg hd] at hk
      refine wp_f (by unfold dC at hd; omega) ?_
      obtain ⟨fu, rfl⟩ : ∃ f, fu = f + 1 := ⟨fu - 1, by omega⟩
      have hkk := hk s7 hE07
      rw [if_neg (by decide)] at hkk
      rw [l_Fi_countFair_23]
      refine wp_i (fun _ => hkk) (fun _ => wp_t rfl hkk)
theorem x_fairM {ld : SS} (hok : LdOK ld) {bk : Nat} {tp : Nat → Int} (c : Nat) (hC : CPL ld (c / 36) (c / 6 % 6) (c % 6)) (σ0 : SS) (hM0 : LM ld σ0 bk) (hTp0 : TPM ld σ0 bk tp) :
    ∀ (r y fu : Nat) (σ : SS), y + r = (gi ld 2 4).toNat → r < fu → EqP PMs σ0 σ → Wp (l_Mo_isFair_2 c fu y σ) fun v τ => v = (if frl ld tp (dM c) r y = true then 1 else 0) ∧ EqP PMs σ0 τ := by
  have l4 := hok.2.1
  have hb := hM0.1
  intro r
  induction r with
  | zero =>
    intro y fu σ hy hfu hE
    obtain ⟨fu, rfl⟩ : ∃ f, fu = f + 1 := ⟨fu - 1, by omega⟩
    have hM := hM0.of hE (fun r k z => by omega)
    rw [l_Mo_isFair_2, hM.2.1, Int.toNat_natCast, hM.2.2.1.2.1]
    exact wp_oc (by omega) (wp_t (by omega) (wp_some ⟨rfl, hE⟩))
  | succ r ih =>
    intro y fu σ hy hfu hE
    obtain ⟨fu, rfl⟩ : ∃ f, fu = f + 1 := ⟨fu - 1, by omega⟩
    have hM := hM0.of hE (fun r k z => by omega)
    have hTp := hTp0.of hE (fun r k z => by omega)
    have hy4 : (y : Int) < gi ld 2 4 := by omega
    rw [l_Mo_isFair_2, hM.2.1, Int.toNat_natCast, hM.2.2.1.2.1]
    refine wp_oc (by omega) (wp_f (by omega) ?_)
    refine wp_call (x_measureBy hok hM hTp c hC y hy4 0) ?_
    rintro r4 s4 ⟨hr4, hE4⟩
    refine wp_call (x_measureBy hok (hM.of hE4 (fun r k z => by omega)) (hTp.of hE4 (fun r k z => by omega)) c hC y hy4 1) ?_
    rintro r5 s5 ⟨hr5, hE5⟩
    have hE05 : EqP PMs σ0 s5 := (hE.tr hE4).tr hE5
    rw [show iw ((y : Int) + 1) = ((y + 1 : Nat) : Int) by rw [iwc (by omega) (by omega)]; omega, frl]
    by_cases hd : ms1 ld tp (dM c) y 0 = ms1 ld tp (dM c) y 1
    · rw [if_pos hd]
      exact wp_t (by omega) (ih (y + 1) fu s5 (by omega) (by omega) hE05)
    · rw [if_neg hd]
      exact wp_f (by omega) (wp_some ⟨rfl, hE05⟩)
theorem y_fair : MP f_Qu_fair f_Mo_fair := by
  rintro σ ⟨ld, bk, hok, hL, hM, hEA, hRO, hLY, hRP, hTA⟩
  have hI : Inv σ := ⟨ld, bk, hok, hL, hM, hEA, hRO, hLY, hRP, hTA⟩
  have l4 := hok.2.1
  have hTp : TPM ld σ bk (gi σ 47) := tpm_ea hEA hTA
  unfold f_Qu_fair f_Mo_fair f_Fi_countFair
  refine wp_ob ?_
  refine loopN (β := Int) 600 (fun fu c st s => l_Fi_countFair_4 fu st c s) (fun c st => if cpB ld (dC c) = true then cnt (frP ld (gi σ 47)) (dC c) st else st) (fun _ st s => rI st ∧ EqP PMe σ s) _ ?_ 600 0 FU 0 σ (by omega) (by unfold FU; omega) ⟨by unfold rI; omega, EqP.rf _ _⟩ ?_
  · rintro fu c st s hc ⟨hr, hE⟩ hk
    have hi : iw ((c : Int) + 1) = ((c + 1 : Nat) : Int) := by rw [iwc (by omega) (by omega)]; omega
    have hLs := hL.of hE (fun r k z => by omega)
    show Wp (l_Fi_countFair_4 (fu + 1) st (c : Int) s) _
    rw [l_Fi_countFair_4]
    refine wp_f (by omega) ?_
    by_cases hcp : cpB ld (dC c) = true
    · refine wp_b1 (x_isCoupleC hok hLs c hc) hcp ?_
      rw [if_pos hcp] at hk
      have hC := (cpB_iff hok _ _ _).mp hcp
      refine x_fair23 hok (tp := gi σ 47) c hC (l_Fi_countFair_4 fu) st _ σ hL (fun _ _ => rfl) (gi ld 2 4).toNat 0 FU s (by omega) (by unfold FU; omega) hE ?_
      intro τ hEτ
      unfold j_Fi_countFair_82
      rw [hi]
      have hkk := hk τ ⟨rI_cnt hr, hEτ⟩
      unfold cnt frP at hkk
      by_cases hf : frl ld (gi σ 47) (dC c) (gi ld 2 4).toNat 0 = true
      · rw [if_pos hf] at hkk ⊢
        exact wp_f (by decide) hkk
      · rw [if_neg hf] at hkk ⊢
        exact wp_t rfl hkk
    · refine wp_b0 (x_isCoupleC hok hLs c hc) hcp ?_
      rw [if_neg hcp] at hk
      have hkk := hk s ⟨hr, hE⟩
      have fin : Wp (j_Fi_countFair_82 (l_Fi_countFair_4 fu) st c 0 s) fun r τ => Wp (some (r, τ)) fun r σ1 => Wp (l_Mo_fair_4 FU 0 0 σ1) fun r' σ2 => r = r' ∧ Inv σ2 := by
        unfold j_Fi_countFair_82
        rw [hi]
        exact wp_t rfl hkk
      obtain ⟨f', hf'⟩ : ∃ f', FU = f' + 1 := ⟨FU - 1, by unfold FU; omega⟩
      rw [hf', l_Fi_countFair_23, ← hf']
      exact wp_i (fun _ => fin) (fun _ => wp_t rfl fin)
  · rintro fu' s ⟨hr, hE⟩
    show Wp (l_Fi_countFair_4 (fu' + 1) _ ((600 : Nat) : Int) s) _
    rw [l_Fi_countFair_4]
    refine wp_t (by omega) (wp_some (wp_some ?_))
    rw [foldC hok (cnt (frP ld (gi σ 47))) 0]
    have hMs := hM.of hE (fun r k z => by omega)
    have hTs := hTp.of hE (fun r k z => by omega)
    refine loopN (β := Int) 216 (fun fu c st s => l_Mo_fair_4 fu st c s) (fun c st => if cpB ld (dM c) = true then cnt (frP ld (gi σ 47)) (dM c) st else st) (fun _ st t => rI st ∧ EqP PMs s t) _ ?_ 216 0 FU 0 s (by omega) (by unfold FU; omega) ⟨by unfold rI; omega, EqP.rf _ _⟩ ?_
    · rintro fu c st t hc ⟨hr, hE2⟩ hk
      have hi : iw ((c : Int) + 1) = ((c + 1 : Nat) : Int) := by rw [iwc (by omega) (by omega)]; omega
      have hMt := hMs.of hE2 (fun r k z => by omega)
      show Wp (l_Mo_fair_4 (fu + 1) st (c : Int) t) _
      rw [l_Mo_fair_4]
      unfold f_Mo_coupleMany
      refine wp_eq rfl (wp_f (by omega) ?_)
      rw [hi, Int.add_zero, iw_id hr]
      by_cases hcp : cpB ld (dM c) = true
      · refine wp_b1 (x_canBe hok hMt c hc) hcp (wp_f (by decide) ?_)
        rw [if_pos hcp] at hk
        have hC := (cpB_iff hok _ _ _).mp hcp
        unfold f_Mo_isFair
        refine wp_call (x_fairM hok (tp := gi σ 47) c hC s hMs hTs (gi ld 2 4).toNat 0 FU t (by omega) (by unfold FU; omega) hE2) ?_
        rintro r6 s6 ⟨hr6, hE6⟩
        have hkk := hk s6 ⟨rI_cnt hr, hE6⟩
        unfold cnt frP at hkk
        by_cases hf : frl ld (gi σ 47) (dM c) (gi ld 2 4).toNat 0 = true
        · rw [if_pos hf] at hkk hr6
          exact wp_f (by omega) (wp_ol hkk)
        · rw [if_neg hf] at hkk hr6
          exact wp_t hr6 (wp_ol hkk)
      · refine wp_b0 (x_canBe hok hMt c hc) hcp (wp_t rfl (wp_ol ?_))
        rw [if_neg hcp] at hk
        exact hk t ⟨hr, hE2⟩
    · rintro fu' t ⟨hr, hE2⟩
      show Wp (l_Mo_fair_4 (fu' + 1) _ ((216 : Nat) : Int) t) _
      rw [l_Mo_fair_4]
      unfold f_Mo_coupleMany
      refine wp_eq rfl (wp_t (by omega) (wp_some ⟨?_, hI.sc ((hE.mo (fun r k h => by omega)).tr (hE2.mo (fun r k h => by omega)))⟩))
      exact (foldM (ld := ld) (cnt (frP ld (gi σ 47))) 0).symm
