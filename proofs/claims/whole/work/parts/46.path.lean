/-! quarrels along ways -/
noncomputable def milP (ld : SS) (tp : Nat → Int) (a b y e : Nat) : Nat → Int → QQ → Bool × Int × QQ
  | 0, k, q => (false, k, q)
  | r + 1, k, q => if ovB (wayP ld tp a b y e (k + 1) q) then (true, k + 1, wayP ld tp a b y e (k + 1) q) else milP ld tp a b y e r (k + 1) (wayP ld tp a b y e (k + 1) q)
noncomputable def goP (ld : SS) (tp : Nat → Int) (a b : Nat) (wf ef : Nat → Nat) : Nat → Nat → Int → QQ → Bool × Nat × Int × QQ
  | 0, i, _, q => (false, i, 0, q)
  | r + 1, i, k, q => if (milP ld tp a b (wf i) (ef i) (gi ld 8 (wf i) - k).toNat k q).1 then (true, i, (milP ld tp a b (wf i) (ef i) (gi ld 8 (wf i) - k).toNat k q).2.1, (milP ld tp a b (wf i) (ef i) (gi ld 8 (wf i) - k).toNat k q).2.2)
    else goP ld tp a b wf ef r (i + 1) 0 (milP ld tp a b (wf i) (ef i) (gi ld 8 (wf i) - k).toNat k q).2.2
theorem milP_ok {ld : SS} {tp : Nat → Int} {a b y e : Nat} (hc : 0 ≤ gi ld 4 e) : ∀ (r : Nat) (k : Int) (q : QQ), QOK q → ¬ overP q → QOK (milP ld tp a b y e r k q).2.2 ∧ ((milP ld tp a b y e r k q).1 = false → ¬ overP (milP ld tp a b y e r k q).2.2) := by
  intro r
  induction r with
  | zero => intro k q hq ho; exact ⟨hq, fun _ => ho⟩
  | succ r ih =>
    intro k q hq ho
    rw [milP]
    have hq1 := wayP_ok (ld := ld) (tp := tp) (a := a) (b := b) (y := y) (e := e) (k := k + 1) hq hc
    split
    · exact ⟨hq1, fun z => by simp at z⟩
    · rename_i h
      exact ih _ _ hq1 (ovB_f h)
theorem milP_k {ld : SS} {tp : Nat → Int} {a b y e : Nat} : ∀ (r : Nat) (k : Int) (q : QQ), k ≤ (milP ld tp a b y e r k q).2.1 ∧ (milP ld tp a b y e r k q).2.1 ≤ k + r ∧ ((milP ld tp a b y e r k q).1 = true → k < (milP ld tp a b y e r k q).2.1) := by
  intro r
  induction r with
  | zero => intro k q; refine ⟨?_, ?_, fun z => ?_⟩ <;> simp [milP] at *
  | succ r ih =>
    intro k q
    rw [milP]
    split
    · dsimp only; omega
    · obtain ⟨h1, h2, h3⟩ := ih (k + 1) (wayP ld tp a b y e (k + 1) q)
      refine ⟨by omega, by omega, fun z => by have := h3 z; omega⟩
theorem Pth.ot {ld : SS} (hok : LdOK ld) {n : Nat} {wf ef : Nat → Nat} {p0 : Nat} (h : Pth ld n wf ef p0) {i : Nat} (hi : i < n) : oth ld (wf i) ((if i = 0 then p0 else ef (i - 1) : Nat) : Int) = ef i := by
  obtain ⟨h1, h2, h3⟩ := h.2.2 i hi
  have := (hok.wy h1).2.2.1
  unfold oth
  rw [if_pos ⟨by omega, h1⟩, Int.toNat_natCast]
  rcases h3 with ⟨k1, k2⟩ | ⟨k1, k2⟩
  · rw [if_pos k1]; exact k2
  · rw [if_neg (by omega), if_pos k1]; exact k2
abbrev PSt (t : Nat) : Nat → Nat → Prop := fun r k => r = t ∧ (k = 2 ∨ k = 3) ∨ t + 1 ≤ r ∧ r ≤ t + 3 ∨ r = 18 ∨ r = 21
theorem x_lengthOf {ld σ : SS} (hok : LdOK ld) (hL : LC ld σ) (t y : Nat) (hy : (y : Int) < gi ld 2 4) : f_St_lengthOf t y σ = some (gi ld 8 y, σ) := by
  have l4 := hok.2.1
  unfold f_St_lengthOf
  rw [x_isWayC hok hL, ob_eq, if_pos (show 0 ≤ (y : Int) ∧ (y : Int) < gi ld 2 4 from ⟨by omega, hy⟩), if_neg (by decide), oc_pos (by omega), Int.toNat_natCast, hL 8 y (by omega) (by omega) (by omega)]
theorem x_go44 {ld : SS} (hok : LdOK ld) {t u2 : Nat} (ht : 57 ≤ t) (hu2 : 42 ≤ u2 ∧ u2 + 2 < t) (hr1 : rN (t + 2) = 6) {tp : Nat → Int} {a b m : Nat} (hc : CPL ld a b m) (y e i : Nat) (hy : (y : Int) < gi ld 2 4) (he : (e : Int) < gi ld 2 0) (hi : i < 12) (self0 : SS → OO) (σ0 : SS) (Q : Int → SS → Prop) :
    ∀ (r : Nat) (k : Int) (fu : Nat) (σ : SS) (q : QQ), k + r = gi ld 8 y → 0 ≤ k → r < fu → LC ld σ → (∀ j, j < 12 → gi σ 47 j = tp j) → gi σ (u2 + 2) i = e → EqP (PSt t) σ0 σ → TC σ (t + 1) a b m q → QOK q → ¬ overP q → gi σ t 2 = i → gi σ t 3 = k →
    (∀ τ, EqP (PSt t) σ0 τ → (milP ld tp a b y e r k q).1 = true → TC τ (t + 1) a b m (milP ld tp a b y e r k q).2.2 → gi τ t 2 = i → gi τ t 3 = (milP ld tp a b y e r k q).2.1 → Q 1 τ) →
    (∀ τ, EqP (PSt t) σ0 τ → (milP ld tp a b y e r k q).1 = false → TC τ (t + 1) a b m (milP ld tp a b y e r k q).2.2 → gi τ t 2 = ((i + 1 : Nat) : Int) → gi τ t 3 = 0 → Wp (self0 τ) Q) →
    Wp (l_St_goOn_44 t 47 u2 self0 y (gi ld 8 y) fu σ) Q := by
  have l8 := (hok.wy hy).2.2.2.1
  have hcalm := (hok.pl he).1.1
  intro r
  induction r with
  | zero =>
    intro k fu σ q hk hk0 hfu hL htp hen hE hT hq ho g2 g3 _ hself
    obtain ⟨fu, rfl⟩ : ∃ f, fu = f + 1 := ⟨fu - 1, by omega⟩
    rw [l_St_goOn_44]
    refine wp_t (by omega) (wp_os (wp_os ?_))
    rw [g2, iwc (by omega) (by omega)]
    refine hself _ (EqP.si (EqP.si hE _ _ _ (by omega)) _ _ _ (by omega)) rfl ?_ ?_ ?_
    · exact hT.of (P := fun r k => r = t) (by repeat (first | exact EqP.rf _ _ | (refine EqP.si ?_ _ _ _ (by omega)) | (refine EqP.sj ?_ _ _ _ (by omega)) | (refine EqP.sr ?_ _ _ (fun k => by omega)))) (fun k => by omega)
    · simp (disch := omega) only [gi_same, gi_ne_r, gi_ne_k, gi_sr_same, gi_sr_ne, gj_sj_same, gj_sj_ne_r, gj_sj_ne_k, gj_si, gi_sj, gj_sr, iwc, jwc, Int.toNat_natCast, tdn, tmn, b0, b1, yc0, yc1]
      omega
    · simp (disch := omega) only [gi_same, gi_ne_r, gi_ne_k, gi_sr_same, gi_sr_ne, gj_sj_same, gj_sj_ne_r, gj_sj_ne_k, gj_si, gi_sj, gj_sr, iwc, jwc, Int.toNat_natCast, tdn, tmn, b0, b1, yc0, yc1]
  | succ r ih =>
    intro k fu σ q hk hk0 hfu hL htp hen hE hT hq ho g2 g3 hover hself
    obtain ⟨fu, rfl⟩ : ∃ f, fu = f + 1 := ⟨fu - 1, by omega⟩
    rw [l_St_goOn_44]
    refine wp_f (by omega) (wp_os ?_)
    rw [g3, iwc (by omega) (by omega)]
    have hE4 : EqP (PSt t) σ0 (si σ t 3 (k + 1)) := EqP.si hE _ _ _ (by omega)
    have hF4 : EqP (fun r _ => r = t) σ (si σ t 3 (k + 1)) := by repeat (first | exact EqP.rf _ _ | (refine EqP.si ?_ _ _ _ (by omega)) | (refine EqP.sj ?_ _ _ _ (by omega)) | (refine EqP.sr ?_ _ _ (fun k => by omega)))
    have k2 : gi (si σ t 3 (k + 1)) t 2 = i := by simp (disch := omega) only [gi_same, gi_ne_r, gi_ne_k, gi_sr_same, gi_sr_ne, gj_sj_same, gj_sj_ne_r, gj_sj_ne_k, gj_si, gi_sj, gj_sr, iwc, jwc, Int.toNat_natCast, tdn, tmn, b0, b1, yc0, yc1, g2]
    have k3 : gi (si σ t 3 (k + 1)) t 3 = k + 1 := by simp (disch := omega) only [gi_same, gi_ne_r, gi_ne_k, gi_sr_same, gi_sr_ne, gj_sj_same, gj_sj_ne_r, gj_sj_ne_k, gj_si, gi_sj, gj_sr, iwc, jwc, Int.toNat_natCast, tdn, tmn, b0, b1, yc0, yc1]
    have ken : gi (si σ t 3 (k + 1)) (u2 + 2) i = e := by simp (disch := omega) only [gi_same, gi_ne_r, gi_ne_k, gi_sr_same, gi_sr_ne, gj_sj_same, gj_sj_ne_r, gj_sj_ne_k, gj_si, gi_sj, gj_sr, iwc, jwc, Int.toNat_natCast, tdn, tmn, b0, b1, yc0, yc1, hen]
    generalize si σ t 3 (k + 1) = s4 at hE4 hF4 k2 k3 ken ⊢
    rw [k2, k3]
    refine wp_oc (by omega) ?_
    rw [Int.toNat_natCast, ken]
    have hL4 := hL.of hF4 (fun r k z => by omega)
    refine wp_call (x_sayOnWay (tp := tp) hok hL4 (by omega) (by omega) rfl hr1 (fun j hj => by rw [hF4.i _ _ (by omega)]; exact htp j hj) hc (hT.of hF4 (fun k => by omega)) hq ho hy he (k + 1)) ?_
    rintro _ s8 ⟨hT8, hE8⟩
    have hq8 := wayP_ok (ld := ld) (tp := tp) (a := a) (b := b) (y := y) (e := e) (k := k + 1) hq hcalm
    rw [milP] at hover hself
    generalize wayP ld tp a b y e (k + 1) q = q8 at hT8 hq8 hover hself
    have hE08 : EqP (PSt t) σ0 s8 := hE4.tr (hE8.mo (fun r k h => by omega))
    have j2 : gi s8 t 2 = i := by rw [hE8.i _ _ (by omega)]; exact k2
    have j3 : gi s8 t 3 = k + 1 := by rw [hE8.i _ _ (by omega)]; exact k3
    by_cases h : ovB q8 = true
    · rw [if_pos h] at hover
      exact wp_b1 (x_overC hT8 hq8) h (wp_f (by decide) (wp_some (hover s8 hE08 rfl hT8 j2 j3)))
    · rw [if_neg h] at hover hself
      refine wp_b0 (x_overC hT8 hq8) h (wp_t rfl ?_)
      exact ih (k + 1) fu s8 q8 (by omega) (by omega) (by omega) (hL4.of hE8 (fun r k z => by omega)) (fun j hj => by rw [hE8.i _ _ (by omega), hF4.i _ _ (by omega)]; exact htp j hj) (by rw [hE8.i _ _ (by omega)]; exact ken) hE08 hT8 hq8 (ovB_f h) j2 j3 hover hself
theorem x_go0 {ld : SS} (hok : LdOK ld) {t u2 : Nat} (ht : 57 ≤ t) (hu2 : 42 ≤ u2 ∧ u2 + 2 < t) (hr1 : rN (t + 2) = 6) {tp : Nat → Int} {a b m : Nat} (hc : CPL ld a b m) {n p0 : Nat} {wf ef : Nat → Nat} (hp : Pth ld n wf ef p0) (σ0 : SS) :
    ∀ (r i : Nat) (k : Int) (fu : Nat) (σ : SS) (q : QQ), i + r = n → (r ≠ 0 → 0 ≤ k ∧ k ≤ gi ld 8 (wf i)) → r < fu → LC ld σ → (∀ j, j < 12 → gi σ 47 j = tp j) → RC σ u2 n wf ef p0 → EqP (PSt t) σ0 σ → TC σ (t + 1) a b m q → QOK q → ¬ overP q → gi σ t 2 = i → (r ≠ 0 → gi σ t 3 = k) → (r = 0 → gi σ t 3 = 0) →
    Wp (l_St_goOn_0 t 47 u2 fu σ) fun v τ => v = (if (goP ld tp a b wf ef r i k q).1 = true then 1 else 0) ∧ TC τ (t + 1) a b m (goP ld tp a b wf ef r i k q).2.2.2 ∧ gi τ t 2 = ((goP ld tp a b wf ef r i k q).2.1 : Nat) ∧ gi τ t 3 = (goP ld tp a b wf ef r i k q).2.2.1 ∧ EqP (PSt t) σ0 τ := by
  have hn := hp.2.1
  intro r
  induction r with
  | zero =>
    intro i k fu σ q hi _ hfu hL htp hR hE hT hq ho g2 _ g3
    obtain ⟨fu, rfl⟩ : ∃ f, fu = f + 1 := ⟨fu - 1, by omega⟩
    rw [l_St_goOn_0]
    refine wp_f (by omega) (wp_t (by rw [hR.1]; omega) (wp_some ⟨rfl, hT, g2, g3 rfl, hE⟩))
  | succ r ih =>
    intro i k fu σ q hi hk hfu hL htp hR hE hT hq ho g2 g3 _
    obtain ⟨fu, rfl⟩ : ∃ f, fu = f + 1 := ⟨fu - 1, by omega⟩
    obtain ⟨p1, p2, p3⟩ := hp.2.2 i (by omega)
    obtain ⟨r1, r2, r3⟩ := id hR
    obtain ⟨e1, e2⟩ := r3 i (by omega)
    have hk' := hk (by omega)
    rw [l_St_goOn_0]
    refine wp_f (by omega) (wp_f (by omega) (wp_f (by omega) (wp_oc (by omega) (wp_ol ?_))))
    rw [g2, Int.toNat_natCast, e1]
    refine wp_eq (x_lengthOf hok hL t (wf i) p1) ?_
    have hcalm := (hok.pl p2).1.1
    have hmq := milP_ok (tp := tp) (a := a) (b := b) (y := wf i) hcalm (gi ld 8 (wf i) - k).toNat k q hq ho
    refine x_go44 hok ht hu2 hr1 (tp := tp) hc (wf i) (ef i) i p1 p2 (by omega) _ σ0 _ (gi ld 8 (wf i) - k).toNat k FU σ q (by omega) (by omega) (by have := (hok.wy p1).2.2.2.1; unfold FU; omega) hL htp e2 hE hT hq ho g2 (g3 (by omega)) ?_ ?_
    · intro τ hEτ hm hTτ j2 j3
      rw [goP, if_pos hm]
      exact ⟨rfl, hTτ, j2, j3, hEτ⟩
    · intro τ hEτ hm hTτ j2 j3
      rw [goP, if_neg (show ¬ (milP ld tp a b (wf i) (ef i) (gi ld 8 (wf i) - k).toNat k q).1 = true by rw [hm]; decide)]
      have g : ∀ r' k', ¬ PSt t r' k' → gi τ r' k' = gi σ r' k' := fun r' k' h => by rw [hEτ.i r' k' h, hE.i r' k' h]
      refine ih (i + 1) 0 fu τ _ (by omega) (fun h => ?_) (by omega) (fun r' k' h1 h2 h3 => by rw [g _ _ (by omega)]; exact hL r' k' h1 h2 h3) (fun j hj => by rw [g _ _ (by omega)]; exact htp j hj) ⟨by rw [g _ _ (by omega)]; exact r1, by rw [g _ _ (by omega)]; exact r2, fun j hj => by rw [g _ _ (by omega), g _ _ (by omega)]; exact r3 j hj⟩ hEτ hTτ hmq.1 (hmq.2 hm) j2 (fun _ => j3) (fun _ => j3)
      have := (hok.wy (hp.2.2 (i + 1) (by omega)).1).2.2.2.1
      omega
/-- the reference's walk along a row -/
abbrev PAl : Nat → Nat → Prop := fun r k => r = 119 ∨ r = 117 ∨ r = 86 ∧ (46 ≤ k ∧ k ≤ 51 ∨ k = 63 ∨ k = 64)
theorem x_al37 {ld : SS} (hok : LdOK ld) {bk u1 : Nat} (hu1 : 120 ≤ u1 ∧ u1 ≤ 130) {tp : Nat → Int} {a b m : Nat} (hc : CPL ld a b m) (y e i : Nat) (hy : (y : Int) < gi ld 2 4) (he : (e : Int) < gi ld 2 0) (hi : i < rN u1) (self16 : Int → Int → SS → OO) (n : Int) (σ0 : SS) (Q : Int → SS → Prop) :
    ∀ (r : Nat) (k : Int) (fu : Nat) (σ : SS) (q : QQ), k + r = gi ld 8 y → 0 ≤ k → r < fu → LM ld σ bk → TPM ld σ bk tp → gi σ u1 i = y → EqP PAl σ0 σ → TM σ 119 a b m q → QOK q → ¬ overP q →
    (∀ τ, EqP PAl σ0 τ → (milP ld tp a b y e r k q).1 = true → TM τ 119 a b m (milP ld tp a b y e r k q).2.2 → gi τ 86 63 = i → gi τ 86 64 = (milP ld tp a b y e r k q).2.1 → Q 0 τ) →
    (∀ τ, EqP PAl σ0 τ → (milP ld tp a b y e r k q).1 = false → TM τ 119 a b m (milP ld tp a b y e r k q).2.2 → gi τ 86 63 = gi σ 86 63 → gi τ 86 64 = gi σ 86 64 → Wp (self16 e ((i + 1 : Nat) : Int) τ) Q) →
    Wp (l_Mo_along_37 u1 self16 n i e fu (k + 1) σ) Q := by
  have l8 := (hok.wy hy).2.2.2.1
  have l4 := hok.2.1
  have l0 := hok.1
  have hcalm := (hok.pl he).1.1
  have hrn : rN u1 ≤ 2000 := by
    have hc : u1 = 120 ∨ u1 = 121 ∨ u1 = 122 ∨ u1 = 123 ∨ u1 = 124 ∨ u1 = 125 ∨ u1 = 126 ∨ u1 = 127 ∨ u1 = 128 ∨ u1 = 129 ∨ u1 = 130 := by omega
    rcases hc with rfl | rfl | rfl | rfl | rfl | rfl | rfl | rfl | rfl | rfl | rfl <;> decide
  intro r
  induction r with
  | zero =>
    intro k fu σ q hk hk0 hfu hM hTp hen hE hT hq ho _ hself
    obtain ⟨fu, rfl⟩ : ∃ f, fu = f + 1 := ⟨fu - 1, by omega⟩
    rw [l_Mo_along_37]
    refine wp_oc (by omega) ?_
    rw [Int.toNat_natCast, hen]
    refine wp_eq (x_milesOf hok hM (by omega)) ?_
    rw [Int.toNat_natCast]
    refine wp_t (by omega) ?_
    rw [show iw ((i : Int) + 1) = ((i + 1 : Nat) : Int) by rw [iwc (by omega) (by omega)]; omega]
    exact hself σ hE rfl hT rfl rfl
  | succ r ih =>
    intro k fu σ q hk hk0 hfu hM hTp hen hE hT hq ho hover hself
    obtain ⟨fu, rfl⟩ : ∃ f, fu = f + 1 := ⟨fu - 1, by omega⟩
    rw [l_Mo_along_37]
    refine wp_oc (by omega) ?_
    rw [Int.toNat_natCast, hen]
    refine wp_eq (x_milesOf hok hM (by omega)) ?_
    rw [Int.toNat_natCast]
    refine wp_f (by omega) (wp_oc (by omega) (wp_oc (by omega) ?_))
    rw [hen]
    refine wp_eq (x_milesOf hok hM (by omega)) ?_
    rw [Int.toNat_natCast]
    rw [milP] at hover hself
    have step : ∀ x3 : Int, (gi ld 8 y ≤ k + 1 ∧ x3 = e ∨ ¬ gi ld 8 y ≤ k + 1 ∧ x3 = -1) → Wp (j_Mo_along_78 u1 self16 (l_Mo_along_37 u1 self16 n i e fu) n i e (k + 1) y x3 σ) Q := by
      intro x3 hx3
      unfold j_Mo_along_78
      refine wp_call (x_sayM hok hM hTp (Or.inr rfl) hc hT hq ho y x3 hy (by omega)) ?_
      rintro _ s1 ⟨hT1, hE1⟩
      have hmid : midM ld y x3 (sayP ld tp a b q) = wayP ld tp a b y e (k + 1) q := by
        unfold midM endM wayP
        rw [if_neg (show ¬ (y : Int) < 0 by omega), Int.toNat_natCast]
        rcases hx3 with ⟨h1, h2⟩ | ⟨h1, h2⟩
        · rw [if_pos h1, h2, if_pos (show (0 : Int) ≤ (e : Int) by omega), Int.toNat_natCast]
        · rw [if_neg h1, h2, if_neg (show ¬ (0 : Int) ≤ -1 by omega)]
      rw [hmid] at hT1
      have hq1 := wayP_ok (ld := ld) (tp := tp) (a := a) (b := b) (y := y) (e := e) (k := k + 1) hq hcalm
      generalize wayP ld tp a b y e (k + 1) q = q1 at hT1 hq1 hover hself
      have hE01 : EqP PAl σ0 s1 := hE.tr (hE1.mo (fun r k h => by omega))
      by_cases h : ovB q1 = true
      · rw [if_pos h] at hover
        refine wp_b1 (x_overM (Or.inr rfl) hT1) h (wp_f (by decide) (wp_os (wp_os (wp_some ?_))))
        refine hover _ (EqP.si (EqP.si hE01 _ _ _ (by omega)) _ _ _ (by omega)) rfl ?_ ?_ ?_
        · exact hT1.of (P := fun r k => r = 86) (by repeat (first | exact EqP.rf _ _ | (refine EqP.si ?_ _ _ _ (by omega)) | (refine EqP.sj ?_ _ _ _ (by omega)) | (refine EqP.sr ?_ _ _ (fun k => by omega)))) (fun k => by omega)
        · simp (disch := omega) only [gi_same, gi_ne_r, gi_ne_k, gi_sr_same, gi_sr_ne, gj_sj_same, gj_sj_ne_r, gj_sj_ne_k, gj_si, gi_sj, gj_sr, iwc, jwc, Int.toNat_natCast, tdn, tmn, b0, b1, yc0, yc1]
        · simp (disch := omega) only [gi_same, gi_ne_r, gi_ne_k, gi_sr_same, gi_sr_ne, gj_sj_same, gj_sj_ne_r, gj_sj_ne_k, gj_si, gi_sj, gj_sr, iwc, jwc, Int.toNat_natCast, tdn, tmn, b0, b1, yc0, yc1]
      · rw [if_neg h] at hover hself
        refine wp_b0 (x_overM (Or.inr rfl) hT1) h (wp_t rfl ?_)
        rw [iwc (by omega) (by omega)]
        refine ih (k + 1) fu s1 q1 (by omega) (by omega) (by omega) (hM.of hE1 (fun r k z => by omega)) (hTp.of hE1 (fun r k z => by omega)) (by rw [hE1.i _ _ (by omega)]; exact hen) hE01 hT1 hq1 (ovB_f h) hover ?_
        intro τ f1 f2 f3 f4 f5
        exact hself τ f1 f2 f3 (by rw [f4, hE1.i _ _ (by omega)]) (by rw [f5, hE1.i _ _ (by omega)])
    by_cases hl : k + 1 = gi ld 8 y
    · exact wp_t hl (step _ (Or.inl ⟨by omega, rfl⟩))
    · exact wp_f hl (step _ (Or.inr ⟨by omega, rfl⟩))
theorem x_al16 {ld : SS} (hok : LdOK ld) {bk u1 : Nat} (hu1 : 120 ≤ u1 ∧ u1 ≤ 130) {tp : Nat → Int} {a b m : Nat} (hc : CPL ld a b m) {n p0 : Nat} {wf ef : Nat → Nat} (hp : Pth ld n wf ef p0) (hnr : n ≤ rN u1) (σ0 : SS) :
    ∀ (r i fu : Nat) (σ : SS) (q : QQ), i + r = n → r < fu → LM ld σ bk → TPM ld σ bk tp → (∀ j, j < n → gi σ u1 j = wf j) → EqP PAl σ0 σ → TM σ 119 a b m q → QOK q → ¬ overP q → gi σ 86 63 = -1 → gi σ 86 64 = -1 →
    Wp (l_Mo_along_16 u1 n fu ((if i = 0 then p0 else ef (i - 1) : Nat) : Int) i σ) fun _ τ => TM τ 119 a b m (goP ld tp a b wf ef r i 0 q).2.2.2 ∧ gi τ 86 63 = (if (goP ld tp a b wf ef r i 0 q).1 = true then ((goP ld tp a b wf ef r i 0 q).2.1 : Int) else -1) ∧ gi τ 86 64 = (if (goP ld tp a b wf ef r i 0 q).1 = true then (goP ld tp a b wf ef r i 0 q).2.2.1 else -1) ∧ EqP PAl σ0 τ := by
  have hn := hp.2.1
  intro r
  induction r with
  | zero =>
    intro i fu σ q hi hfu hM hTp hR hE hT hq ho g63 g64
    obtain ⟨fu, rfl⟩ : ∃ f, fu = f + 1 := ⟨fu - 1, by omega⟩
    rw [l_Mo_along_16]
    exact wp_t (by omega) (wp_some ⟨hT, g63, g64, hE⟩)
  | succ r ih =>
    intro i fu σ q hi hfu hM hTp hR hE hT hq ho g63 g64
    obtain ⟨fu, rfl⟩ : ∃ f, fu = f + 1 := ⟨fu - 1, by omega⟩
    obtain ⟨p1, p2, p3⟩ := hp.2.2 i (by omega)
    rw [l_Mo_along_16]
    refine wp_f (by omega) (wp_oc (by omega) ?_)
    rw [Int.toNat_natCast, hR i (by omega)]
    refine wp_eq (x_otherM hok hM (y := (wf i : Int)) (by omega) _) ?_
    rw [hp.ot hok (by omega)]
    have hcalm := (hok.pl p2).1.1
    have hl8 := (hok.wy p1).2.2.2.1
    have hmq := milP_ok (tp := tp) (a := a) (b := b) (y := wf i) hcalm (gi ld 8 (wf i) - 0).toNat 0 q hq ho
    have z := x_al37 hok hu1 (tp := tp) hc (wf i) (ef i) i p1 p2 (by omega) (l_Mo_along_16 u1 n fu) n σ0 (fun _ τ => TM τ 119 a b m (goP ld tp a b wf ef (r + 1) i 0 q).2.2.2 ∧ gi τ 86 63 = (if (goP ld tp a b wf ef (r + 1) i 0 q).1 = true then ((goP ld tp a b wf ef (r + 1) i 0 q).2.1 : Int) else -1) ∧ gi τ 86 64 = (if (goP ld tp a b wf ef (r + 1) i 0 q).1 = true then (goP ld tp a b wf ef (r + 1) i 0 q).2.2.1 else -1) ∧ EqP PAl σ0 τ) (gi ld 8 (wf i) - 0).toNat 0 FU σ q (by omega) (by omega) (by unfold FU; omega) hM hTp (hR i (by omega)) hE hT hq ho ?_ ?_
    · exact z
    · intro τ hEτ hm hTτ j2 j3
      rw [goP, if_pos hm]
      exact ⟨hTτ, j2, j3, hEτ⟩
    · intro τ hEτ hm hTτ j2 j3
      rw [goP, if_neg (show ¬ (milP ld tp a b (wf i) (ef i) (gi ld 8 (wf i) - 0).toNat 0 q).1 = true by rw [hm]; decide)]
      have g : ∀ r' k', ¬ PAl r' k' → gi τ r' k' = gi σ r' k' := fun r' k' h => by rw [hEτ.i r' k' h, hE.i r' k' h]
      have hEE : EqP PAl σ τ := fun r' k' h => ⟨g r' k' h, by rw [hEτ.j r' k' h, hE.j r' k' h]⟩
      have zz := ih (i + 1) fu τ _ (by omega) (by omega) (hM.of hEE (fun r k z => by omega)) (hTp.of hEE (fun r k z => by omega)) (fun j hj => by rw [g _ _ (by omega)]; exact hR j hj) hEτ hTτ hmq.1 (hmq.2 hm) (by rw [j2]; exact g63) (by rw [j3]; exact g64)
      rw [if_neg (show ¬ i + 1 = 0 by omega), Nat.add_sub_cancel] at zz
      exact zz
theorem x_along {ld σ : SS} (hok : LdOK ld) {bk u1 : Nat} (hM : LM ld σ bk) (hu1 : 120 ≤ u1 ∧ u1 ≤ 130) {tp : Nat → Int} (hTp : TPM ld σ bk tp) {a b m : Nat} (hc : CPL ld a b m) {n p0 : Nat} {wf ef : Nat → Nat} (hp : Pth ld n wf ef p0) (hnr : n ≤ rN u1) (hR : ∀ j, j < n → gi σ u1 j = wf j) {q : QQ} (hT : TM σ 119 a b m q) (hq : QOK q) (ho : ¬ overP q) :
    Wp (f_Mo_along u1 n p0 σ) fun _ τ => TM τ 119 a b m (goP ld tp a b wf ef n 0 0 q).2.2.2 ∧ gi τ 86 63 = (if (goP ld tp a b wf ef n 0 0 q).1 = true then ((goP ld tp a b wf ef n 0 0 q).2.1 : Int) else -1) ∧ gi τ 86 64 = (if (goP ld tp a b wf ef n 0 0 q).1 = true then (goP ld tp a b wf ef n 0 0 q).2.2.1 else -1) ∧ EqP PAl σ τ := by
  unfold f_Mo_along
  refine wp_os (wp_os ?_)
  have hE : EqP PAl σ (si (si σ 86 63 (-1)) 86 64 (-1)) := by repeat (first | exact EqP.rf _ _ | (refine EqP.si ?_ _ _ _ (by omega)) | (refine EqP.sj ?_ _ _ _ (by omega)) | (refine EqP.sr ?_ _ _ (fun k => by omega)))
  have z := x_al16 hok hu1 (tp := tp) hc hp hnr σ n 0 FU (si (si σ 86 63 (-1)) 86 64 (-1)) q (by omega) (by have := hp.2.1; unfold FU; omega) (hM.of hE (fun r k z => by omega)) (hTp.of hE (fun r k z => by omega)) (fun j hj => by rw [hE.i _ _ (by omega)]; exact hR j hj) hE (hT.of (P := fun r k => r = 86) (by repeat (first | exact EqP.rf _ _ | (refine EqP.si ?_ _ _ _ (by omega)) | (refine EqP.sj ?_ _ _ _ (by omega)) | (refine EqP.sr ?_ _ _ (fun k => by omega)))) (fun k => by omega)) hq ho (by simp (disch := omega) only [gi_same, gi_ne_r, gi_ne_k, gi_sr_same, gi_sr_ne, gj_sj_same, gj_sj_ne_r, gj_sj_ne_k, gj_si, gi_sj, gj_sr, iwc, jwc, Int.toNat_natCast, tdn, tmn, b0, b1, yc0, yc1]) (by simp (disch := omega) only [gi_same, gi_ne_r, gi_ne_k, gi_sr_same, gi_sr_ne, gj_sj_same, gj_sj_ne_r, gj_sj_ne_k, gj_si, gi_sj, gj_sr, iwc, jwc, Int.toNat_natCast, tdn, tmn, b0, b1, yc0, yc1])
  rw [if_pos rfl] at z
  exact z
theorem x_goOn {ld σ : SS} (hok : LdOK ld) (hL : LC ld σ) {t u2 : Nat} (ht : 57 ≤ t) (hu2 : 42 ≤ u2 ∧ u2 + 2 < t) (hr1 : rN (t + 2) = 6) {tp : Nat → Int} (htp : ∀ j, j < 12 → gi σ 47 j = tp j) {a b m : Nat} (hc : CPL ld a b m) {n p0 : Nat} {wf ef : Nat → Nat} (hp : Pth ld n wf ef p0) (hR : RC σ u2 n wf ef p0) {q : QQ} (hT : TC σ (t + 1) a b m q) (hq : QOK q) (ho : ¬ overP q) (g2 : gi σ t 2 = 0) (g3 : gi σ t 3 = 0) :
    Wp (f_St_goOn t 47 u2 σ) fun v τ => v = (if (goP ld tp a b wf ef n 0 0 q).1 = true then 1 else 0) ∧ TC τ (t + 1) a b m (goP ld tp a b wf ef n 0 0 q).2.2.2 ∧ gi τ t 2 = ((goP ld tp a b wf ef n 0 0 q).2.1 : Nat) ∧ gi τ t 3 = (goP ld tp a b wf ef n 0 0 q).2.2.1 ∧ EqP (PSt t) σ τ := by
  unfold f_St_goOn
  refine x_go0 hok ht hu2 hr1 (tp := tp) hc hp σ n 0 0 FU σ q (by omega) (fun h => ?_) (by have := hp.2.1; unfold FU; omega) hL htp hR (EqP.rf _ _) hT hq ho g2 (fun _ => g3) (fun _ => g3)
  have := (hok.wy (hp.2.2 0 (by omega)).1).2.2.2.1
  omega
theorem x_stBegin {ld σ : SS} (hok : LdOK ld) (hL : LC ld σ) {t a b m : Nat} (ht : 57 ≤ t) (hc : CPL ld a b m) {c : Int} (hcc : c = 100 * (a : Int) + 10 * (b : Int) + (m : Int)) : Wp (f_St_begin t c σ) fun _ τ => TC τ (t + 1) a b m (begP ld m) ∧ gi τ t 2 = 0 ∧ gi τ t 3 = 0 ∧ EqP (PSt t) σ τ := by
  unfold f_St_begin
  refine wp_call (x_begin hok hL (by omega) hc hcc) ?_
  rintro _ s2 ⟨hT, hE⟩
  refine wp_os (wp_os (wp_some ⟨?_, ?_, ?_, ?_⟩))
  · exact hT.of (P := fun r k => r = t) (by repeat (first | exact EqP.rf _ _ | (refine EqP.si ?_ _ _ _ (by omega)) | (refine EqP.sj ?_ _ _ _ (by omega)) | (refine EqP.sr ?_ _ _ (fun k => by omega)))) (fun k => by omega)
  · simp (disch := omega) only [gi_same, gi_ne_r, gi_ne_k, gi_sr_same, gi_sr_ne, gj_sj_same, gj_sj_ne_r, gj_sj_ne_k, gj_si, gi_sj, gj_sr, iwc, jwc, Int.toNat_natCast, tdn, tmn, b0, b1, yc0, yc1]
  · simp (disch := omega) only [gi_same, gi_ne_r, gi_ne_k, gi_sr_same, gi_sr_ne, gj_sj_same, gj_sj_ne_r, gj_sj_ne_k, gj_si, gi_sj, gj_sr, iwc, jwc, Int.toNat_natCast, tdn, tmn, b0, b1, yc0, yc1]
  · exact EqP.si (EqP.si (hE.mo (fun r k h => by omega)) _ _ _ (by omega)) _ _ _ (by omega)
