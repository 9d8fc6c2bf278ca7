/-! the small methods -/
theorem y_fault (a : Int) : MP (f_Qu_fault a) (f_Mo_fault a) := by
  rintro σ ⟨ld, bk, hok, hL, hM, hEA, hRO, hLY, hRP, hTA⟩
  have hI : Inv σ := ⟨ld, bk, hok, hL, hM, hEA, hRO, hLY, hRP, hTA⟩
  unfold f_Qu_fault f_Mo_fault
  obtain ⟨_, _, _, _, h5, h6, _⟩ := hTA
  by_cases h0 : a = 0
  · exact wp_t h0 (wp_some (wp_t h0 (wp_some ⟨h5, hI⟩)))
  · refine wp_f h0 ?_
    by_cases h1 : a = 1
    · exact wp_t h1 (wp_some (wp_f h0 (wp_t h1 (wp_some ⟨h6, hI⟩))))
    · exact wp_f h1 (wp_some (wp_f h0 (wp_f h1 (wp_some ⟨rfl, hI⟩))))
theorem y_lies (a : Int) : MP (f_Qu_lies a) (f_Mo_lies a) := by
  rintro σ ⟨ld, bk, hok, hL, hM, hEA, hRO, hLY, hRP, hTA⟩
  have hI : Inv σ := ⟨ld, bk, hok, hL, hM, hEA, hRO, hLY, hRP, hTA⟩
  obtain ⟨n, n12, c1, m1, hrow⟩ := hLY
  have hm : ∀ v, (0 ≤ a ∧ a < n → v = gi σ 122 a.toNat) → (¬ (0 ≤ a ∧ a < n) → v = -1) → Wp (f_Mo_lies a σ) fun r' σ2 => v = r' ∧ Inv σ2 := by
    intro v hv1 hv2
    unfold f_Mo_lies
    rw [m1, iwc (x := (n : Int) - 1) (by omega) (by omega)]
    by_cases h : 0 ≤ a ∧ a < n
    · exact wp_b1 (x_isIn _ _ _ _) (by omega) (wp_f (by decide) (wp_oc (by omega) (wp_some ⟨hv1 h, hI⟩)))
    · exact wp_b0 (x_isIn _ _ _ _) (by omega) (wp_t rfl (wp_some ⟨hv2 h, hI⟩))
  unfold f_Qu_lies f_Fi_tellLying
  refine wp_ob ?_
  by_cases h : 0 ≤ a ∧ a < n
  · refine wp_f (by omega) (wp_f (by omega) (wp_f (by omega) (wp_oc (by omega) (wp_some (wp_some (hm _ (fun _ => hrow a.toNat (by omega)) (fun z => absurd h z)))))))
  · by_cases h1 : a < 0
    · exact wp_t h1 (wp_some (wp_some (hm _ (fun z => absurd z h) (fun _ => rfl))))
    · exact wp_f h1 (wp_t (by omega) (wp_some (wp_some (hm _ (fun z => absurd z h) (fun _ => rfl)))))
theorem y_end (a : Int) : MP (f_Qu_end a) (f_Mo_end a) := by
  rintro σ ⟨ld, bk, hok, hL, hM, hEA, hRO, hLY, hRP, hTA⟩
  have hI : Inv σ := ⟨ld, bk, hok, hL, hM, hEA, hRO, hLY, hRP, hTA⟩
  obtain ⟨t1, t2, t3, t4, t5, t6, t7⟩ := id hTA
  unfold f_Qu_end f_Mo_end
  by_cases h0 : a < 0
  · exact wp_t h0 (wp_some (wp_t h0 (wp_some ⟨rfl, hI⟩)))
  · refine wp_f h0 ?_
    by_cases h1 : a ≤ gi σ 0 1
    · refine wp_t h1 (wp_os (wp_some (wp_f h0 (wp_t (by simp (disch := omega) only [gi_same, gi_ne_r, gi_ne_k, gi_sr_same, gi_sr_ne, gj_sj_same, gj_sj_ne_r, gj_sj_ne_k, gj_si, gi_sj, gj_sr, iwc, jwc, Int.toNat_natCast, tdn, tmn, b0, b1, yc0, yc1]; omega) (wp_os (wp_some ⟨rfl, ?_⟩))))))
      have hE : EqP (fun r k => r = 0 ∧ k = 1 ∨ r = 86 ∧ k = 2) σ (si (si σ 0 1 a) 86 2 a) := by repeat (first | exact EqP.rf _ _ | (refine EqP.si ?_ _ _ _ (by omega)) | (refine EqP.sj ?_ _ _ _ (by omega)) | (refine EqP.sr ?_ _ _ (fun k => by omega)))
      refine ⟨ld, bk, hok, hL.of hE (fun r k z => by omega), hM.of hE (fun r k z => by omega), hEA.of (fun r k z => hE.i r k (by omega)), hRO.of (fun r k z => hE.i r k (by omega)), hLY.of (fun r k z => hE.i r k (by omega)), hRP.of (fun r k z => hE r k (by omega)), ?_⟩
      refine ⟨by simp (disch := omega) only [gi_same, gi_ne_r, gi_ne_k, gi_sr_same, gi_sr_ne, gj_sj_same, gj_sj_ne_r, gj_sj_ne_k, gj_si, gi_sj, gj_sr, iwc, jwc, Int.toNat_natCast, tdn, tmn, b0, b1, yc0, yc1], by simp (disch := omega) only [gi_same, gi_ne_r, gi_ne_k, gi_sr_same, gi_sr_ne, gj_sj_same, gj_sj_ne_r, gj_sj_ne_k, gj_si, gi_sj, gj_sr, iwc, jwc, Int.toNat_natCast, tdn, tmn, b0, b1, yc0, yc1]; omega, by simp (disch := omega) only [gi_same, gi_ne_r, gi_ne_k, gi_sr_same, gi_sr_ne, gj_sj_same, gj_sj_ne_r, gj_sj_ne_k, gj_si, gi_sj, gj_sr, iwc, jwc, Int.toNat_natCast, tdn, tmn, b0, b1, yc0, yc1]; omega, fun i hi => by rw [hE.i _ _ (by omega), hE.i _ _ (by omega)]; exact t4 i hi, by rw [hE.i _ _ (by omega), hE.i 86 _ (by omega)]; exact t5, by rw [hE.i _ _ (by omega), hE.i 86 _ (by omega)]; exact t6, by rw [hE.i 86 _ (by omega)]; exact t7⟩
    · exact wp_f h1 (wp_some (wp_f h0 (wp_f (by omega) (wp_some ⟨rfl, hI⟩))))
theorem y_start (p : Int) : MP (f_Qu_start p) (f_Mo_start p) := by
  rintro σ ⟨ld, bk, hok, hL, hM, hEA, hRO, hLY, hRP, hTA⟩
  have hI : Inv σ := ⟨ld, bk, hok, hL, hM, hEA, hRO, hLY, hRP, hTA⟩
  unfold f_Qu_start f_Mo_start f_Ro_reset
  by_cases hp : 0 ≤ p ∧ p < gi ld 2 0
  · refine wp_b1 (x_isPlaceC hok hL p) hp (wp_f (by decide) (wp_ob (wp_os (wp_os (wp_some (wp_some ?_))))))
    have hE1 : EqP (fun r k => r = 54) σ (si (si σ 54 2 0) 54 3 p) := by repeat (first | exact EqP.rf _ _ | (refine EqP.si ?_ _ _ _ (by omega)) | (refine EqP.sj ?_ _ _ _ (by omega)) | (refine EqP.sr ?_ _ _ (fun k => by omega)))
    refine wp_b1 (x_isPlaceM hok (hM.of hE1 (fun r k z => by omega)) p) hp (wp_f (by decide) (wp_os (wp_os (wp_some ⟨rfl, ?_⟩))))
    have hE : EqP (fun r k => r = 54 ∨ r = 86 ∧ (k = 60 ∨ k = 61)) σ (si (si (si (si σ 54 2 0) 54 3 p) 86 60 p) 86 61 0) := by repeat (first | exact EqP.rf _ _ | (refine EqP.si ?_ _ _ _ (by omega)) | (refine EqP.sj ?_ _ _ _ (by omega)) | (refine EqP.sr ?_ _ _ (fun k => by omega)))
    obtain ⟨n, rfl⟩ : ∃ n : Nat, p = n := ⟨p.toNat, by omega⟩
    refine ⟨ld, bk, hok, hL.of hE (fun r k z => by omega), hM.of hE (fun r k z => by omega), hEA.of (fun r k z => hE.i r k (by omega)), Or.inr ⟨0, fun _ => 0, fun _ => 0, n, ⟨hp.2, by omega, fun i hi => by omega⟩, ⟨by simp (disch := omega) only [gi_same, gi_ne_r, gi_ne_k, gi_sr_same, gi_sr_ne, gj_sj_same, gj_sj_ne_r, gj_sj_ne_k, gj_si, gi_sj, gj_sr, iwc, jwc, Int.toNat_natCast, tdn, tmn, b0, b1, yc0, yc1]; rfl, by simp (disch := omega) only [gi_same, gi_ne_r, gi_ne_k, gi_sr_same, gi_sr_ne, gj_sj_same, gj_sj_ne_r, gj_sj_ne_k, gj_si, gi_sj, gj_sr, iwc, jwc, Int.toNat_natCast, tdn, tmn, b0, b1, yc0, yc1]; rfl, fun i hi => by omega⟩, by simp (disch := omega) only [gi_same, gi_ne_r, gi_ne_k, gi_sr_same, gi_sr_ne, gj_sj_same, gj_sj_ne_r, gj_sj_ne_k, gj_si, gi_sj, gj_sr, iwc, jwc, Int.toNat_natCast, tdn, tmn, b0, b1, yc0, yc1], by simp (disch := omega) only [gi_same, gi_ne_r, gi_ne_k, gi_sr_same, gi_sr_ne, gj_sj_same, gj_sj_ne_r, gj_sj_ne_k, gj_si, gi_sj, gj_sr, iwc, jwc, Int.toNat_natCast, tdn, tmn, b0, b1, yc0, yc1]; rfl, fun i hi => by omega⟩, hLY.of (fun r k z => hE.i r k (by omega)), hRP.of (fun r k z => hE r k (by omega)), hTA.of (fun r k z => hE.i r k (by omega))⟩
  · exact wp_b0 (x_isPlaceC hok hL p) hp (wp_t rfl (wp_some (wp_b0 (x_isPlaceM hok hM p) hp (wp_t rfl (wp_some ⟨rfl, hI⟩)))))
theorem x_routeEnd {ld σ : SS} (hok : LdOK ld) {bk : Nat} (hM : LM ld σ bk) {n p0 : Nat} {wf ef : Nat → Nat} (hp : Pth ld n wf ef p0) (g60 : gi σ 86 60 = p0) (g61 : gi σ 86 61 = n) (hR : ∀ i, i < n → gi σ 121 i = wf i) : f_Mo_routeEnd σ = some (((pend n ef p0 : Nat) : Int), σ) := by
  have hn := hp.2.1
  have loop : ∀ (r i fu : Nat), i + r = n → r < fu → l_Mo_routeEnd_7 fu ((if i = 0 then p0 else ef (i - 1) : Nat) : Int) i σ = some (((pend n ef p0 : Nat) : Int), σ) := by
    intro r
    induction r with
    | zero =>
      intro i fu hi hfu
      obtain ⟨fu, rfl⟩ : ∃ f, fu = f + 1 := ⟨fu - 1, by omega⟩
      obtain rfl : i = n := by omega
      rw [l_Mo_routeEnd_7, if_pos (by omega)]
      rfl
    | succ r ih =>
      intro i fu hi hfu
      obtain ⟨fu, rfl⟩ : ∃ f, fu = f + 1 := ⟨fu - 1, by omega⟩
      obtain ⟨p1, p2, p3⟩ := hp.2.2 i (by omega)
      rw [l_Mo_routeEnd_7, if_neg (by omega), oc_pos (by omega), Int.toNat_natCast, hR i (by omega), x_otherM hok hM (y := (wf i : Int)) (by omega) _, ob_eq, hp.ot hok (by omega), show iw ((i : Int) + 1) = ((i + 1 : Nat) : Int) by rw [iwc (by omega) (by omega)]; omega]
      have := ih (i + 1) fu (by omega) (by omega)
      rw [if_neg (show ¬ i + 1 = 0 by omega), Nat.add_sub_cancel] at this
      exact this
  unfold f_Mo_routeEnd
  rw [ol_eq, g60]
  have := loop n 0 FU (by omega) (by unfold FU; omega)
  rw [if_pos rfl] at this
  exact this
/-- a way behind a path -/
def wfx (wf : Nat → Nat) (n y : Nat) : Nat → Nat := fun i => if i = n then y else wf i
theorem Pth.snoc {ld : SS} (hok : LdOK ld) {n p0 : Nat} {wf ef : Nat → Nat} (h : Pth ld n wf ef p0) (hn : n < 12) {y e : Nat} (hy : (y : Int) < gi ld 2 4) (ho : oth ld y (pend n ef p0 : Nat) = e) : Pth ld (n + 1) (wfx wf n y) (wfx ef n e) p0 := by
  refine ⟨h.1, by omega, fun i hi => ?_⟩
  unfold wfx
  by_cases hin : i = n
  · rw [if_pos hin, if_pos hin]
    obtain ⟨a1, a2, a3, _⟩ := hok.wy hy
    unfold oth at ho
    rw [if_pos ⟨by omega, hy⟩, Int.toNat_natCast] at ho
    have hpe : (if i = 0 then p0 else (if i - 1 = n then e else ef (i - 1)) : Nat) = pend n ef p0 := by
      unfold pend
      rw [hin]
      by_cases h0 : n = 0
      · rw [if_pos h0, if_pos h0]
      · rw [if_neg h0, if_neg h0, if_neg (by omega)]
    rw [hpe]
    refine ⟨hy, ?_, ?_⟩
    · split at ho
      · omega
      · split at ho
        · omega
        · omega
    · split at ho
      · rename_i hh; exact Or.inl ⟨hh, ho⟩
      · split at ho
        · rename_i hh; exact Or.inr ⟨hh, ho⟩
        · omega
  · rw [if_neg hin, if_neg hin]
    obtain ⟨p1, p2, p3⟩ := h.2.2 i (by omega)
    have hpe : (if i = 0 then p0 else (if i - 1 = n then e else ef (i - 1)) : Nat) = (if i = 0 then p0 else ef (i - 1)) := by
      by_cases h0 : i = 0
      · rw [if_pos h0, if_pos h0]
      · rw [if_neg h0, if_neg h0, if_neg (by omega)]
    rw [hpe]
    exact ⟨p1, p2, p3⟩
/-- the class's append -/
theorem x_append {ld σ : SS} (hok : LdOK ld) (hL : LC ld σ) (t : Nat) (ht : 42 ≤ t) {n p0 : Nat} {wf ef : Nat → Nat} (hp : Pth ld n wf ef p0) (hR : RC σ t n wf ef p0) (y : Int) :
    ((n < 12 ∧ 0 ≤ oth ld y (pend n ef p0 : Nat)) → Wp (f_Ro_append t 2 y σ) fun v τ => v = 1 ∧ RC τ t (n + 1) (wfx wf n y.toNat) (wfx ef n (oth ld y (pend n ef p0 : Nat)).toNat) p0 ∧ EqP (fun r k => r = t ∧ (k = 2 ∨ k = 3) ∨ r = t + 1 ∨ r = t + 2) σ τ) ∧
    (¬ (n < 12 ∧ 0 ≤ oth ld y (pend n ef p0 : Nat)) → f_Ro_append t 2 y σ = some (0, σ)) := by
  obtain ⟨r1, r2, r3⟩ := id hR
  have hn := hp.2.1
  have hrng := oth_rng hok y (pend n ef p0 : Nat)
  constructor
  · rintro ⟨hn12, h0⟩
    have hy : 0 ≤ y := by
      by_cases hy : 0 ≤ y ∧ y < gi ld 2 4
      · exact hy.1
      · unfold oth at h0; rw [if_neg hy] at h0; omega
    unfold f_Ro_append
    rw [r2]
    refine wp_eq (x_otherC hok hL _ _) ?_
    generalize oth ld y (pend n ef p0 : Nat) = o at h0 hrng ⊢
    refine wp_f (by omega) (wp_f (by omega) (wp_f (by omega) (wp_t (by omega) (wp_oc (by omega) (wp_os ?_)))))
    rw [r1, Int.toNat_natCast]
    have e2 : gi (si σ (t + 1) n y) t 2 = n := by simp (disch := omega) only [gi_same, gi_ne_r, gi_ne_k, gi_sr_same, gi_sr_ne, gj_sj_same, gj_sj_ne_r, gj_sj_ne_k, gj_si, gi_sj, gj_sr, iwc, jwc, Int.toNat_natCast, tdn, tmn, b0, b1, yc0, yc1, r1]
    rw [e2, Int.toNat_natCast]
    refine wp_oc (by omega) (wp_os (wp_os (wp_os (wp_some ⟨rfl, ⟨?_, ?_, ?_⟩, ?_⟩))))
    · simp (disch := omega) only [gi_same, gi_ne_r, gi_ne_k, gi_sr_same, gi_sr_ne, gj_sj_same, gj_sj_ne_r, gj_sj_ne_k, gj_si, gi_sj, gj_sr, iwc, jwc, Int.toNat_natCast, tdn, tmn, b0, b1, yc0, yc1, r1]
      omega
    · simp (disch := omega) only [gi_same, gi_ne_r, gi_ne_k, gi_sr_same, gi_sr_ne, gj_sj_same, gj_sj_ne_r, gj_sj_ne_k, gj_si, gi_sj, gj_sr, iwc, jwc, Int.toNat_natCast, tdn, tmn, b0, b1, yc0, yc1]
      unfold pend wfx
      rw [if_neg (by omega), if_pos (by omega)]; omega
    · intro i hi
      unfold wfx
      by_cases hin : i = n
      · rw [if_pos hin, if_pos hin, hin]
        constructor
        · simp (disch := omega) only [gi_same, gi_ne_r, gi_ne_k, gi_sr_same, gi_sr_ne, gj_sj_same, gj_sj_ne_r, gj_sj_ne_k, gj_si, gi_sj, gj_sr, iwc, jwc, Int.toNat_natCast, tdn, tmn, b0, b1, yc0, yc1]
          omega
        · simp (disch := omega) only [gi_same, gi_ne_r, gi_ne_k, gi_sr_same, gi_sr_ne, gj_sj_same, gj_sj_ne_r, gj_sj_ne_k, gj_si, gi_sj, gj_sr, iwc, jwc, Int.toNat_natCast, tdn, tmn, b0, b1, yc0, yc1]
          omega
      · rw [if_neg hin, if_neg hin]
        constructor
        · simp (disch := omega) only [gi_same, gi_ne_r, gi_ne_k, gi_sr_same, gi_sr_ne, gj_sj_same, gj_sj_ne_r, gj_sj_ne_k, gj_si, gi_sj, gj_sr, iwc, jwc, Int.toNat_natCast, tdn, tmn, b0, b1, yc0, yc1]
          exact (r3 i (by omega)).1
        · simp (disch := omega) only [gi_same, gi_ne_r, gi_ne_k, gi_sr_same, gi_sr_ne, gj_sj_same, gj_sj_ne_r, gj_sj_ne_k, gj_si, gi_sj, gj_sr, iwc, jwc, Int.toNat_natCast, tdn, tmn, b0, b1, yc0, yc1]
          exact (r3 i (by omega)).2
    · repeat (first | exact EqP.rf _ _ | (refine EqP.si ?_ _ _ _ (by omega)) | (refine EqP.sj ?_ _ _ _ (by omega)) | (refine EqP.sr ?_ _ _ (fun k => by omega)))
  · intro hno
    unfold f_Ro_append
    rw [r2, x_otherC hok hL, ob_eq, r2, if_neg (by omega)]
    by_cases h0 : oth ld y (pend n ef p0 : Nat) = -1
    · rw [if_pos h0]
    · rw [if_neg h0, r1, if_neg (by omega), if_neg (by omega)]
theorem x_appendNo {ld σ : SS} (hok : LdOK ld) (hL : LC ld σ) (t : Nat) (y : Int) (h : gi σ t 3 = -1) : f_Ro_append t 2 y σ = some (0, σ) := by
  unfold f_Ro_append
  rw [x_otherC hok hL, ob_eq, if_pos h]
theorem y_step (y : Int) : MP (f_Qu_step y) (f_Mo_step y) := by
  rintro σ ⟨ld, bk, hok, hL, hM, hEA, hRO, hLY, hRP, hTA⟩
  have hI : Inv σ := ⟨ld, bk, hok, hL, hM, hEA, hRO, hLY, hRP, hTA⟩
  unfold f_Qu_step f_Mo_step
  rcases id hRO with ⟨h1, h2, h3, h4⟩ | ⟨n, wf, ef, p0, hp, hR, g60, g61, hw⟩
  · exact wp_eq (x_appendNo hok hL 54 y h2) (wp_t rfl (wp_some (wp_t (by omega) (wp_some ⟨rfl, hI⟩))))
  · have hn := hp.2.1
    by_cases hc : n < 12 ∧ 0 ≤ oth ld y (pend n ef p0 : Nat)
    · have hy : 0 ≤ y ∧ y < gi ld 2 4 := by
        by_cases hy : 0 ≤ y ∧ y < gi ld 2 4
        · exact hy
        · have := hc.2; unfold oth at this; rw [if_neg hy] at this; omega
      refine wp_call ((x_append hok hL 54 (by omega) hp hR y).1 hc) ?_
      rintro _ s3 ⟨rfl, hR3, hE3⟩
      refine wp_f (by decide) (wp_some ?_)
      have hM3 := hM.of hE3 (fun r k z => by omega)
      refine wp_f (by rw [hE3.i _ _ (by omega)]; omega) ?_
      refine wp_b1 (x_isWayM hok hM3 y) hy (wp_f (by decide) ?_)
      refine wp_f (by rw [hE3.i _ _ (by omega)]; omega) ?_
      refine wp_eq (x_routeEnd hok hM3 hp (by rw [hE3.i _ _ (by omega)]; exact g60) (by rw [hE3.i _ _ (by omega)]; exact g61) (fun i hi => by rw [hE3.i _ _ (by omega)]; exact hw i hi)) ?_
      refine wp_eq (x_otherM hok hM3 hy _) ?_
      have g61' : gi s3 86 61 = n := by rw [hE3.i _ _ (by omega)]; exact g61
      refine wp_t hc.2 (wp_oc (by omega) (wp_os (wp_os (wp_some ⟨?_, ?_⟩))))
      · rw [g61', Int.toNat_natCast, hR3.1]
        simp (disch := omega) only [gi_same, gi_ne_r, gi_ne_k, gi_sr_same, gi_sr_ne, gj_sj_same, gj_sj_ne_r, gj_sj_ne_k, gj_si, gi_sj, gj_sr, iwc, jwc, Int.toNat_natCast, tdn, tmn, b0, b1, yc0, yc1, g61']
        omega
      · rw [g61', Int.toNat_natCast]
        have e61 : gi (si s3 121 n y) 86 61 = n := by simp (disch := omega) only [gi_same, gi_ne_r, gi_ne_k, gi_sr_same, gi_sr_ne, gj_sj_same, gj_sj_ne_r, gj_sj_ne_k, gj_si, gi_sj, gj_sr, iwc, jwc, Int.toNat_natCast, tdn, tmn, b0, b1, yc0, yc1, g61']
        rw [e61]
        have hE : EqP (fun r k => r = 54 ∨ r = 55 ∨ r = 56 ∨ r = 121 ∨ r = 86 ∧ k = 61) σ (si (si s3 121 n y) 86 61 (iw ((n : Int) + 1))) := EqP.si (EqP.si (hE3.mo (fun r k h => by omega)) _ _ _ (by omega)) _ _ _ (by omega)
        have hoy : oth ld (y.toNat : Nat) (pend n ef p0 : Nat) = ((oth ld y (pend n ef p0 : Nat)).toNat : Nat) := by
          rw [show ((y.toNat : Nat) : Int) = y by omega]; have := hc.2; omega
        refine ⟨ld, bk, hok, hL.of hE (fun r k z => by omega), hM.of hE (fun r k z => by omega), hEA.of (fun r k z => hE.i r k (by omega)), Or.inr ⟨n + 1, _, _, p0, hp.snoc hok hc.1 (y := y.toNat) (by omega) hoy, ⟨?_, ?_, ?_⟩, ?_, ?_, ?_⟩, hLY.of (fun r k z => hE.i r k (by omega)), hRP.of (fun r k z => hE r k (by omega)), hTA.of (fun r k z => hE.i r k (by omega))⟩
        · simp (disch := omega) only [gi_same, gi_ne_r, gi_ne_k, gi_sr_same, gi_sr_ne, gj_sj_same, gj_sj_ne_r, gj_sj_ne_k, gj_si, gi_sj, gj_sr, iwc, jwc, Int.toNat_natCast, tdn, tmn, b0, b1, yc0, yc1]; exact hR3.1
        · simp (disch := omega) only [gi_same, gi_ne_r, gi_ne_k, gi_sr_same, gi_sr_ne, gj_sj_same, gj_sj_ne_r, gj_sj_ne_k, gj_si, gi_sj, gj_sr, iwc, jwc, Int.toNat_natCast, tdn, tmn, b0, b1, yc0, yc1]; exact hR3.2.1
        · intro i hi
          have := hR3.2.2 i hi
          refine ⟨?_, ?_⟩
          · simp (disch := omega) only [gi_same, gi_ne_r, gi_ne_k, gi_sr_same, gi_sr_ne, gj_sj_same, gj_sj_ne_r, gj_sj_ne_k, gj_si, gi_sj, gj_sr, iwc, jwc, Int.toNat_natCast, tdn, tmn, b0, b1, yc0, yc1]; exact this.1
          · simp (disch := omega) only [gi_same, gi_ne_r, gi_ne_k, gi_sr_same, gi_sr_ne, gj_sj_same, gj_sj_ne_r, gj_sj_ne_k, gj_si, gi_sj, gj_sr, iwc, jwc, Int.toNat_natCast, tdn, tmn, b0, b1, yc0, yc1]; exact this.2
        · rw [hE.i _ _ (by omega)]; exact g60
        · simp (disch := omega) only [gi_same, gi_ne_r, gi_ne_k, gi_sr_same, gi_sr_ne, gj_sj_same, gj_sj_ne_r, gj_sj_ne_k, gj_si, gi_sj, gj_sr, iwc, jwc, Int.toNat_natCast, tdn, tmn, b0, b1, yc0, yc1]; omega
        · intro i hi
          unfold wfx
          by_cases hin : i = n
          · rw [if_pos hin, hin]; simp (disch := omega) only [gi_same, gi_ne_r, gi_ne_k, gi_sr_same, gi_sr_ne, gj_sj_same, gj_sj_ne_r, gj_sj_ne_k, gj_si, gi_sj, gj_sr, iwc, jwc, Int.toNat_natCast, tdn, tmn, b0, b1, yc0, yc1]; omega
          · rw [if_neg hin]; simp (disch := omega) only [gi_same, gi_ne_r, gi_ne_k, gi_sr_same, gi_sr_ne, gj_sj_same, gj_sj_ne_r, gj_sj_ne_k, gj_si, gi_sj, gj_sr, iwc, jwc, Int.toNat_natCast, tdn, tmn, b0, b1, yc0, yc1]; rw [hE3.i _ _ (by omega)]; exact hw i (by omega)
    · refine wp_eq ((x_append hok hL 54 (by omega) hp hR y).2 hc) (wp_t rfl (wp_some ?_))
      refine wp_f (by omega) ?_
      by_cases hy : 0 ≤ y ∧ y < gi ld 2 4
      · refine wp_b1 (x_isWayM hok hM y) hy (wp_f (by decide) ?_)
        by_cases h12 : n = 12
        · exact wp_t (by omega) (wp_some ⟨rfl, hI⟩)
        · refine wp_f (by omega) ?_
          refine wp_eq (x_routeEnd hok hM hp g60 g61 hw) ?_
          refine wp_eq (x_otherM hok hM hy _) ?_
          exact wp_f (by omega) (wp_some ⟨rfl, hI⟩)
      · exact wp_b0 (x_isWayM hok hM y) hy (wp_t rfl (wp_some ⟨rfl, hI⟩))
theorem y_about (a : Int) : MP (f_Qu_about a) (f_Mo_about a) := by
  rintro σ ⟨ld, bk, hok, hL, hM, hEA, hRO, hLY, hRP, hTA⟩
  have hI : Inv σ := ⟨ld, bk, hok, hL, hM, hEA, hRO, hLY, hRP, hTA⟩
  have hb := hM.1
  have hbk := hM.2.1
  obtain ⟨m1, m2, m3, m4, m5, m6⟩ := hM.2.2.1
  have e : ∀ k, gi σ 2 k = gi ld 2 k := fun k => hL 2 k (by omega) (by omega) (by omega)
  unfold f_Qu_about f_Mo_about
  by_cases h0 : a = 0
  · exact wp_t h0 (wp_some (wp_t h0 (wp_oc (by omega) (wp_some ⟨by rw [e, hbk, Int.toNat_natCast, m1], hI⟩))))
  refine wp_f h0 ?_
  by_cases h1 : a = 1
  · exact wp_t h1 (wp_some (wp_f h0 (wp_t h1 (wp_oc (by omega) (wp_some ⟨by rw [e, hbk, Int.toNat_natCast, m2], hI⟩)))))
  refine wp_f h1 ?_
  by_cases h2 : a = 2
  · exact wp_t h2 (wp_some (wp_f h0 (wp_f h1 (wp_t h2 (wp_eq (x_soulMany hM) (wp_some ⟨e 9, hI⟩))))))
  refine wp_f h2 ?_
  by_cases h3 : a = 3
  · exact wp_t h3 (wp_some (wp_f h0 (wp_f h1 (wp_f h2 (wp_t h3 (wp_oc (by omega) (wp_some ⟨by rw [e, hbk, Int.toNat_natCast, m4], hI⟩)))))))
  refine wp_f h3 ?_
  by_cases h4 : a = 4
  · exact wp_t h4 (wp_some (wp_f h0 (wp_f h1 (wp_f h2 (wp_f h3 (wp_t h4 (wp_some ⟨hEA.1.1.2.1, hI⟩)))))))
  refine wp_f h4 ?_
  obtain ⟨old, u, d, ho, hud, r9, r10, r11, a56, a57, hring⟩ := hEA.2.1
  by_cases h5 : a = 5
  · exact wp_t h5 (wp_some (wp_f h0 (wp_f h1 (wp_f h2 (wp_f h3 (wp_f h4 (wp_t h5 (wp_some ⟨by omega, hI⟩))))))))
  refine wp_f h5 ?_
  by_cases h6 : a = 6
  · exact wp_t h6 (wp_some (wp_f h0 (wp_f h1 (wp_f h2 (wp_f h3 (wp_f h4 (wp_f h5 (wp_t h6 (wp_some ⟨by omega, hI⟩)))))))))
  refine wp_f h6 ?_
  by_cases h7 : a = 7
  · refine wp_t h7 ?_
    rcases id hRO with ⟨k1, k2, k3, k4⟩ | ⟨n, wf, ef, p0, hp, hR, g60, g61, hw⟩
    · exact wp_t k2 (wp_some (wp_f h0 (wp_f h1 (wp_f h2 (wp_f h3 (wp_f h4 (wp_f h5 (wp_f h6 (wp_t h7 (wp_f (by omega) (wp_some ⟨rfl, hI⟩)))))))))))
    · exact wp_f (by rw [hR.2.1]; omega) (wp_some (wp_f h0 (wp_f h1 (wp_f h2 (wp_f h3 (wp_f h4 (wp_f h5 (wp_f h6 (wp_t h7 (wp_t (by omega) (wp_some ⟨by rw [hR.1]; omega, hI⟩)))))))))))
  refine wp_f h7 ?_
  by_cases h8 : a = 8
  · refine wp_t h8 (wp_some (wp_f h0 (wp_f h1 (wp_f h2 (wp_f h3 (wp_f h4 (wp_f h5 (wp_f h6 (wp_f h7 (wp_t h8 ?_))))))))))
    rcases id hRO with ⟨k1, k2, k3, k4⟩ | ⟨n, wf, ef, p0, hp, hR, g60, g61, hw⟩
    · exact wp_f (by omega) (wp_some ⟨k2, hI⟩)
    · exact wp_t (by omega) (wp_eq (x_routeEnd hok hM hp g60 g61 hw) (wp_some ⟨hR.2.1, hI⟩))
  refine wp_f h8 ?_
  obtain ⟨nr, p1, p2, p3, p4, p5, p6, p7⟩ := id hRP
  by_cases h9 : a = 9
  · exact wp_t h9 (wp_some (wp_f h0 (wp_f h1 (wp_f h2 (wp_f h3 (wp_f h4 (wp_f h5 (wp_f h6 (wp_f h7 (wp_f h8 (wp_t h9 (wp_some ⟨by omega, hI⟩))))))))))))
  refine wp_f h9 ?_
  by_cases h10 : a = 10
  · exact wp_t h10 (wp_some (wp_f h0 (wp_f h1 (wp_f h2 (wp_f h3 (wp_f h4 (wp_f h5 (wp_f h6 (wp_f h7 (wp_f h8 (wp_f h9 (wp_t h10 (wp_some ⟨by omega, hI⟩)))))))))))))
  refine wp_f h10 ?_
  by_cases h11 : a = 11
  · exact wp_t h11 (wp_some (wp_f h0 (wp_f h1 (wp_f h2 (wp_f h3 (wp_f h4 (wp_f h5 (wp_f h6 (wp_f h7 (wp_f h8 (wp_f h9 (wp_f h10 (wp_t h11 (wp_some ⟨hTA.1, hI⟩))))))))))))))
  refine wp_f h11 ?_
  by_cases h12 : a = 12
  · exact wp_t h12 (wp_some (wp_f h0 (wp_f h1 (wp_f h2 (wp_f h3 (wp_f h4 (wp_f h5 (wp_f h6 (wp_f h7 (wp_f h8 (wp_f h9 (wp_f h10 (wp_f h11 (wp_t h12 (wp_oc (by omega) (wp_some ⟨by rw [hbk, Int.toNat_natCast, m5, hL 16 3 (by omega) (by omega) (by omega), hL 19 3 (by omega) (by omega) (by omega)], hI⟩))))))))))))))))
  refine wp_f h12 ?_
  by_cases h13 : a = 13
  · obtain ⟨nl, q1, q2, q3, q4⟩ := id hLY
    exact wp_t h13 (wp_some (wp_f h0 (wp_f h1 (wp_f h2 (wp_f h3 (wp_f h4 (wp_f h5 (wp_f h6 (wp_f h7 (wp_f h8 (wp_f h9 (wp_f h10 (wp_f h11 (wp_f h12 (wp_t h13 (wp_some ⟨by omega, hI⟩))))))))))))))))
  · exact wp_f h13 (wp_some (wp_f h0 (wp_f h1 (wp_f h2 (wp_f h3 (wp_f h4 (wp_f h5 (wp_f h6 (wp_f h7 (wp_f h8 (wp_f h9 (wp_f h10 (wp_f h11 (wp_f h12 (wp_f h13 (wp_some ⟨rfl, hI⟩))))))))))))))))
theorem y_walked (a b m w : Int) : MP (f_Qu_walked a b m w) (f_Mo_walked a b m w) := by
  rintro σ ⟨ld, bk, hok, hL, hM, hEA, hRO, hLY, hRP, hTA⟩
  have hI : Inv σ := ⟨ld, bk, hok, hL, hM, hEA, hRO, hLY, hRP, hTA⟩
  unfold f_Qu_walked f_Mo_walked
  by_cases hc : cplB ld a b m
  · refine wp_eq ((x_couple hok hL a b m).1 hc) ?_
    obtain ⟨a', b', m', rfl, rfl, rfl, hcp⟩ := cplB_nat hok hc
    refine wp_f (by omega) ?_
    rcases id hRO with ⟨k1, k2, k3, k4⟩ | ⟨n, wf, ef, p0, hp, hR, g60, g61, hw⟩
    · refine wp_t k2 (wp_some ?_)
      refine wp_eq ((x_isCoupleM hok hM _ _ _).1 hc) (wp_f (by decide) ?_)
      by_cases hw : 0 ≤ w ∧ w ≤ 3
      · exact wp_b1 (x_isIn _ _ _ _) (by omega) (wp_f (by decide) (wp_f (by omega) (wp_some ⟨rfl, hI⟩)))
      · exact wp_b0 (x_isIn _ _ _ _) (by omega) (wp_t rfl (wp_some ⟨rfl, hI⟩))
    · refine wp_f (by rw [hR.2.1]; omega) ?_
      by_cases hw3 : 0 ≤ w ∧ w ≤ 3
      · refine wp_f (by omega) (wp_t (by omega) ?_)
        obtain ⟨bq1, bq2⟩ := begP_ok hok hcp.2.2.2.1
        refine wp_call (x_stBegin (t := 57) hok hL (by omega) hcp rfl) ?_
        rintro _ s9 ⟨hT9, h92, h93, hE9⟩
        refine wp_call (x_goOn (u2 := 54) (tp := gi σ 47) hok (hL.of hE9 (fun r k z => by omega)) (by omega) (by omega) rfl (fun j hj => hE9.i _ _ (by omega)) hcp hp ⟨by rw [hE9.i _ _ (by omega)]; exact hR.1, by rw [hE9.i _ _ (by omega)]; exact hR.2.1, fun i hi => by rw [hE9.i _ _ (by omega), hE9.i _ _ (by omega)]; exact hR.2.2 i hi⟩ hT9 bq1 bq2 h92 h93) ?_
        rintro v s14 ⟨hv, hT14, h142, h143, hE14⟩
        have hEs : EqP (PSt 57) σ s14 := hE9.tr hE14
        have hM14 := hM.of hEs (fun r k z => by omega)
        -- the reference's turn
        have ref : ∀ x, x = (if w = 3 then (goP ld (gi σ 47) a' b' wf ef n 0 0 (begP ld m')).2.2.2.1 else if (goP ld (gi σ 47) a' b' wf ef n 0 0 (begP ld m')).1 = true then (if w = 0 then (goP ld (gi σ 47) a' b' wf ef n 0 0 (begP ld m')).2.2.2.2.1 else if w = 1 then ((goP ld (gi σ 47) a' b' wf ef n 0 0 (begP ld m')).2.1 : Int) else (goP ld (gi σ 47) a' b' wf ef n 0 0 (begP ld m')).2.2.1) else -1) → Wp (f_Mo_walked a' b' m' w s14) fun r' σ2 => x = r' ∧ Inv σ2 := by
          intro x hx
          unfold f_Mo_walked
          refine wp_eq ((x_isCoupleM hok hM14 _ _ _).1 hc) (wp_f (by decide) ?_)
          refine wp_b1 (x_isIn _ _ _ _) (by omega) (wp_f (by decide) ?_)
          refine wp_t (by rw [hEs.i _ _ (by omega)]; omega) ?_
          refine wp_call (x_beginM (u := 119) hok hM14 (Or.inr rfl) hcp) ?_
          rintro _ s7 ⟨hT7, hE7⟩
          have hEt : EqP (fun r k => PSt 57 r k ∨ PAl r k) σ s7 := (hEs.mo (fun r k h => Or.inl h)).tr (hE7.mo (fun r k h => by omega))
          rw [hEt.i 86 61 (by omega), hEt.i 86 60 (by omega), g60, g61]
          refine wp_call (x_along (u1 := 121) (tp := gi σ 47) hok (hM.of hEt (fun r k z => by omega)) (by omega) ((tpm_ea hEA hTA).of hEt (fun r k z => by omega)) hcp hp (show n ≤ 12 from hp.2.1) (fun j hj => by rw [hEt.i _ _ (by omega)]; exact hw j hj) hT7 bq1 bq2) ?_
          rintro _ s9' ⟨hT9', h63, h64, hE9'⟩
          have hIn : Inv s9' := hI.sc ((hEt.mo (fun r k h => by omega)).tr (hE9'.mo (fun r k h => by omega)))
          generalize goP ld (gi σ 47) a' b' wf ef n 0 0 (begP ld m') = G at hx hT9' h63 h64
          by_cases w3 : w = 3
          · rw [if_pos w3] at hx
            exact wp_t w3 (wp_some ⟨by rw [hx, hT9'.2.2.2.1], hIn⟩)
          · rw [if_neg w3] at hx
            refine wp_f w3 ?_
            by_cases hG : G.1 = true
            · rw [if_pos hG] at hx h63 h64
              refine wp_t (by omega) ?_
              by_cases w0 : w = 0
              · rw [if_pos w0] at hx
                exact wp_t w0 (wp_some ⟨by rw [hx, hT9'.2.2.2.2.1], hIn⟩)
              · rw [if_neg w0] at hx
                refine wp_f w0 ?_
                by_cases w1 : w = 1
                · rw [if_pos w1] at hx
                  exact wp_t w1 (wp_some ⟨by rw [hx, h63], hIn⟩)
                · rw [if_neg w1] at hx
                  exact wp_f w1 (wp_some ⟨by rw [hx, h64], hIn⟩)
            · rw [if_neg hG] at hx h63 h64
              exact wp_f (by omega) (wp_some ⟨hx, hIn⟩)
        unfold f_Mo_walked at ref
        generalize goP ld (gi σ 47) a' b' wf ef n 0 0 (begP ld m') = G at ref hv hT14 h142 h143
        by_cases w3 : w = 3
        · exact wp_t w3 (wp_some (ref _ (by rw [if_pos w3]; exact hT14.2.1)))
        · refine wp_f w3 ?_
          by_cases hG : G.1 = true
          · rw [if_pos hG] at hv
            refine wp_f (by omega) ?_
            by_cases w0 : w = 0
            · exact wp_t w0 (wp_some (ref _ (by rw [if_neg w3, if_pos hG, if_pos w0]; exact hT14.2.2.1)))
            · refine wp_f w0 ?_
              by_cases w1 : w = 1
              · exact wp_t w1 (wp_some (ref _ (by rw [if_neg w3, if_pos hG, if_neg w0, if_pos w1]; exact h142)))
              · exact wp_f w1 (wp_some (ref _ (by rw [if_neg w3, if_pos hG, if_neg w0, if_neg w1]; exact h143)))
          · rw [if_neg hG] at hv
            exact wp_t hv (wp_some (ref _ (by rw [if_neg w3, if_neg hG])))
      · have : Wp (f_Mo_walked a' b' m' w σ) fun r' σ2 => (-2 : Int) = r' ∧ Inv σ2 := by
          unfold f_Mo_walked
          refine wp_eq ((x_isCoupleM hok hM _ _ _).1 hc) (wp_f (by decide) ?_)
          exact wp_b0 (x_isIn _ _ _ _) (by omega) (wp_t rfl (wp_some ⟨rfl, hI⟩))
        unfold f_Mo_walked at this
        by_cases h3 : w < 0
        · exact wp_t h3 (wp_some this)
        · exact wp_f h3 (wp_f (by omega) (wp_some this))
  · refine wp_eq ((x_couple hok hL a b m).2 hc) (wp_t rfl (wp_some ?_))
    exact wp_eq ((x_isCoupleM hok hM a b m).2 hc) (wp_t rfl (wp_some ⟨rfl, hI⟩))
theorem y_later (a : Int) : MP (f_Qu_later a) (f_Mo_later a) := by
  rintro σ ⟨ld, bk, hok, hL, hM, hEA, hRO, hLY, hRP, hTA⟩
  have hI : Inv σ := ⟨ld, bk, hok, hL, hM, hEA, hRO, hLY, hRP, hTA⟩
  obtain ⟨n, p1, p2, p3, p4, p5, p6, p7⟩ := id hRP
  unfold f_Qu_later f_Mo_later f_Rp_passTime
  refine wp_ob ?_
  by_cases h : 0 ≤ a ∧ a ≤ 1000
  · refine wp_f (by omega) (wp_f (by omega) ?_)
    rw [iwc (x := gi σ 79 2 + a) (by omega) (by omega)]
    have hmi : iw (gi σ 86 80 + a) = gi σ 79 2 + a := by rw [← p4, iwc (by omega) (by omega)]
    by_cases h1 : gi σ 79 2 + a ≤ 100000
    · refine wp_t h1 (wp_os (wp_some (wp_some ?_)))
      refine wp_b1 (x_isIn _ _ _ _) (by omega) (wp_f (by decide) ?_)
      have g80 : gi (si σ 79 2 (gi σ 79 2 + a)) 86 80 = gi σ 86 80 := by simp (disch := omega) only [gi_same, gi_ne_r, gi_ne_k, gi_sr_same, gi_sr_ne, gj_sj_same, gj_sj_ne_r, gj_sj_ne_k, gj_si, gi_sj, gj_sr, iwc, jwc, Int.toNat_natCast, tdn, tmn, b0, b1, yc0, yc1]
      rw [g80, hmi]
      refine wp_t h1 (wp_os (wp_some ⟨by simp (disch := omega) only [gi_same, gi_ne_r, gi_ne_k, gi_sr_same, gi_sr_ne, gj_sj_same, gj_sj_ne_r, gj_sj_ne_k, gj_si, gi_sj, gj_sr, iwc, jwc, Int.toNat_natCast, tdn, tmn, b0, b1, yc0, yc1], ?_⟩))
      have hE : EqP (fun r k => r = 79 ∧ k = 2 ∨ r = 86 ∧ k = 80) σ (si (si σ 79 2 (gi σ 79 2 + a)) 86 80 (gi σ 79 2 + a)) := by repeat (first | exact EqP.rf _ _ | (refine EqP.si ?_ _ _ _ (by omega)) | (refine EqP.sj ?_ _ _ _ (by omega)) | (refine EqP.sr ?_ _ _ (fun k => by omega)))
      refine ⟨ld, bk, hok, hL.of hE (fun r k z => by omega), hM.of hE (fun r k z => by omega), hEA.of (fun r k z => hE.i r k (by omega)), hRO.of (fun r k z => hE.i r k (by omega)), hLY.of (fun r k z => hE.i r k (by omega)), ⟨n, p1, ?_, ?_, ?_, ?_, ?_, fun i hi => ?_⟩, hTA.of (fun r k z => hE.i r k (by omega))⟩
      · rw [hE.i _ _ (by omega)]; exact p2
      · rw [hE.i _ _ (by omega)]; exact p3
      · simp (disch := omega) only [gi_same, gi_ne_r, gi_ne_k, gi_sr_same, gi_sr_ne, gj_sj_same, gj_sj_ne_r, gj_sj_ne_k, gj_si, gi_sj, gj_sr, iwc, jwc, Int.toNat_natCast, tdn, tmn, b0, b1, yc0, yc1]
      · simp (disch := omega) only [gi_same, gi_ne_r, gi_ne_k, gi_sr_same, gi_sr_ne, gj_sj_same, gj_sj_ne_r, gj_sj_ne_k, gj_si, gi_sj, gj_sr, iwc, jwc, Int.toNat_natCast, tdn, tmn, b0, b1, yc0, yc1]; omega
      · simp (disch := omega) only [gi_same, gi_ne_r, gi_ne_k, gi_sr_same, gi_sr_ne, gj_sj_same, gj_sj_ne_r, gj_sj_ne_k, gj_si, gi_sj, gj_sr, iwc, jwc, Int.toNat_natCast, tdn, tmn, b0, b1, yc0, yc1]; omega
      · rw [hE.i 80 _ (by omega), hE.i 81 _ (by omega), hE.i 131 _ (by omega), hE.i 132 _ (by omega), hE.i 133 _ (by omega), hE.i 134 _ (by omega), hE.j 82 _ (by omega)]
        exact p7 i hi
    · refine wp_f h1 (wp_some (wp_some ?_))
      refine wp_b1 (x_isIn _ _ _ _) (by omega) (wp_f (by decide) ?_)
      rw [hmi]
      exact wp_f h1 (wp_some ⟨rfl, hI⟩)
  · have : Wp (f_Mo_later a σ) fun r' σ2 => (-1 : Int) = r' ∧ Inv σ2 := by
      unfold f_Mo_later
      exact wp_b0 (x_isIn _ _ _ _) (by omega) (wp_t rfl (wp_some ⟨rfl, hI⟩))
    unfold f_Mo_later at this
    by_cases h3 : a < 0
    · exact wp_t h3 (wp_some (wp_some this))
    · exact wp_f h3 (wp_t (by omega) (wp_some (wp_some this)))
theorem y_untell (a : Int) : MP (f_Qu_untell a) (f_Mo_untell a) := by
  rintro σ ⟨ld, bk, hok, hL, hM, hEA, hRO, hLY, hRP, hTA⟩
  have hI : Inv σ := ⟨ld, bk, hok, hL, hM, hEA, hRO, hLY, hRP, hTA⟩
  obtain ⟨n, p1, p2, p3, p4, p5, p6, p7⟩ := id hRP
  have no : (0 ≤ a ∧ a < n → gi σ 134 a.toNat ≠ -1) → Wp (f_Mo_untell a σ) fun r' σ2 => (0 : Int) = r' ∧ Inv σ2 := by
    intro h0
    unfold f_Mo_untell
    rw [p3, iwc (x := (n : Int) - 1) (by omega) (by omega)]
    by_cases h : 0 ≤ a ∧ a < n
    · have := (p7 a.toNat (by omega)).2.1
      have := h0 h
      exact wp_b1 (x_isIn _ _ _ _) (by omega) (wp_f (by decide) (wp_oc (by omega) (wp_f (by omega) (wp_some ⟨rfl, hI⟩))))
    · exact wp_b0 (x_isIn _ _ _ _) (by omega) (wp_t rfl (wp_some ⟨rfl, hI⟩))
  unfold f_Mo_untell at no
  unfold f_Qu_untell f_Mo_untell f_Rp_takeBack
  refine wp_ob ?_
  by_cases h : 0 ≤ a ∧ a < n
  · obtain ⟨x, rfl⟩ : ∃ x : Nat, a = x := ⟨a.toNat, by omega⟩
    obtain ⟨⟨u1, u2⟩, ⟨u3, u4⟩, u5⟩ := p7 x (by omega)
    refine wp_f (by omega) (wp_f (by omega) (wp_f (by omega) (wp_oc (by omega) ?_)))
    rw [Int.toNat_natCast]
    by_cases hu : gi σ 81 x = -1
    · refine wp_t hu (wp_oc (by omega) (wp_os (wp_some (wp_some ?_))))
      have g79 : gi (si σ 81 x (gi σ 79 2)) 86 79 = n := by simp (disch := omega) only [gi_same, gi_ne_r, gi_ne_k, gi_sr_same, gi_sr_ne, gj_sj_same, gj_sj_ne_r, gj_sj_ne_k, gj_si, gi_sj, gj_sr, iwc, jwc, Int.toNat_natCast, tdn, tmn, b0, b1, yc0, yc1, p3]
      rw [g79, iwc (x := (n : Int) - 1) (by omega) (by omega)]
      refine wp_b1 (x_isIn _ _ _ _) (by omega) (wp_f (by decide) (wp_oc (by omega) ?_))
      refine wp_t (by simp (disch := omega) only [gi_same, gi_ne_r, gi_ne_k, gi_sr_same, gi_sr_ne, gj_sj_same, gj_sj_ne_r, gj_sj_ne_k, gj_si, gi_sj, gj_sr, iwc, jwc, Int.toNat_natCast, tdn, tmn, b0, b1, yc0, yc1]; omega) (wp_oc (by omega) (wp_os (wp_some ⟨rfl, ?_⟩)))
      have g80 : gi (si σ 81 x (gi σ 79 2)) 86 80 = gi σ 79 2 := by simp (disch := omega) only [gi_same, gi_ne_r, gi_ne_k, gi_sr_same, gi_sr_ne, gj_sj_same, gj_sj_ne_r, gj_sj_ne_k, gj_si, gi_sj, gj_sr, iwc, jwc, Int.toNat_natCast, tdn, tmn, b0, b1, yc0, yc1]; exact p4.symm
      rw [g80]
      have hE : EqP (fun r k => r = 81 ∨ r = 134) σ (si (si σ 81 x (gi σ 79 2)) 134 x (gi σ 79 2)) := by repeat (first | exact EqP.rf _ _ | (refine EqP.si ?_ _ _ _ (by omega)) | (refine EqP.sj ?_ _ _ _ (by omega)) | (refine EqP.sr ?_ _ _ (fun k => by omega)))
      refine ⟨ld, bk, hok, hL.of hE (fun r k z => by omega), hM.of hE (fun r k z => by omega), hEA.of (fun r k z => hE.i r k (by omega)), hRO.of (fun r k z => hE.i r k (by omega)), hLY.of (fun r k z => hE.i r k (by omega)), ⟨n, p1, ?_, ?_, ?_, ?_, ?_, fun i hi => ?_⟩, hTA.of (fun r k z => hE.i r k (by omega))⟩
      · rw [hE.i _ _ (by omega)]; exact p2
      · rw [hE.i _ _ (by omega)]; exact p3
      · rw [hE.i _ _ (by omega), hE.i 86 _ (by omega)]; exact p4
      · rw [hE.i _ _ (by omega)]; exact p5
      · rw [hE.i _ _ (by omega)]; exact p6
      · obtain ⟨v1, v2, v3⟩ := p7 i hi
        rw [hE.i 80 _ (by omega), hE.i 131 _ (by omega), hE.i 132 _ (by omega), hE.i 133 _ (by omega), hE.j 82 _ (by omega)]
        refine ⟨v1, ?_, v3⟩
        by_cases hix : i = x
        · subst hix
          refine ⟨by simp (disch := omega) only [gi_same, gi_ne_r, gi_ne_k, gi_sr_same, gi_sr_ne, gj_sj_same, gj_sj_ne_r, gj_sj_ne_k, gj_si, gi_sj, gj_sr, iwc, jwc, Int.toNat_natCast, tdn, tmn, b0, b1, yc0, yc1], by simp (disch := omega) only [gi_same, gi_ne_r, gi_ne_k, gi_sr_same, gi_sr_ne, gj_sj_same, gj_sj_ne_r, gj_sj_ne_k, gj_si, gi_sj, gj_sr, iwc, jwc, Int.toNat_natCast, tdn, tmn, b0, b1, yc0, yc1]; omega⟩
        · simp (disch := omega) only [gi_same, gi_ne_r, gi_ne_k, gi_sr_same, gi_sr_ne, gj_sj_same, gj_sj_ne_r, gj_sj_ne_k, gj_si, gi_sj, gj_sr, iwc, jwc, Int.toNat_natCast, tdn, tmn, b0, b1, yc0, yc1]
          exact v2
    · refine wp_f hu (wp_some (wp_some (no fun _ => by rw [Int.toNat_natCast]; omega)))
  · by_cases h1 : a < 0
    · exact wp_t h1 (wp_some (wp_some (no fun z => absurd z h)))
    · exact wp_f h1 (wp_t (by omega) (wp_some (wp_some (no fun z => absurd z h))))
