/-! in earnest: states kept and brought back -/
theorem x_taput (u1 : Nat) (hu : u1 = 48 ∨ u1 = 49) (o : Nat) (ho : o + 24 ≤ rN u1) (σ : SS) : Wp (f_Ta_put 51 u1 o σ) fun _ τ => EqP (fun r k => r = u1 ∧ o ≤ k ∧ k < o + 24) σ τ ∧ (∀ j, j < 4 → gi τ u1 (o + j) = gi σ 51 (3 + j)) ∧ ∀ j, j < 20 → gi τ u1 (o + 4 + j) = gi σ 53 j := by
  have hrn : rN u1 ≤ 2000 := by rcases hu with rfl | rfl <;> decide
  unfold f_Ta_put
  have e24 : iw (((rN u1 : Nat) : Int) - 24) = ((rN u1 : Nat) : Int) - 24 := by rw [iwc (by omega) (by omega)]
  rw [e24]
  repeat (first | with_reducible refine wp_os ?_ | with_reducible refine wp_ol ?_ | (with_reducible refine wp_oc ?_ ?_; · (first | omega | (simp (disch := omega) only [gi_same, gi_ne_r, gi_ne_k, gi_sr_same, gi_sr_ne, gj_sj_same, gj_sj_ne_r, gj_sj_ne_k, gj_si, gi_sj, gj_sr, iwc, jwc, Int.toNat_natCast, tdn, tmn, b0, b1, yc0, yc1]; try omega))) | (with_reducible refine wp_t ?_ ?_; · (first | omega | (simp (disch := omega) only [gi_same, gi_ne_r, gi_ne_k, gi_sr_same, gi_sr_ne, gj_sj_same, gj_sj_ne_r, gj_sj_ne_k, gj_si, gi_sj, gj_sr, iwc, jwc, Int.toNat_natCast, tdn, tmn, b0, b1, yc0, yc1]; try omega))) | (with_reducible refine wp_f ?_ ?_; · (first | omega | (simp (disch := omega) only [gi_same, gi_ne_r, gi_ne_k, gi_sr_same, gi_sr_ne, gj_sj_same, gj_sj_ne_r, gj_sj_ne_k, gj_si, gi_sj, gj_sr, iwc, jwc, Int.toNat_natCast, tdn, tmn, b0, b1, yc0, yc1]; try omega))))
  have t0 : ((o : Int)).toNat = o := rfl
  have t1 : (iw ((o : Int) + 1)).toNat = o + 1 := by rw [iwc (by omega) (by omega)]; omega
  have t2 : (iw ((o : Int) + 2)).toNat = o + 2 := by rw [iwc (by omega) (by omega)]; omega
  have t3 : (iw ((o : Int) + 3)).toNat = o + 3 := by rw [iwc (by omega) (by omega)]; omega
  rw [t0, t1, t2, t3]
  have i4 : iw ((o : Int) + 4) = ((o + 4 : Nat) : Int) := by rw [iwc (by omega) (by omega)]; omega
  have z := fun s => cp_loop (l_Ta_put_50 51 u1 o) (fun τ => some (0, τ)) u1 53 20 (o + 4) 0 (by omega) (fun _ => True) (fun _ _ _ h => h) (fun fu i τ hI hi => by
      have e : iw ((((o + 4 : Nat) : Int)) + (i : Int)) = ((o + 4 + i : Nat) : Int) := by rw [iwc (by omega) (by omega)]; omega
      rw [l_Ta_put_50, if_neg (by omega), oc_pos (by omega), i4, e, oc_pos (by omega), os_eq, iwc (by omega) (by omega), Int.toNat_natCast, Int.toNat_natCast, Nat.zero_add]
      congr 1) (fun fu τ hI => by rw [l_Ta_put_50, if_pos (by omega)]) 20 0 FU s (by omega) (by unfold FU; omega) trivial
  refine wp_eqe (z _) ⟨?_, ?_, ?_⟩
  · intro r k hk
    refine ⟨?_, rfl⟩
    by_cases hr : r = u1
    · subst hr
      rw [gi_sr_same, if_neg (by omega)]
      simp (disch := omega) only [gi_same, gi_ne_r, gi_ne_k, gi_sr_same, gi_sr_ne, gj_sj_same, gj_sj_ne_r, gj_sj_ne_k, gj_si, gi_sj, gj_sr, iwc, jwc, Int.toNat_natCast, tdn, tmn, b0, b1, yc0, yc1]
    · simp (disch := omega) only [gi_same, gi_ne_r, gi_ne_k, gi_sr_same, gi_sr_ne, gj_sj_same, gj_sj_ne_r, gj_sj_ne_k, gj_si, gi_sj, gj_sr, iwc, jwc, Int.toNat_natCast, tdn, tmn, b0, b1, yc0, yc1]
  · intro j hj
    rw [gi_sr_same, if_neg (by omega)]
    have hc : j = 0 ∨ j = 1 ∨ j = 2 ∨ j = 3 := by omega
    rcases hc with rfl | rfl | rfl | rfl
    · simp (disch := omega) only [gi_same, gi_ne_r, gi_ne_k, gi_sr_same, gi_sr_ne, gj_sj_same, gj_sj_ne_r, gj_sj_ne_k, gj_si, gi_sj, gj_sr, iwc, jwc, Int.toNat_natCast, tdn, tmn, b0, b1, yc0, yc1, Nat.add_zero]
    · simp (disch := omega) only [gi_same, gi_ne_r, gi_ne_k, gi_sr_same, gi_sr_ne, gj_sj_same, gj_sj_ne_r, gj_sj_ne_k, gj_si, gi_sj, gj_sr, iwc, jwc, Int.toNat_natCast, tdn, tmn, b0, b1, yc0, yc1]
    · simp (disch := omega) only [gi_same, gi_ne_r, gi_ne_k, gi_sr_same, gi_sr_ne, gj_sj_same, gj_sj_ne_r, gj_sj_ne_k, gj_si, gi_sj, gj_sr, iwc, jwc, Int.toNat_natCast, tdn, tmn, b0, b1, yc0, yc1]
    · simp (disch := omega) only [gi_same, gi_ne_r, gi_ne_k, gi_sr_same, gi_sr_ne, gj_sj_same, gj_sj_ne_r, gj_sj_ne_k, gj_si, gi_sj, gj_sr, iwc, jwc, Int.toNat_natCast, tdn, tmn, b0, b1, yc0, yc1]
  · intro j hj
    rw [gi_sr_same, if_pos (by omega)]
    simp (disch := omega) only [gi_same, gi_ne_r, gi_ne_k, gi_sr_same, gi_sr_ne, gj_sj_same, gj_sj_ne_r, gj_sj_ne_k, gj_si, gi_sj, gj_sr, iwc, jwc, Int.toNat_natCast, tdn, tmn, b0, b1, yc0, yc1]
    congr 1 <;> omega
theorem x_tabring (u1 : Nat) (hu : u1 = 48 ∨ u1 = 49) (o : Nat) (ho : o + 24 ≤ rN u1) (σ : SS) : Wp (f_Ta_bring 51 u1 o σ) fun _ τ => EqP (fun r k => r = 51 ∧ 3 ≤ k ∧ k ≤ 6 ∨ r = 53) σ τ ∧ (∀ j, j < 4 → gi τ 51 (3 + j) = gi σ u1 (o + j)) ∧ ∀ j, j < 20 → gi τ 53 j = gi σ u1 (o + 4 + j) := by
  have hrn : rN u1 ≤ 2000 := by rcases hu with rfl | rfl <;> decide
  unfold f_Ta_bring
  have e24 : iw (((rN u1 : Nat) : Int) - 24) = ((rN u1 : Nat) : Int) - 24 := by rw [iwc (by omega) (by omega)]
  rw [e24]
  repeat (first | with_reducible refine wp_os ?_ | with_reducible refine wp_ol ?_ | (with_reducible refine wp_oc ?_ ?_; · (first | omega | (simp (disch := omega) only [gi_same, gi_ne_r, gi_ne_k, gi_sr_same, gi_sr_ne, gj_sj_same, gj_sj_ne_r, gj_sj_ne_k, gj_si, gi_sj, gj_sr, iwc, jwc, Int.toNat_natCast, tdn, tmn, b0, b1, yc0, yc1]; try omega))) | (with_reducible refine wp_t ?_ ?_; · (first | omega | (simp (disch := omega) only [gi_same, gi_ne_r, gi_ne_k, gi_sr_same, gi_sr_ne, gj_sj_same, gj_sj_ne_r, gj_sj_ne_k, gj_si, gi_sj, gj_sr, iwc, jwc, Int.toNat_natCast, tdn, tmn, b0, b1, yc0, yc1]; try omega))) | (with_reducible refine wp_f ?_ ?_; · (first | omega | (simp (disch := omega) only [gi_same, gi_ne_r, gi_ne_k, gi_sr_same, gi_sr_ne, gj_sj_same, gj_sj_ne_r, gj_sj_ne_k, gj_si, gi_sj, gj_sr, iwc, jwc, Int.toNat_natCast, tdn, tmn, b0, b1, yc0, yc1]; try omega))))
  have t0 : ((o : Int)).toNat = o := rfl
  have t1 : (iw ((o : Int) + 1)).toNat = o + 1 := by rw [iwc (by omega) (by omega)]; omega
  have t2 : (iw ((o : Int) + 2)).toNat = o + 2 := by rw [iwc (by omega) (by omega)]; omega
  have t3 : (iw ((o : Int) + 3)).toNat = o + 3 := by rw [iwc (by omega) (by omega)]; omega
  rw [t0, t1, t2, t3]
  have i4 : iw ((o : Int) + 4) = ((o + 4 : Nat) : Int) := by rw [iwc (by omega) (by omega)]; omega
  have z := fun s => cp_loop (l_Ta_bring_50 51 u1 o) (fun τ => some (0, τ)) 53 u1 20 0 (o + 4) (by omega) (fun _ => True) (fun _ _ _ h => h) (fun fu i τ hI hi => by
      have e : iw ((((o + 4 : Nat) : Int)) + (i : Int)) = ((o + 4 + i : Nat) : Int) := by rw [iwc (by omega) (by omega)]; omega
      rw [l_Ta_bring_50, if_neg (by omega), i4, e, oc_pos (by omega), oc_pos (by omega), os_eq, iwc (by omega) (by omega), Int.toNat_natCast, Int.toNat_natCast, Nat.zero_add]
      congr 1) (fun fu τ hI => by rw [l_Ta_bring_50, if_pos (by omega)]) 20 0 FU s (by omega) (by unfold FU; omega) trivial
  refine wp_eqe (z _) ⟨?_, ?_, ?_⟩
  · refine EqP.sr ?_ _ _ (fun k => by omega)
    repeat (first | exact EqP.rf _ _ | (refine EqP.si ?_ _ _ _ (by omega)) | (refine EqP.sj ?_ _ _ _ (by omega)) | (refine EqP.sr ?_ _ _ (fun k => by omega)))
  · intro j hj
    have hc : j = 0 ∨ j = 1 ∨ j = 2 ∨ j = 3 := by omega
    rcases hc with rfl | rfl | rfl | rfl
    · simp (disch := omega) only [gi_same, gi_ne_r, gi_ne_k, gi_sr_same, gi_sr_ne, gj_sj_same, gj_sj_ne_r, gj_sj_ne_k, gj_si, gi_sj, gj_sr, iwc, jwc, Int.toNat_natCast, tdn, tmn, b0, b1, yc0, yc1, Nat.add_zero]
    · simp (disch := omega) only [gi_same, gi_ne_r, gi_ne_k, gi_sr_same, gi_sr_ne, gj_sj_same, gj_sj_ne_r, gj_sj_ne_k, gj_si, gi_sj, gj_sr, iwc, jwc, Int.toNat_natCast, tdn, tmn, b0, b1, yc0, yc1]
    · simp (disch := omega) only [gi_same, gi_ne_r, gi_ne_k, gi_sr_same, gi_sr_ne, gj_sj_same, gj_sj_ne_r, gj_sj_ne_k, gj_si, gi_sj, gj_sr, iwc, jwc, Int.toNat_natCast, tdn, tmn, b0, b1, yc0, yc1]
    · simp (disch := omega) only [gi_same, gi_ne_r, gi_ne_k, gi_sr_same, gi_sr_ne, gj_sj_same, gj_sj_ne_r, gj_sj_ne_k, gj_si, gi_sj, gj_sr, iwc, jwc, Int.toNat_natCast, tdn, tmn, b0, b1, yc0, yc1]
  · intro j hj
    rw [gi_sr_same, if_pos (by omega)]
    simp (disch := omega) only [gi_same, gi_ne_r, gi_ne_k, gi_sr_same, gi_sr_ne, gj_sj_same, gj_sj_ne_r, gj_sj_ne_k, gj_si, gi_sj, gj_sr, iwc, jwc, Int.toNat_natCast, tdn, tmn, b0, b1, yc0, yc1]
    congr 1
theorem x_put (u1 : Nat) (hu : u1 = 48 ∨ u1 = 49) (o : Nat) (ho : o + 41 ≤ rN u1) (σ : SS) (hw : gi σ 46 4 = 0 ∨ gi σ 46 4 = 1) : Wp (f_Ea_put u1 o σ) fun _ τ => EqP (fun r k => r = u1 ∧ o ≤ k ∧ k < o + 41) σ τ ∧ ∀ j, j < 41 → gi τ u1 (o + j) = cv σ j := by
  have hrn : rN u1 ≤ 2000 := by rcases hu with rfl | rfl <;> decide
  unfold f_Ea_put
  have e41 : iw (((rN u1 : Nat) : Int) - 41) = ((rN u1 : Nat) : Int) - 41 := by rw [iwc (by omega) (by omega)]
  rw [e41]
  repeat (first | with_reducible refine wp_os ?_ | with_reducible refine wp_ol ?_ | (with_reducible refine wp_oc ?_ ?_; · (first | omega | (simp (disch := omega) only [gi_same, gi_ne_r, gi_ne_k, gi_sr_same, gi_sr_ne, gj_sj_same, gj_sj_ne_r, gj_sj_ne_k, gj_si, gi_sj, gj_sr, iwc, jwc, Int.toNat_natCast, tdn, tmn, b0, b1, yc0, yc1]; try omega))) | (with_reducible refine wp_t ?_ ?_; · (first | omega | (simp (disch := omega) only [gi_same, gi_ne_r, gi_ne_k, gi_sr_same, gi_sr_ne, gj_sj_same, gj_sj_ne_r, gj_sj_ne_k, gj_si, gi_sj, gj_sr, iwc, jwc, Int.toNat_natCast, tdn, tmn, b0, b1, yc0, yc1]; try omega))) | (with_reducible refine wp_f ?_ ?_; · (first | omega | (simp (disch := omega) only [gi_same, gi_ne_r, gi_ne_k, gi_sr_same, gi_sr_ne, gj_sj_same, gj_sj_ne_r, gj_sj_ne_k, gj_si, gi_sj, gj_sr, iwc, jwc, Int.toNat_natCast, tdn, tmn, b0, b1, yc0, yc1]; try omega))))
  have i12 : iw ((o : Int) + 12) = ((o + 12 : Nat) : Int) := by rw [iwc (by omega) (by omega)]; omega
  have z := fun s => cp_loop (l_Ea_put_16 u1 o) (fun τ => l_Ea_put_16 u1 o 1 12 τ) u1 47 12 o 0 (by omega) (fun _ => True) (fun _ _ _ h => h) (fun fu i τ hI hi => by
      have e : iw ((o : Int) + (i : Int)) = ((o + i : Nat) : Int) := by rw [iwc (by omega) (by omega)]; omega
      rw [l_Ea_put_16, if_neg (by omega), oc_pos (by omega), e, oc_pos (by omega), os_eq, iwc (by omega) (by omega), Int.toNat_natCast, Int.toNat_natCast, Nat.zero_add]
      congr 1) (fun fu τ hI => by rw [l_Ea_put_16, l_Ea_put_16, if_pos (by omega), if_pos (by omega)]) 12 0 FU s (by omega) (by unfold FU; omega) trivial
  refine wp_unf (z σ) ?_
  generalize hs0 : sr σ u1 (fun j => if o + 0 ≤ j ∧ j < o + 12 then gi σ 47 (0 + (j - o)) else gi σ u1 j) = s0
  have hE0 : EqP (fun r k => r = u1 ∧ o ≤ k ∧ k < o + 41) σ s0 := by
    rw [← hs0]
    intro r k hk
    refine ⟨?_, rfl⟩
    by_cases hr : r = u1
    · subst hr; rw [gi_sr_same, if_neg (by omega)]
    · simp (disch := omega) only [gi_same, gi_ne_r, gi_ne_k, gi_sr_same, gi_sr_ne, gj_sj_same, gj_sj_ne_r, gj_sj_ne_k, gj_si, gi_sj, gj_sr, iwc, jwc, Int.toNat_natCast, tdn, tmn, b0, b1, yc0, yc1]
  have h0 : ∀ j, j < 12 → gi s0 u1 (o + j) = gi σ 47 j := fun j hj => by
    rw [← hs0, gi_sr_same, if_pos (by omega)]; congr 1 <;> omega
  have q1 : ∀ r k, r ≠ u1 → gi s0 r k = gi σ r k := fun r k h => hE0.i r k (by omega)
  clear hs0
  rw [l_Ea_put_16, if_pos (by omega), ol_eq, i12]
  repeat (first | with_reducible refine wp_os ?_ | with_reducible refine wp_ol ?_ | (with_reducible refine wp_oc ?_ ?_; · (first | omega | (simp (disch := omega) only [gi_same, gi_ne_r, gi_ne_k, gi_sr_same, gi_sr_ne, gj_sj_same, gj_sj_ne_r, gj_sj_ne_k, gj_si, gi_sj, gj_sr, iwc, jwc, Int.toNat_natCast, tdn, tmn, b0, b1, yc0, yc1]; try omega))) | (with_reducible refine wp_t ?_ ?_; · (first | omega | (simp (disch := omega) only [gi_same, gi_ne_r, gi_ne_k, gi_sr_same, gi_sr_ne, gj_sj_same, gj_sj_ne_r, gj_sj_ne_k, gj_si, gi_sj, gj_sr, iwc, jwc, Int.toNat_natCast, tdn, tmn, b0, b1, yc0, yc1]; try omega))) | (with_reducible refine wp_f ?_ ?_; · (first | omega | (simp (disch := omega) only [gi_same, gi_ne_r, gi_ne_k, gi_sr_same, gi_sr_ne, gj_sj_same, gj_sj_ne_r, gj_sj_ne_k, gj_si, gi_sj, gj_sr, iwc, jwc, Int.toNat_natCast, tdn, tmn, b0, b1, yc0, yc1]; try omega))))
  have main : ∀ v, v = gi σ 46 4 → Wp (j_Ea_put_73 u1 ((o + 12 : Nat) : Int) (iw (((o + 12 : Nat) : Int) + 1)) v (si s0 u1 (((o + 12 : Nat) : Int)).toNat (gi s0 46 2))) fun _ τ => EqP (fun r k => r = u1 ∧ o ≤ k ∧ k < o + 41) σ τ ∧ ∀ j, j < 41 → gi τ u1 (o + j) = cv σ j := by
    intro v hv
    unfold j_Ea_put_73
    rw [iwc (x := ((o + 12 : Nat) : Int) + 1) (by omega) (by omega), iwc (x := ((o + 12 : Nat) : Int) + 2) (by omega) (by omega), iwc (x := ((o + 12 : Nat) : Int) + 3) (by omega) (by omega), iwc (x := ((o + 12 : Nat) : Int) + 4) (by omega) (by omega), iwc (x := ((o + 12 : Nat) : Int) + 5) (by omega) (by omega), tn (x := ((o + 12 : Nat) : Int) + 1) (o + 13) (by omega), tn (x := ((o + 12 : Nat) : Int) + 2) (o + 14) (by omega), tn (x := ((o + 12 : Nat) : Int) + 3) (o + 15) (by omega), tn (x := ((o + 12 : Nat) : Int) + 4) (o + 16) (by omega), Int.toNat_natCast, show ((o + 12 : Nat) : Int) + 5 = ((o + 17 : Nat) : Int) by omega]
    repeat (first | with_reducible refine wp_os ?_ | with_reducible refine wp_ol ?_ | (with_reducible refine wp_oc ?_ ?_; · (first | omega | (simp (disch := omega) only [gi_same, gi_ne_r, gi_ne_k, gi_sr_same, gi_sr_ne, gj_sj_same, gj_sj_ne_r, gj_sj_ne_k, gj_si, gi_sj, gj_sr, iwc, jwc, Int.toNat_natCast, tdn, tmn, b0, b1, yc0, yc1]; try omega))) | (with_reducible refine wp_t ?_ ?_; · (first | omega | (simp (disch := omega) only [gi_same, gi_ne_r, gi_ne_k, gi_sr_same, gi_sr_ne, gj_sj_same, gj_sj_ne_r, gj_sj_ne_k, gj_si, gi_sj, gj_sr, iwc, jwc, Int.toNat_natCast, tdn, tmn, b0, b1, yc0, yc1]; try omega))) | (with_reducible refine wp_f ?_ ?_; · (first | omega | (simp (disch := omega) only [gi_same, gi_ne_r, gi_ne_k, gi_sr_same, gi_sr_ne, gj_sj_same, gj_sj_ne_r, gj_sj_ne_k, gj_si, gi_sj, gj_sr, iwc, jwc, Int.toNat_natCast, tdn, tmn, b0, b1, yc0, yc1]; try omega))))
    refine wp_call (x_taput u1 hu (o + 17) (by omega) _) ?_
    rintro _ s10 ⟨hE, hA, hB⟩
    refine wp_some ⟨?_, ?_⟩
    · refine EqP.tr ?_ (hE.mo (fun r k h => by omega))
      refine EqP.si (EqP.si (EqP.si (EqP.si (EqP.si hE0 _ _ _ ?_) _ _ _ ?_) _ _ _ ?_) _ _ _ ?_) _ _ _ ?_ <;> omega
    · intro j hj
      unfold cv
      by_cases j1 : j < 12
      · rw [if_pos j1, hE.i _ _ (by omega)]
        simp (disch := omega) only [gi_same, gi_ne_r, gi_ne_k, gi_sr_same, gi_sr_ne, gj_sj_same, gj_sj_ne_r, gj_sj_ne_k, gj_si, gi_sj, gj_sr, iwc, jwc, Int.toNat_natCast, tdn, tmn, b0, b1, yc0, yc1]
        exact h0 j j1
      · rw [if_neg j1]
        by_cases j2 : j = 12
        · rw [if_pos j2, hE.i _ _ (by omega), j2]
          simp (disch := omega) only [gi_same, gi_ne_r, gi_ne_k, gi_sr_same, gi_sr_ne, gj_sj_same, gj_sj_ne_r, gj_sj_ne_k, gj_si, gi_sj, gj_sr, iwc, jwc, Int.toNat_natCast, tdn, tmn, b0, b1, yc0, yc1, q1]
        · rw [if_neg j2]
          by_cases j3 : j < 17
          · rw [if_pos j3, hE.i _ _ (by omega)]
            have hc : j = 13 ∨ j = 14 ∨ j = 15 ∨ j = 16 := by omega
            rcases hc with rfl | rfl | rfl | rfl
            · simp (disch := omega) only [gi_same, gi_ne_r, gi_ne_k, gi_sr_same, gi_sr_ne, gj_sj_same, gj_sj_ne_r, gj_sj_ne_k, gj_si, gi_sj, gj_sr, iwc, jwc, Int.toNat_natCast, tdn, tmn, b0, b1, yc0, yc1, hv]
            · simp (disch := omega) only [gi_same, gi_ne_r, gi_ne_k, gi_sr_same, gi_sr_ne, gj_sj_same, gj_sj_ne_r, gj_sj_ne_k, gj_si, gi_sj, gj_sr, iwc, jwc, Int.toNat_natCast, tdn, tmn, b0, b1, yc0, yc1, q1]
            · simp (disch := omega) only [gi_same, gi_ne_r, gi_ne_k, gi_sr_same, gi_sr_ne, gj_sj_same, gj_sj_ne_r, gj_sj_ne_k, gj_si, gi_sj, gj_sr, iwc, jwc, Int.toNat_natCast, tdn, tmn, b0, b1, yc0, yc1, q1]
            · simp (disch := omega) only [gi_same, gi_ne_r, gi_ne_k, gi_sr_same, gi_sr_ne, gj_sj_same, gj_sj_ne_r, gj_sj_ne_k, gj_si, gi_sj, gj_sr, iwc, jwc, Int.toNat_natCast, tdn, tmn, b0, b1, yc0, yc1, q1]
          · rw [if_neg j3]
            by_cases j4 : j < 21
            · rw [if_pos j4, show o + j = o + 17 + (j - 17) by omega, hA _ (by omega), show 3 + (j - 17) = j - 14 by omega]
              simp (disch := omega) only [gi_same, gi_ne_r, gi_ne_k, gi_sr_same, gi_sr_ne, gj_sj_same, gj_sj_ne_r, gj_sj_ne_k, gj_si, gi_sj, gj_sr, iwc, jwc, Int.toNat_natCast, tdn, tmn, b0, b1, yc0, yc1, q1]
            · rw [if_neg j4, show o + j = o + 17 + 4 + (j - 21) by omega, hB _ (by omega)]
              simp (disch := omega) only [gi_same, gi_ne_r, gi_ne_k, gi_sr_same, gi_sr_ne, gj_sj_same, gj_sj_ne_r, gj_sj_ne_k, gj_si, gi_sj, gj_sr, iwc, jwc, Int.toNat_natCast, tdn, tmn, b0, b1, yc0, yc1, q1]
  have hw4 : gi (si s0 u1 (((o + 12 : Nat) : Int)).toNat (gi s0 46 2)) 46 4 = gi σ 46 4 := by simp (disch := omega) only [gi_same, gi_ne_r, gi_ne_k, gi_sr_same, gi_sr_ne, gj_sj_same, gj_sj_ne_r, gj_sj_ne_k, gj_si, gi_sj, gj_sr, iwc, jwc, Int.toNat_natCast, tdn, tmn, b0, b1, yc0, yc1, q1]
  rw [hw4]
  rcases hw with h | h
  · exact wp_t h (main 0 h.symm)
  · exact wp_f (by omega) (main 1 h.symm)
abbrev PB : Nat → Nat → Prop := fun r k => r = 47 ∨ r = 46 ∧ (k = 2 ∨ 4 ≤ k ∧ k ≤ 7) ∨ r = 51 ∧ 3 ≤ k ∧ k ≤ 6 ∨ r = 53
theorem x_bring (u1 : Nat) (hu : u1 = 48 ∨ u1 = 49) (o : Nat) (ho : o + 41 ≤ rN u1) (σ : SS) (hw : gi σ u1 (o + 13) = 0 ∨ gi σ u1 (o + 13) = 1) : Wp (f_Ea_bring u1 o σ) fun _ τ => EqP PB σ τ ∧ ∀ j, j < 41 → cv τ j = gi σ u1 (o + j) := by
  have hrn : rN u1 ≤ 2000 := by rcases hu with rfl | rfl <;> decide
  unfold f_Ea_bring
  have e41 : iw (((rN u1 : Nat) : Int) - 41) = ((rN u1 : Nat) : Int) - 41 := by rw [iwc (by omega) (by omega)]
  rw [e41]
  repeat (first | with_reducible refine wp_os ?_ | with_reducible refine wp_ol ?_ | (with_reducible refine wp_oc ?_ ?_; · (first | omega | (simp (disch := omega) only [gi_same, gi_ne_r, gi_ne_k, gi_sr_same, gi_sr_ne, gj_sj_same, gj_sj_ne_r, gj_sj_ne_k, gj_si, gi_sj, gj_sr, iwc, jwc, Int.toNat_natCast, tdn, tmn, b0, b1, yc0, yc1]; try omega))) | (with_reducible refine wp_t ?_ ?_; · (first | omega | (simp (disch := omega) only [gi_same, gi_ne_r, gi_ne_k, gi_sr_same, gi_sr_ne, gj_sj_same, gj_sj_ne_r, gj_sj_ne_k, gj_si, gi_sj, gj_sr, iwc, jwc, Int.toNat_natCast, tdn, tmn, b0, b1, yc0, yc1]; try omega))) | (with_reducible refine wp_f ?_ ?_; · (first | omega | (simp (disch := omega) only [gi_same, gi_ne_r, gi_ne_k, gi_sr_same, gi_sr_ne, gj_sj_same, gj_sj_ne_r, gj_sj_ne_k, gj_si, gi_sj, gj_sr, iwc, jwc, Int.toNat_natCast, tdn, tmn, b0, b1, yc0, yc1]; try omega))))
  have i12 : iw ((o : Int) + 12) = ((o + 12 : Nat) : Int) := by rw [iwc (by omega) (by omega)]; omega
  have z := fun s => cp_loop (l_Ea_bring_16 u1 o) (fun τ => l_Ea_bring_16 u1 o 1 12 τ) 47 u1 12 0 o (by omega) (fun _ => True) (fun _ _ _ h => h) (fun fu i τ hI hi => by
      have e : iw ((o : Int) + (i : Int)) = ((o + i : Nat) : Int) := by rw [iwc (by omega) (by omega)]; omega
      rw [l_Ea_bring_16, if_neg (by omega), e, oc_pos (by omega), oc_pos (by omega), os_eq, iwc (by omega) (by omega), Int.toNat_natCast, Int.toNat_natCast, Nat.zero_add]
      congr 1) (fun fu τ hI => by rw [l_Ea_bring_16, l_Ea_bring_16, if_pos (by omega), if_pos (by omega)]) 12 0 FU s (by omega) (by unfold FU; omega) trivial
  refine wp_unf (z σ) ?_
  generalize hs0 : sr σ 47 (fun j => if 0 + 0 ≤ j ∧ j < 0 + 12 then gi σ u1 (o + (j - 0)) else gi σ 47 j) = s0
  have hE0 : EqP PB σ s0 := by
    rw [← hs0]
    exact EqP.sr (EqP.rf _ _) _ _ (fun k => by omega)
  have h0 : ∀ j, j < 12 → gi s0 47 j = gi σ u1 (o + j) := fun j hj => by
    rw [← hs0, gi_sr_same, if_pos (by omega)]; congr 1
  have q1 : ∀ r k, r ≠ 47 → gi s0 r k = gi σ r k := fun r k h => by rw [← hs0, gi_sr_ne _ _ _ h]
  clear hs0
  rw [l_Ea_bring_16, if_pos (by omega), ol_eq, i12]
  repeat (first | with_reducible refine wp_os ?_ | with_reducible refine wp_ol ?_ | (with_reducible refine wp_oc ?_ ?_; · (first | omega | (simp (disch := omega) only [gi_same, gi_ne_r, gi_ne_k, gi_sr_same, gi_sr_ne, gj_sj_same, gj_sj_ne_r, gj_sj_ne_k, gj_si, gi_sj, gj_sr, iwc, jwc, Int.toNat_natCast, tdn, tmn, b0, b1, yc0, yc1]; try omega))) | (with_reducible refine wp_t ?_ ?_; · (first | omega | (simp (disch := omega) only [gi_same, gi_ne_r, gi_ne_k, gi_sr_same, gi_sr_ne, gj_sj_same, gj_sj_ne_r, gj_sj_ne_k, gj_si, gi_sj, gj_sr, iwc, jwc, Int.toNat_natCast, tdn, tmn, b0, b1, yc0, yc1]; try omega))) | (with_reducible refine wp_f ?_ ?_; · (first | omega | (simp (disch := omega) only [gi_same, gi_ne_r, gi_ne_k, gi_sr_same, gi_sr_ne, gj_sj_same, gj_sj_ne_r, gj_sj_ne_k, gj_si, gi_sj, gj_sr, iwc, jwc, Int.toNat_natCast, tdn, tmn, b0, b1, yc0, yc1]; try omega))))
  have main : ∀ v, v = gi σ u1 (o + 13) → Wp (j_Ea_bring_72 u1 ((o + 12 : Nat) : Int) v (si s0 46 2 (gi s0 u1 (((o + 12 : Nat) : Int)).toNat))) fun _ τ => EqP PB σ τ ∧ ∀ j, j < 41 → cv τ j = gi σ u1 (o + j) := by
    intro v hv
    unfold j_Ea_bring_72
    rw [iwc (x := ((o + 12 : Nat) : Int) + 2) (by omega) (by omega), iwc (x := ((o + 12 : Nat) : Int) + 3) (by omega) (by omega), iwc (x := ((o + 12 : Nat) : Int) + 4) (by omega) (by omega), iwc (x := ((o + 12 : Nat) : Int) + 5) (by omega) (by omega), tn (x := ((o + 12 : Nat) : Int) + 2) (o + 14) (by omega), tn (x := ((o + 12 : Nat) : Int) + 3) (o + 15) (by omega), tn (x := ((o + 12 : Nat) : Int) + 4) (o + 16) (by omega), Int.toNat_natCast, show ((o + 12 : Nat) : Int) + 5 = ((o + 17 : Nat) : Int) by omega]
    repeat (first | with_reducible refine wp_os ?_ | with_reducible refine wp_ol ?_ | (with_reducible refine wp_oc ?_ ?_; · (first | omega | (simp (disch := omega) only [gi_same, gi_ne_r, gi_ne_k, gi_sr_same, gi_sr_ne, gj_sj_same, gj_sj_ne_r, gj_sj_ne_k, gj_si, gi_sj, gj_sr, iwc, jwc, Int.toNat_natCast, tdn, tmn, b0, b1, yc0, yc1]; try omega))) | (with_reducible refine wp_t ?_ ?_; · (first | omega | (simp (disch := omega) only [gi_same, gi_ne_r, gi_ne_k, gi_sr_same, gi_sr_ne, gj_sj_same, gj_sj_ne_r, gj_sj_ne_k, gj_si, gi_sj, gj_sr, iwc, jwc, Int.toNat_natCast, tdn, tmn, b0, b1, yc0, yc1]; try omega))) | (with_reducible refine wp_f ?_ ?_; · (first | omega | (simp (disch := omega) only [gi_same, gi_ne_r, gi_ne_k, gi_sr_same, gi_sr_ne, gj_sj_same, gj_sj_ne_r, gj_sj_ne_k, gj_si, gi_sj, gj_sr, iwc, jwc, Int.toNat_natCast, tdn, tmn, b0, b1, yc0, yc1]; try omega))))
    refine wp_call (x_tabring u1 hu (o + 17) (by omega) _) ?_
    rintro _ s10 ⟨hE, hA, hB⟩
    refine wp_some ⟨?_, ?_⟩
    · refine EqP.tr ?_ (hE.mo (fun r k h => by omega))
      refine EqP.si (EqP.si (EqP.si (EqP.si (EqP.si hE0 _ _ _ ?_) _ _ _ ?_) _ _ _ ?_) _ _ _ ?_) _ _ _ ?_ <;> omega
    · intro j hj
      unfold cv
      by_cases j1 : j < 12
      · rw [if_pos j1, hE.i _ _ (by omega)]
        simp (disch := omega) only [gi_same, gi_ne_r, gi_ne_k, gi_sr_same, gi_sr_ne, gj_sj_same, gj_sj_ne_r, gj_sj_ne_k, gj_si, gi_sj, gj_sr, iwc, jwc, Int.toNat_natCast, tdn, tmn, b0, b1, yc0, yc1]
        exact h0 j j1
      · rw [if_neg j1]
        by_cases j2 : j = 12
        · rw [if_pos j2, hE.i _ _ (by omega), j2]
          simp (disch := omega) only [gi_same, gi_ne_r, gi_ne_k, gi_sr_same, gi_sr_ne, gj_sj_same, gj_sj_ne_r, gj_sj_ne_k, gj_si, gi_sj, gj_sr, iwc, jwc, Int.toNat_natCast, tdn, tmn, b0, b1, yc0, yc1, q1]
        · rw [if_neg j2]
          by_cases j3 : j < 17
          · rw [if_pos j3, hE.i _ _ (by omega)]
            have hc : j = 13 ∨ j = 14 ∨ j = 15 ∨ j = 16 := by omega
            rcases hc with rfl | rfl | rfl | rfl
            · simp (disch := omega) only [gi_same, gi_ne_r, gi_ne_k, gi_sr_same, gi_sr_ne, gj_sj_same, gj_sj_ne_r, gj_sj_ne_k, gj_si, gi_sj, gj_sr, iwc, jwc, Int.toNat_natCast, tdn, tmn, b0, b1, yc0, yc1, hv]
            · simp (disch := omega) only [gi_same, gi_ne_r, gi_ne_k, gi_sr_same, gi_sr_ne, gj_sj_same, gj_sj_ne_r, gj_sj_ne_k, gj_si, gi_sj, gj_sr, iwc, jwc, Int.toNat_natCast, tdn, tmn, b0, b1, yc0, yc1, q1]
            · simp (disch := omega) only [gi_same, gi_ne_r, gi_ne_k, gi_sr_same, gi_sr_ne, gj_sj_same, gj_sj_ne_r, gj_sj_ne_k, gj_si, gi_sj, gj_sr, iwc, jwc, Int.toNat_natCast, tdn, tmn, b0, b1, yc0, yc1, q1]
            · simp (disch := omega) only [gi_same, gi_ne_r, gi_ne_k, gi_sr_same, gi_sr_ne, gj_sj_same, gj_sj_ne_r, gj_sj_ne_k, gj_si, gi_sj, gj_sr, iwc, jwc, Int.toNat_natCast, tdn, tmn, b0, b1, yc0, yc1, q1]
          · rw [if_neg j3]
            by_cases j4 : j < 21
            · rw [if_pos j4, show j - 14 = 3 + (j - 17) by omega, hA _ (by omega)]
              simp (disch := omega) only [gi_same, gi_ne_r, gi_ne_k, gi_sr_same, gi_sr_ne, gj_sj_same, gj_sj_ne_r, gj_sj_ne_k, gj_si, gi_sj, gj_sr, iwc, jwc, Int.toNat_natCast, tdn, tmn, b0, b1, yc0, yc1, q1]
              congr 1 <;> omega
            · rw [if_neg j4, hB _ (by omega)]
              simp (disch := omega) only [gi_same, gi_ne_r, gi_ne_k, gi_sr_same, gi_sr_ne, gj_sj_same, gj_sj_ne_r, gj_sj_ne_k, gj_si, gi_sj, gj_sr, iwc, jwc, Int.toNat_natCast, tdn, tmn, b0, b1, yc0, yc1, q1]
              congr 1 <;> omega
  have hw4 : gi (si s0 46 2 (gi s0 u1 (((o + 12 : Nat) : Int)).toNat)) u1 (iw (((o + 12 : Nat) : Int) + 1)).toNat = gi σ u1 (o + 13) := by
    rw [iwc (by omega) (by omega), tn (x := ((o + 12 : Nat) : Int) + 1) (o + 13) (by omega)]
    simp (disch := omega) only [gi_same, gi_ne_r, gi_ne_k, gi_sr_same, gi_sr_ne, gj_sj_same, gj_sj_ne_r, gj_sj_ne_k, gj_si, gi_sj, gj_sr, iwc, jwc, Int.toNat_natCast, tdn, tmn, b0, b1, yc0, yc1, q1]
  rw [hw4]
  rcases hw with h | h
  · exact wp_f (by omega) (main 0 h.symm)
  · exact wp_t h (main 1 h.symm)
