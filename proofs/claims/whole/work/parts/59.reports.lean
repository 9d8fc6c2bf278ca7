/-! report, miles -/
theorem x_toldC {ld σ : SS} (hok : LdOK ld) (hL : LC ld σ) {a b m : Nat} (hc : CPL ld a b m) {code : Int} (hcode : code = 100 * (a : Int) + 10 * (b : Int) + (m : Int)) : Wp (f_Rp_toldLength code σ) fun r τ => r = l60 ld (gi ld 11) a b m ∧ EqP (PTk 83) σ τ := by
  unfold f_Rp_toldLength
  refine wp_call (x_begin (t := 83) hok hL (by omega) hc hcode) ?_
  rintro _ s2 ⟨hT2, hE2⟩
  have hL2 := hL.of hE2 (fun r k z => by omega)
  refine wp_call (x_talkOpenly (N := 60) (u := 11) (tp := gi ld 11) hok hL2 (by omega) (by omega) rfl rfl (fun j hj => hL2 11 j (by omega) (by omega) (by omega)) hc hT2 (begP_ok hok hc.2.2.2.1).1 (by omega)) ?_
  rintro r6 s6 ⟨_, hr6, hE6⟩
  have hE06 := hE2.tr hE6
  unfold l60
  rw [← hr6]
  by_cases h : r6 = -1
  · exact wp_t h (wp_some ⟨(if_pos h).symm, hE06⟩)
  · exact wp_f h (wp_some ⟨(if_neg h).symm, hE06⟩)
abbrev PTo : Nat → Nat → Prop := fun r k => r = 119 ∨ r = 117 ∨ r = 86 ∧ (46 ≤ k ∧ k ≤ 51 ∨ k = 54)
theorem x_toldM {ld σ : SS} (hok : LdOK ld) {bk : Nat} (hM : LM ld σ bk) {a b m : Nat} (hc : CPL ld a b m) (h54 : gi σ 86 54 = 0) : Wp (f_Mo_toldLength a b m σ) fun r τ => r = olP ld (gi ld 11) a b m ∧ gi τ 86 54 = 0 ∧ EqP PTo σ τ := by
  unfold f_Mo_toldLength
  refine wp_os ?_
  have hE1 : EqP PTo σ (si σ 86 54 1) := by repeat (first | exact EqP.rf _ _ | (refine EqP.si ?_ _ _ _ (by omega)) | (refine EqP.sj ?_ _ _ _ (by omega)) | (refine EqP.sr ?_ _ _ (fun k => by omega)))
  have hM1 := hM.of hE1 (fun r k z => by omega)
  have hTp : TPM ld (si σ 86 54 1) bk (gi ld 11) := Or.inr ⟨by rw [gi_same]; decide, fun s hs => by
    obtain ⟨k1, k2⟩ := hM1.2.2.2.2.2.1 s hs
    exact ⟨k1, k2⟩⟩
  refine wp_call (x_openLengthM hok hM1 hTp hc) ?_
  rintro r2 s2 ⟨hr2, hE2⟩
  refine wp_os (wp_some ⟨hr2, gi_same _ _ _ _, EqP.si (hE1.tr (hE2.mo (fun r k h => by omega))) _ _ _ (by omega)⟩)
/-- what counts at a time -/
def knB (σ : SS) (k : Int) (i : Nat) : Bool := decide (gi σ 80 i ≤ k) && (decide (gi σ 81 i = -1) || decide (k < gi σ 81 i))
def soB (σ : SS) (k : Int) (l : List Nat) (x : Nat) : Bool := l.all fun i => !knB σ k i || (rpd (gi σ 131 i) (x + 1) == gi σ 132 i)
theorem x_knownAt {σ : SS} (k : Int) {n : Nat} (hn : n ≤ 30) (h3 : gi σ 79 3 = n) (h : ∀ i, i < n → -1 ≤ gi σ 81 i ∧ bset (gj σ 82 i) (fun x => rpd (gi σ 131 i) (x + 1) == gi σ 132 i)) : ∃ v, f_Rp_roadsKnownAt k σ = some (v, σ) ∧ bset v (soB σ k (List.range' 0 n)) := by
  have loop : ∀ (r i fu : Nat) (v : Int), i + r = n → r < fu → bset v (soB σ k (List.range' 0 i)) → ∃ v', l_Rp_roadsKnownAt_7 k fu v i σ = some (v', σ) ∧ bset v' (soB σ k (List.range' 0 n)) := by
    intro r
    induction r with
    | zero =>
      intro i fu v hi hfu hv
      obtain ⟨fu, rfl⟩ : ∃ f, fu = f + 1 := ⟨fu - 1, by omega⟩
      obtain rfl : i = n := by omega
      rw [l_Rp_roadsKnownAt_7, if_pos (by omega)]
      exact ⟨v, rfl, hv⟩
    | succ r ih =>
      intro i fu v hi hfu hv
      obtain ⟨fu, rfl⟩ : ∃ f, fu = f + 1 := ⟨fu - 1, by omega⟩
      obtain ⟨g1, g2⟩ := h i (by omega)
      have hi1 : iw ((i : Int) + 1) = ((i + 1 : Nat) : Int) := by rw [iwc (by omega) (by omega)]; omega
      have hs : ∀ x, soB σ k (List.range' 0 (i + 1)) x = (soB σ k (List.range' 0 i) x && (!knB σ k i || (rpd (gi σ 131 i) (x + 1) == gi σ 132 i))) := fun x => by
        unfold soB
        rw [List.range'_concat, List.all_append]
        simp
      have skip : knB σ k i = false → ∃ v', l_Rp_roadsKnownAt_7 k fu v ((i + 1 : Nat) : Int) σ = some (v', σ) ∧ bset v' (soB σ k (List.range' 0 n)) := fun hk => by
        refine ih (i + 1) fu v (by omega) (by omega) ⟨hv.1, fun j hj => ?_⟩
        rw [hv.2 j hj, hs j, hk]
        simp
      have take : knB σ k i = true → ∃ v', l_Rp_roadsKnownAt_7 k fu (yand v (gj σ 82 i)) ((i + 1 : Nat) : Int) σ = some (v', σ) ∧ bset v' (soB σ k (List.range' 0 n)) := fun hk => by
        refine ih (i + 1) fu _ (by omega) (by omega) ⟨rJ_yand _ _, fun j hj => ?_⟩
        show jb _ j = _
        rw [jb_and]
        unfold jb
        rw [hv.2 j hj, g2.2 j hj, hs j, hk]
        simp only [Bool.not_true, Bool.false_or]
        cases decide (j < 60) <;> simp
      rw [l_Rp_roadsKnownAt_7, if_neg (by omega), if_neg (by omega), oc_pos (by omega), Int.toNat_natCast]
      have at50 : ∀ z, (z = 0 ∧ (gi σ 81 i = -1 ∨ k < gi σ 81 i) ∨ z = 1 ∧ ¬ (gi σ 81 i = -1 ∨ k < gi σ 81 i)) → ∃ v', j_Rp_roadsKnownAt_50 (l_Rp_roadsKnownAt_7 k fu) k v i z σ = some (v', σ) ∧ bset v' (soB σ k (List.range' 0 n)) := by
        intro z hz
        unfold j_Rp_roadsKnownAt_50
        rw [oc_pos (by omega), Int.toNat_natCast, hi1]
        by_cases ht : k < gi σ 80 i
        · rw [if_pos ht]
          exact skip (by unfold knB; simp; intro hx; omega)
        · rw [if_neg ht]
          rcases hz with ⟨rfl, hz⟩ | ⟨rfl, hz⟩
          · rw [if_pos rfl, oc_pos (by omega), ol_eq]
            exact take (by unfold knB; simp; exact ⟨by omega, hz⟩)
          · rw [if_neg (by decide)]
            exact skip (by unfold knB; simp; intro _; omega)
      by_cases h1 : gi σ 81 i = -1
      · rw [if_pos h1]
        unfold j_Rp_roadsKnownAt_49
        exact at50 0 (Or.inl ⟨rfl, Or.inl h1⟩)
      · rw [if_neg h1, oc_pos (by omega)]
        by_cases h2 : k < gi σ 81 i
        · rw [if_pos h2]
          unfold j_Rp_roadsKnownAt_49
          exact at50 0 (Or.inl ⟨rfl, Or.inr h2⟩)
        · rw [if_neg h2]
          exact at50 1 (Or.inr ⟨rfl, by omega⟩)
  unfold f_Rp_roadsKnownAt
  refine loop n 0 FU 1152921504606846975 (by omega) (by unfold FU; omega) ⟨by unfold rJ; omega, fun i hi => ?_⟩
  show jb _ i = _
  rw [jb_all i hi]
  unfold soB
  simp
theorem x_isSo {σ : SS} (k : Int) {n : Nat} (hn : n ≤ 30) (h3 : gi σ 86 79 = n) (h : ∀ i, i < n → gi σ 80 i = gi σ 133 i ∧ gi σ 81 i = gi σ 134 i ∧ -1 ≤ gi σ 81 i) (x : Nat) :
    ∀ (r i fu : Nat), i + r = n → r < fu → l_Mo_isSo_2 ((x : Int) + 1) k fu i σ = some (if soB σ k (List.range' i r) x = true then 1 else 0, σ) := by
  intro r
  induction r with
  | zero =>
    intro i fu hi hfu
    obtain ⟨fu, rfl⟩ : ∃ f, fu = f + 1 := ⟨fu - 1, by omega⟩
    rw [l_Mo_isSo_2, if_pos (by omega)]
    rfl
  | succ r ih =>
    intro i fu hi hfu
    obtain ⟨fu, rfl⟩ : ∃ f, fu = f + 1 := ⟨fu - 1, by omega⟩
    obtain ⟨g1, g2, g3⟩ := h i (by omega)
    have hi1 : iw ((i : Int) + 1) = ((i + 1 : Nat) : Int) := by rw [iwc (by omega) (by omega)]; omega
    have hs : soB σ k (List.range' i (r + 1)) x = ((!knB σ k i || (rpd (gi σ 131 i) (x + 1) == gi σ 132 i)) && soB σ k (List.range' (i + 1) r) x) := by
      unfold soB
      rw [List.range'_succ, List.all_cons]
    have ih' := ih (i + 1) fu (by omega) (by omega)
    have skip : knB σ k i = false → l_Mo_isSo_2 ((x : Int) + 1) k fu ((i + 1 : Nat) : Int) σ = some (if soB σ k (List.range' i (r + 1)) x = true then 1 else 0, σ) := fun hk => by
      rw [hs, hk, ih']; rfl
    have chk : knB σ k i = true → j_Mo_isSo_39 (l_Mo_isSo_2 ((x : Int) + 1) k fu) ((x : Int) + 1) k i σ = some (if soB σ k (List.range' i (r + 1)) x = true then 1 else 0, σ) := fun hk => by
      unfold j_Mo_isSo_39
      rw [oc_pos (by omega), Int.toNat_natCast, x_reported, ob_eq, oc_pos (by omega), hi1, hs, hk]
      by_cases hq : rpd (gi σ 131 i) ((x : Int) + 1) = gi σ 132 i
      · rw [if_pos hq, ih', beq_iff_eq.mpr hq]; rfl
      · rw [if_neg hq, beq_eq_false_iff_ne.mpr hq]; rfl
    rw [l_Mo_isSo_2, if_neg (by omega), oc_pos (by omega), Int.toNat_natCast, hi1, ← g1, ← g2]
    by_cases ht : k < gi σ 80 i
    · rw [if_pos ht]
      exact skip (by unfold knB; simp; intro hx; omega)
    · rw [if_neg ht, oc_pos (by omega)]
      by_cases h1 : gi σ 81 i < 0
      · rw [if_pos h1]
        exact chk (by unfold knB; simp; exact ⟨by omega, by omega⟩)
      · rw [if_neg h1, oc_pos (by omega)]
        by_cases h2 : gi σ 81 i ≤ k
        · rw [if_pos h2]
          exact skip (by unfold knB; simp; intro _; omega)
        · rw [if_neg h2]
          exact chk (by unfold knB; simp; exact ⟨by omega, by omega⟩)
theorem x_milesM {σ : SS} (k : Int) {n : Nat} (hn : n ≤ 30) (h3 : gi σ 86 79 = n) (h : ∀ i, i < n → gi σ 80 i = gi σ 133 i ∧ gi σ 81 i = gi σ 134 i ∧ -1 ≤ gi σ 81 i) : ∃ v, f_Mo_miles k σ = some (v, σ) ∧ bset v (soB σ k (List.range' 0 n)) := by
  have loop : ∀ (r i fu : Nat) (v : Int), i + r = 60 → r < fu → bset v (fun x => decide (x < i) && soB σ k (List.range' 0 n) x) → ∃ v', l_Mo_miles_5 k fu v ((i : Int) + 1) σ = some (v', σ) ∧ bset v' (soB σ k (List.range' 0 n)) := by
    intro r
    induction r with
    | zero =>
      intro i fu v hi hfu hv
      obtain ⟨fu, rfl⟩ : ∃ f, fu = f + 1 := ⟨fu - 1, by omega⟩
      rw [l_Mo_miles_5, if_pos (by omega)]
      refine ⟨v, rfl, hv.1, fun j hj => ?_⟩
      rw [hv.2 j hj]
      by_cases h60 : j < 60
      · simp [h60, show j < i by omega]
      · simp [h60]
    | succ r ih =>
      intro i fu v hi hfu hv
      obtain ⟨fu, rfl⟩ : ∃ f, fu = f + 1 := ⟨fu - 1, by omega⟩
      unfold l_Mo_miles_5 f_Mo_isSo
      have hz : l_Mo_isSo_2 ((i : Int) + 1) k FU 0 σ = some (if soB σ k (List.range' 0 n) i = true then 1 else 0, σ) := x_isSo k hn h3 h i n 0 FU (by omega) (by unfold FU; omega)
      rw [if_neg (by omega), hz, ob_eq, iwc (x := (i : Int) + 1 + 1) (by omega) (by omega), iwc (x := (i : Int) + 1 - 1) (by omega) (by omega), show (i : Int) + 1 - 1 = (i : Int) by omega, show (i : Int) + 1 + 1 = ((i + 1 : Nat) : Int) + 1 by omega]
      by_cases hs : soB σ k (List.range' 0 n) i = true
      · rw [if_pos hs, if_neg (by decide), ol_eq]
        refine ih (i + 1) fu _ (by omega) (by omega) ⟨rJ_yor _ _, fun j hj => ?_⟩
        show jb _ j = _
        rw [jb_or, jb_shl i j (by omega) hj]
        unfold jb
        rw [hv.2 j hj]
        by_cases hji : j = i
        · subst hji; simp [hs, show j < 60 by omega]
        · by_cases hlt : j < i
          · simp [hji, hlt, show j < i + 1 by omega]
          · simp [hji, hlt, show ¬ j < i + 1 by omega]
      · rw [if_neg hs, if_pos rfl]
        refine ih (i + 1) fu v (by omega) (by omega) ⟨hv.1, fun j hj => ?_⟩
        rw [hv.2 j hj]
        by_cases hji : j = i
        · subst hji; simp at hs; simp [hs]
        · by_cases hlt : j < i
          · simp [hlt, show j < i + 1 by omega]
          · simp [hlt, show ¬ j < i + 1 by omega]
  unfold f_Mo_miles
  have := loop 60 0 FU 0 (by omega) (by unfold FU; omega) ⟨by unfold rJ; omega, fun i hi => by show jb 0 i = _; rw [jb_0]; simp⟩
  exact this
theorem RP.kn {σ : SS} (h : RP σ) (k : Int) : ∃ v, f_Rp_roadsKnownAt k σ = some (v, σ) ∧ f_Mo_miles k σ = some (v, σ) ∧ ∃ P, bset v P := by
  obtain ⟨n, p1, p2, p3, p4, p5, p6, p7⟩ := h
  obtain ⟨v, h1, h2⟩ := x_knownAt k p1 p2 (fun i hi => ⟨(p7 i hi).2.1.2, (p7 i hi).2.2.2.2⟩)
  obtain ⟨w, h3, h4⟩ := x_milesM k p1 p3 (fun i hi => ⟨(p7 i hi).1.1, (p7 i hi).2.1.1, (p7 i hi).2.1.2⟩)
  have e := bset_eq h2 h4 (fun _ _ => rfl)
  exact ⟨v, h1, by rw [e]; exact h3, _, h2⟩
theorem y_miles (k : Int) : MP (f_Qu_miles k) (f_Mo_miles k) := by
  rintro σ ⟨ld, bk, hok, hL, hM, hEA, hRO, hLY, hRP, hTA⟩
  have hI : Inv σ := ⟨ld, bk, hok, hL, hM, hEA, hRO, hLY, hRP, hTA⟩
  obtain ⟨v, h1, h2, _⟩ := hRP.kn k
  unfold f_Qu_miles
  exact wp_eq h1 (wp_some ⟨v, σ, h2, rfl, hI⟩)
