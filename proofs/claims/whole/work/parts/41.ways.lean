/-! ways and their ends on both sides; pairs of methods -/
theorem wp_b1 {x : OO} {k : Int → SS → OO} {Q : Int → SS → Prop} {c : Prop} [Decidable c] {τ : SS} (h : x = some (if c then 1 else 0, τ)) (hc : c) (hk : Wp (k 1 τ) Q) : Wp (ob x k) Q := by
  rw [h, if_pos hc]; exact hk
theorem wp_b0 {x : OO} {k : Int → SS → OO} {Q : Int → SS → Prop} {c : Prop} [Decidable c] {τ : SS} (h : x = some (if c then 1 else 0, τ)) (hc : ¬ c) (hk : Wp (k 0 τ) Q) : Wp (ob x k) Q := by
  rw [h, if_neg hc]; exact hk
def oth (ld : SS) (y p : Int) : Int := if 0 ≤ y ∧ y < gi ld 2 4 then (if gi ld 6 y.toNat = p then gi ld 7 y.toNat else if gi ld 7 y.toNat = p then gi ld 6 y.toNat else -1) else -1
theorem x_otherC {ld σ : SS} (hok : LdOK ld) (hL : LC ld σ) (y p : Int) : f_La_otherEnd 2 y p σ = some (oth ld y p, σ) := by
  unfold f_La_otherEnd oth
  have l4 := hok.2.1
  rw [x_isWayC hok hL, ob_eq]
  by_cases h : 0 ≤ y ∧ y < gi ld 2 4
  · rw [if_pos h, if_pos h, if_neg (by decide), oc_pos (by omega), hL 6 y.toNat (by omega) (by omega) (by omega), hL 7 y.toNat (by omega) (by omega) (by omega)]
    by_cases h1 : gi ld 6 y.toNat = p
    · rw [if_pos h1, if_pos h1, oc_pos (by omega)]
    · rw [if_neg h1, if_neg h1, oc_pos (by omega)]
      by_cases h2 : gi ld 7 y.toNat = p
      · rw [if_pos h2, if_pos h2, oc_pos (by omega)]
      · rw [if_neg h2, if_neg h2]
  · rw [if_neg h, if_neg h, if_pos rfl]
theorem x_fromOf {ld σ : SS} (hok : LdOK ld) {bk : Nat} (hM : LM ld σ bk) {y : Int} (hy : 0 ≤ y ∧ y < gi ld 2 4) : f_Mo_fromOf y σ = some (gi ld 6 y.toNat, σ) := by
  have l4 := hok.2.1
  have hb := hM.1
  obtain ⟨n, rfl⟩ : ∃ n : Nat, y = n := ⟨y.toNat, by omega⟩
  unfold f_Mo_fromOf
  rw [hM.2.1, ix14 bk n ⟨hb, by omega⟩, oc_pos (by omega), Int.toNat_natCast, Int.toNat_natCast, (hM.2.2.2.2.1 n hy.2).1]
theorem x_toOf {ld σ : SS} (hok : LdOK ld) {bk : Nat} (hM : LM ld σ bk) {y : Int} (hy : 0 ≤ y ∧ y < gi ld 2 4) : f_Mo_toOf y σ = some (gi ld 7 y.toNat, σ) := by
  have l4 := hok.2.1
  have hb := hM.1
  obtain ⟨n, rfl⟩ : ∃ n : Nat, y = n := ⟨y.toNat, by omega⟩
  unfold f_Mo_toOf
  rw [hM.2.1, ix14 bk n ⟨hb, by omega⟩, oc_pos (by omega), Int.toNat_natCast, Int.toNat_natCast, (hM.2.2.2.2.1 n hy.2).2.1]
theorem x_milesOf {ld σ : SS} (hok : LdOK ld) {bk : Nat} (hM : LM ld σ bk) {y : Int} (hy : 0 ≤ y ∧ y < gi ld 2 4) : f_Mo_milesOf y σ = some (gi ld 8 y.toNat, σ) := by
  have l4 := hok.2.1
  have hb := hM.1
  obtain ⟨n, rfl⟩ : ∃ n : Nat, y = n := ⟨y.toNat, by omega⟩
  unfold f_Mo_milesOf
  rw [hM.2.1, ix14 bk n ⟨hb, by omega⟩, oc_pos (by omega), Int.toNat_natCast, Int.toNat_natCast, (hM.2.2.2.2.1 n hy.2).2.2.1]
theorem x_otherM {ld σ : SS} (hok : LdOK ld) {bk : Nat} (hM : LM ld σ bk) {y : Int} (hy : 0 ≤ y ∧ y < gi ld 2 4) (p : Int) : f_Mo_otherEnd y p σ = some (oth ld y p, σ) := by
  unfold f_Mo_otherEnd oth
  rw [x_fromOf hok hM hy, ob_eq, if_pos hy]
  by_cases h1 : gi ld 6 y.toNat = p
  · rw [if_pos h1, if_pos h1, x_toOf hok hM hy, ob_eq]
  · rw [if_neg h1, if_neg h1, x_toOf hok hM hy, ob_eq]
    by_cases h2 : gi ld 7 y.toNat = p
    · rw [if_pos h2, if_pos h2, x_fromOf hok hM hy, ob_eq]
    · rw [if_neg h2, if_neg h2]
theorem oth_rng {ld : SS} (hok : LdOK ld) (y p : Int) : oth ld y p = -1 ∨ (0 ≤ oth ld y p ∧ oth ld y p < gi ld 2 0) := by
  unfold oth
  by_cases h : 0 ≤ y ∧ y < gi ld 2 4
  · rw [if_pos h]
    obtain ⟨a1, a2, _⟩ := hok.wy (y := y.toNat) (by omega)
    split
    · exact Or.inr a2
    · split
      · exact Or.inr a1
      · exact Or.inl rfl
  · rw [if_neg h]; exact Or.inl rfl
theorem oth_val {ld : SS} (hok : LdOK ld) {y : Nat} (hy : (y : Int) < gi ld 2 4) {p : Int} : 0 ≤ oth ld y p ↔ (gi ld 6 y = p ∨ gi ld 7 y = p) := by
  unfold oth
  rw [if_pos ⟨by omega, hy⟩, Int.toNat_natCast]
  obtain ⟨a1, a2, _⟩ := hok.wy hy
  by_cases h1 : gi ld 6 y = p
  · rw [if_pos h1]; exact ⟨fun _ => Or.inl h1, fun _ => a2.1⟩
  · rw [if_neg h1]
    by_cases h2 : gi ld 7 y = p
    · rw [if_pos h2]; exact ⟨fun _ => Or.inr h2, fun _ => a1.1⟩
    · rw [if_neg h2]; exact ⟨fun z => by omega, fun z => by omega⟩
/-- one method on both sides: alike answers, and the invariant holds again -/
def MP (fc fm : SS → OO) : Prop := ∀ σ, Inv σ → Wp (fc σ) fun r σ1 => Wp (fm σ1) fun r' σ2 => r = r' ∧ Inv σ2
theorem y_soul (a b : Int) : MP (f_Qu_soul a b) (f_Mo_soul a b) := by
  rintro σ ⟨ld, bk, hok, hL, hM, hEA, hRO, hLY, hRP, hTA⟩
  have hI : Inv σ := ⟨ld, bk, hok, hL, hM, hEA, hRO, hLY, hRP, hTA⟩
  have s6 := hok.2.2.1
  have e9 : gi σ 2 9 = gi ld 2 9 := hL 2 9 (by omega) (by omega) (by omega)
  unfold f_Qu_soul f_Mo_soul
  by_cases h1 : 0 ≤ a ∧ a < gi ld 2 9
  · refine wp_b1 (x_isSoul 2 a σ) (by omega) (wp_f (by decide) ?_)
    by_cases h2 : 0 ≤ b ∧ b ≤ 1
    · refine wp_f (by omega) (wp_t (by omega) ?_)
      have i1 : iw (iw (2 * a) + b) = 2 * a + b := by rw [iwc (x := 2 * a) (by omega) (by omega), iwc (by omega) (by omega)]
      rw [i1]
      refine wp_oc (by omega) (wp_some ?_)
      refine wp_eq (x_soulMany hM) ?_
      rw [iwc (x := gi ld 2 9 - 1) (by omega) (by omega)]
      refine wp_b1 (x_isIn _ _ _ _) (by omega) (wp_f (by decide) ?_)
      refine wp_b1 (x_isIn _ _ _ _) (by omega) (wp_f (by decide) ?_)
      have i2 : iw (iw (1 + iw (2 * a)) + b) = 1 + (2 * a + b) := by rw [iwc (x := 2 * a) (by omega) (by omega), iwc (x := 1 + 2 * a) (by omega) (by omega), iwc (by omega) (by omega)]; omega
      rw [i2]
      refine wp_oc (by omega) (wp_some ⟨?_, hI⟩)
      have := (hEA.1.1.1 (2 * a + b).toNat (by omega)).1
      unfold cv at this
      rw [if_pos (by omega)] at this
      rw [this]; congr 1 <;> omega
    · have : Wp (f_Mo_soul a b σ) fun r' σ2 => (-1 : Int) = r' ∧ Inv σ2 := by
        unfold f_Mo_soul
        refine wp_eq (x_soulMany hM) ?_
        rw [iwc (x := gi ld 2 9 - 1) (by omega) (by omega)]
        refine wp_b1 (x_isIn _ _ _ _) (by omega) (wp_f (by decide) ?_)
        refine wp_b0 (x_isIn _ _ _ _) (by omega) ?_
        exact wp_t rfl (wp_some ⟨rfl, hI⟩)
      unfold f_Mo_soul at this
      by_cases h3 : b < 0
      · exact wp_t h3 (wp_some this)
      · exact wp_f h3 (wp_f (by omega) (wp_some this))
  · refine wp_b0 (x_isSoul 2 a σ) (by omega) (wp_t rfl (wp_some ?_))
    refine wp_eq (x_soulMany hM) ?_
    rw [iwc (x := gi ld 2 9 - 1) (by omega) (by omega)]
    refine wp_b0 (x_isIn _ _ _ _) (by omega) ?_
    exact wp_t rfl (wp_some ⟨rfl, hI⟩)
theorem y_way (a b : Int) : MP (f_Qu_way a b) (f_Mo_way a b) := by
  rintro σ ⟨ld, bk, hok, hL, hM, hEA, hRO, hLY, hRP, hTA⟩
  have hI : Inv σ := ⟨ld, bk, hok, hL, hM, hEA, hRO, hLY, hRP, hTA⟩
  have l4 := hok.2.1
  unfold f_Qu_way f_Mo_way
  by_cases h1 : 0 ≤ a ∧ a < gi ld 2 4
  · refine wp_b1 (x_isWayC hok hL a) h1 (wp_f (by decide) ?_)
    have go : ∀ v, (∀ k, Wp (k 1 σ) (fun r' σ2 => v = r' ∧ Inv σ2) → Wp (ob (f_Mo_isWay a σ) k) (fun r' σ2 => v = r' ∧ Inv σ2)) := fun v k hk => by
      exact wp_b1 (x_isWayM hok hM a) h1 hk
    by_cases b0' : b = 0
    · refine wp_t b0' (wp_oc (by omega) (wp_some (go _ _ (wp_f (by decide) (wp_t b0' ?_)))))
      exact wp_eq (x_fromOf hok hM h1) (wp_some ⟨hL 6 _ (by omega) (by omega) (by omega), hI⟩)
    · refine wp_f b0' ?_
      by_cases b1' : b = 1
      · refine wp_t b1' (wp_oc (by omega) (wp_some (go _ _ (wp_f (by decide) (wp_f b0' (wp_t b1' ?_))))))
        exact wp_eq (x_toOf hok hM h1) (wp_some ⟨hL 7 _ (by omega) (by omega) (by omega), hI⟩)
      · refine wp_f b1' ?_
        by_cases b2 : b = 2
        · refine wp_t b2 (wp_oc (by omega) (wp_some (go _ _ (wp_f (by decide) (wp_f b0' (wp_f b1' (wp_t b2 ?_)))))))
          exact wp_eq (x_milesOf hok hM h1) (wp_some ⟨hL 8 _ (by omega) (by omega) (by omega), hI⟩)
        · refine wp_f b2 (wp_some (go _ _ (wp_f (by decide) (wp_f b0' (wp_f b1' (wp_f b2 (wp_some ⟨rfl, hI⟩)))))))
  · refine wp_b0 (x_isWayC hok hL a) h1 (wp_t rfl (wp_some ?_))
    refine wp_b0 (x_isWayM hok hM a) h1 ?_
    exact wp_t rfl (wp_some ⟨rfl, hI⟩)
theorem tpm_ea {ld σ : SS} {bk : Nat} (hEA : EA ld σ) (hTA : TA σ) : TPM ld σ bk (gi σ 47) := Or.inl ⟨hTA.2.2.2.2.2.2, fun j hj => by
  have := (hEA.1.1.1 j hj).1
  unfold cv at this
  rw [if_pos hj] at this
  exact this.symm⟩
theorem y_quarrel (a b m : Int) : MP (f_Qu_quarrel a b m) (f_Mo_quarrel a b m) := by
  rintro σ ⟨ld, bk, hok, hL, hM, hEA, hRO, hLY, hRP, hTA⟩
  have hI : Inv σ := ⟨ld, bk, hok, hL, hM, hEA, hRO, hLY, hRP, hTA⟩
  unfold f_Qu_quarrel f_Mo_quarrel
  by_cases hc : cplB ld a b m
  · refine wp_eq ((x_couple hok hL a b m).1 hc) ?_
    obtain ⟨a', b', m', rfl, rfl, rfl, hcp⟩ := cplB_nat hok hc
    refine wp_f (by omega) ?_
    refine wp_call (x_begin (t := 58) hok hL (by omega) hcp rfl) ?_
    rintro _ s6 ⟨hT6, hE6⟩
    refine wp_call (x_talkOpenly (N := 200) (u := 47) (tp := gi σ 47) hok (hL.of hE6 (fun r k z => by omega)) (by omega) (by omega) rfl rfl (fun j hj => hE6.i 47 j (by omega)) hcp hT6 (begP_ok hok hcp.2.2.2.1).1 (by omega)) ?_
    rintro r11 s11 ⟨hT11, hr11, hE11⟩
    refine wp_some ?_
    have hEs : EqP (PTk 58) σ s11 := hE6.tr hE11
    have hM11 := hM.of hEs (fun r k z => by omega)
    refine wp_eq ((x_isCoupleM hok hM11 _ _ _).1 hc) (wp_f (by decide) ?_)
    refine wp_call (x_openLengthM hok hM11 ((tpm_ea hEA hTA).of hEs (fun r k z => by omega)) hcp) ?_
    rintro r3 s3 ⟨hr3, hE3⟩
    refine wp_some ⟨by rw [hr11, hr3], hI.sc ((hEs.mo (fun r k h => by omega)).tr (hE3.mo (fun r k h => by omega)))⟩
  · refine wp_eq ((x_couple hok hL a b m).2 hc) (wp_t rfl (wp_some ?_))
    exact wp_eq ((x_isCoupleM hok hM a b m).2 hc) (wp_t rfl (wp_some ⟨rfl, hI⟩))
theorem y_heat (a b m w : Int) : MP (f_Qu_heat a b m w) (f_Mo_heat a b m w) := by
  rintro σ ⟨ld, bk, hok, hL, hM, hEA, hRO, hLY, hRP, hTA⟩
  have hI : Inv σ := ⟨ld, bk, hok, hL, hM, hEA, hRO, hLY, hRP, hTA⟩
  unfold f_Qu_heat f_Mo_heat
  by_cases hc : cplB ld a b m
  · refine wp_eq ((x_couple hok hL a b m).1 hc) ?_
    obtain ⟨a', b', m', rfl, rfl, rfl, hcp⟩ := cplB_nat hok hc
    refine wp_f (by omega) ?_
    by_cases hw : 0 ≤ w ∧ w ≤ 200
    · obtain ⟨N, rfl⟩ : ∃ n : Nat, w = n := ⟨w.toNat, by omega⟩
      refine wp_f (by omega) (wp_t (by omega) ?_)
      refine wp_call (x_begin (t := 58) hok hL (by omega) hcp rfl) ?_
      rintro _ s6 ⟨hT6, hE6⟩
      refine wp_call (x_talkOpenly (N := N) (u := 47) (tp := gi σ 47) hok (hL.of hE6 (fun r k z => by omega)) (by omega) (by omega) rfl rfl (fun j hj => hE6.i 47 j (by omega)) hcp hT6 (begP_ok hok hcp.2.2.2.1).1 (by omega)) ?_
      rintro r11 s11 ⟨hT11, hr11, hE11⟩
      refine wp_some ?_
      have hEs : EqP (PTk 58) σ s11 := hE6.tr hE11
      have hM11 := hM.of hEs (fun r k z => by omega)
      refine wp_eq ((x_isCoupleM hok hM11 _ _ _).1 hc) (wp_f (by decide) ?_)
      refine wp_b1 (x_isIn _ _ _ _) (by omega) (wp_f (by decide) ?_)
      refine wp_call (x_beginM hok hM11 (Or.inr rfl) hcp) ?_
      rintro _ s6' ⟨hT6', hE6'⟩
      refine wp_mono (x_heatM_loop hok hcp N (by omega) N FU s6' _ (by omega) (by unfold FU; omega) (hM11.of hE6' (fun r k z => by omega)) (((tpm_ea hEA hTA).of hEs (fun r k z => by omega)).of hE6' (fun r k z => by omega)) hT6' (begP_ok hok hcp.2.2.2.1).1 (by unfold begP; dsimp only; omega)) ?_
      rintro r3 s3 ⟨hr3, hE3⟩
      exact ⟨by rw [hT11.2.1, hr3], hI.sc (((hEs.mo (fun r k h => by omega)).tr (hE6'.mo (fun r k h => by omega))).tr (hE3.mo (fun r k h => by omega)))⟩
    · have : Wp (f_Mo_heat a' b' m' w σ) fun r' σ2 => (-2 : Int) = r' ∧ Inv σ2 := by
        unfold f_Mo_heat
        refine wp_eq ((x_isCoupleM hok hM _ _ _).1 hc) (wp_f (by decide) ?_)
        refine wp_b0 (x_isIn _ _ _ _) (by omega) ?_
        exact wp_t rfl (wp_some ⟨rfl, hI⟩)
      unfold f_Mo_heat at this
      by_cases h3 : w < 0
      · exact wp_t h3 (wp_some this)
      · exact wp_f h3 (wp_f (by omega) (wp_some this))
  · refine wp_eq ((x_couple hok hL a b m).2 hc) (wp_t rfl (wp_some ?_))
    exact wp_eq ((x_isCoupleM hok hM a b m).2 hc) (wp_t rfl (wp_some ⟨rfl, hI⟩))
theorem y_loud (a b m w : Int) : MP (f_Qu_loud a b m w) (f_Mo_loud a b m w) := by
  rintro σ ⟨ld, bk, hok, hL, hM, hEA, hRO, hLY, hRP, hTA⟩
  have hI : Inv σ := ⟨ld, bk, hok, hL, hM, hEA, hRO, hLY, hRP, hTA⟩
  unfold f_Qu_loud f_Mo_loud
  by_cases hc : cplB ld a b m
  · refine wp_eq ((x_couple hok hL a b m).1 hc) ?_
    obtain ⟨a', b', m', rfl, rfl, rfl, hcp⟩ := cplB_nat hok hc
    refine wp_f (by omega) ?_
    by_cases hw : 0 ≤ w ∧ w ≤ 1
    · refine wp_f (by omega) (wp_t (by omega) ?_)
      refine wp_call (x_begin (t := 58) hok hL (by omega) hcp rfl) ?_
      rintro _ s6 ⟨hT6, hE6⟩
      refine wp_mono (x_loud_loop (tp := gi σ 47) hok hcp w 200 0 FU s6 _ (-1) 0 (by omega) (by unfold FU; omega) (hL.of hE6 (fun r k z => by omega)) (fun j hj => hE6.i 47 j (by omega)) hT6 (begP_ok hok hcp.2.2.2.1).1) ?_
      rintro r11 s11 ⟨hr11, hE11⟩
      have hEs : EqP (PTk 58) σ s11 := hE6.tr hE11
      have hM11 := hM.of hEs (fun r k z => by omega)
      refine wp_eq ((x_isCoupleM hok hM11 _ _ _).1 hc) (wp_f (by decide) ?_)
      refine wp_b1 (x_isIn _ _ _ _) (by omega) (wp_f (by decide) ?_)
      refine wp_call (x_beginM hok hM11 (Or.inr rfl) hcp) ?_
      rintro _ s6' ⟨hT6', hE6'⟩
      refine wp_mono (x_loudM_loop hok hcp w 200 FU s6' _ (-1) 0 (by omega) (by unfold FU; omega) (hM11.of hE6' (fun r k z => by omega)) (((tpm_ea hEA hTA).of hEs (fun r k z => by omega)).of hE6' (fun r k z => by omega)) hT6' (begP_ok hok hcp.2.2.2.1).1 (by unfold begP; dsimp only; omega) (fun _ => (begP_ok hok hcp.2.2.2.1).2)) ?_
      rintro r3 s3 ⟨hr3, hE3⟩
      exact ⟨by rw [hr11, hr3], hI.sc (((hEs.mo (fun r k h => by omega)).tr (hE6'.mo (fun r k h => by omega))).tr (hE3.mo (fun r k h => by omega)))⟩
    · have : Wp (f_Mo_loud a' b' m' w σ) fun r' σ2 => (-2 : Int) = r' ∧ Inv σ2 := by
        unfold f_Mo_loud
        refine wp_eq ((x_isCoupleM hok hM _ _ _).1 hc) (wp_f (by decide) ?_)
        refine wp_b0 (x_isIn _ _ _ _) (by omega) ?_
        exact wp_t rfl (wp_some ⟨rfl, hI⟩)
      unfold f_Mo_loud at this
      by_cases h3 : w < 0
      · exact wp_t h3 (wp_some this)
      · exact wp_f h3 (wp_f (by omega) (wp_some this))
  · refine wp_eq ((x_couple hok hL a b m).2 hc) (wp_t rfl (wp_some ?_))
    exact wp_eq ((x_isCoupleM hok hM a b m).2 hc) (wp_t rfl (wp_some ⟨rfl, hI⟩))
