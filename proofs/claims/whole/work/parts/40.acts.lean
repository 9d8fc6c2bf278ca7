/-! acts: the class's ring, the reference's row -/
theorem x_slot (σ : SS) (old u : Nat) (ho : old ≤ 40) (hu : u ≤ 40) (h1 : gi σ 46 9 = old) (h2 : gi σ 46 10 = u) : f_Ea_slot σ = some (((41 * ((old + u) % 41) : Nat) : Int), σ) := by
  unfold f_Ea_slot
  rw [h1, h2, iwc (x := (old : Int) + (u : Int)) (by omega) (by omega), tmn _ (by omega), iwc (by omega) (by omega)]
  congr 2
  omega
/-- the slot behind an act -/
def old1 (old u : Nat) : Nat := if u < 40 then old else (old + 1) % 41
def u1f (u : Nat) : Nat := if u < 40 then u + 1 else 40
theorem x_keepActC (σ : SS) (old u : Nat) (ho : old ≤ 40) (hu : u ≤ 40) (h1 : gi σ 46 9 = old) (h2 : gi σ 46 10 = u) (hw : gi σ 46 4 = 0 ∨ gi σ 46 4 = 1) : Wp (f_Ea_keepAct σ) fun _ τ => EqP (fun r k => r = 46 ∧ 9 ≤ k ∧ k ≤ 11 ∨ r = 48) σ τ ∧ gi τ 46 9 = old1 old u ∧ gi τ 46 10 = u1f u ∧ gi τ 46 11 = 0 ∧ (∀ j, j < 41 → gi τ 48 (41 * ((old1 old u + u1f u) % 41) + j) = cv σ j) ∧ ∀ s, s < 41 → s ≠ (old1 old u + u1f u) % 41 → ∀ j, j < 41 → gi τ 48 (41 * s + j) = gi σ 48 (41 * s + j) := by
  have main : ∀ s : SS, EqP (fun r k => r = 46 ∧ 9 ≤ k ∧ k ≤ 11) σ s → gi s 46 9 = old1 old u → gi s 46 10 = u1f u → gi s 46 11 = 0 → Wp (j_Ea_keepAct_40 s) fun _ τ => EqP (fun r k => r = 46 ∧ 9 ≤ k ∧ k ≤ 11 ∨ r = 48) σ τ ∧ gi τ 46 9 = old1 old u ∧ gi τ 46 10 = u1f u ∧ gi τ 46 11 = 0 ∧ (∀ j, j < 41 → gi τ 48 (41 * ((old1 old u + u1f u) % 41) + j) = cv σ j) ∧ ∀ s, s < 41 → s ≠ (old1 old u + u1f u) % 41 → ∀ j, j < 41 → gi τ 48 (41 * s + j) = gi σ 48 (41 * s + j) := by
    intro s hE k1 k2 k3
    have b1 : old1 old u ≤ 40 := by unfold old1; split <;> omega
    have b2 : u1f u ≤ 40 := by unfold u1f; split <;> omega
    unfold j_Ea_keepAct_40
    refine wp_eq (x_slot s _ _ b1 b2 k1 k2) ?_
    have hlt : (old1 old u + u1f u) % 41 < 41 := Nat.mod_lt _ (by omega)
    generalize (old1 old u + u1f u) % 41 = sl at hlt ⊢
    refine wp_call (x_put 48 (Or.inl rfl) (41 * sl) (show 41 * sl + 41 ≤ 1681 by omega) s (by rw [hE.i 46 4 (by omega)]; exact hw)) ?_
    rintro _ τ ⟨hE2, hv⟩
    refine wp_some ⟨(hE.mo (fun r k h => by omega)).tr (hE2.mo (fun r k h => by omega)), ?_, ?_, ?_, ?_, ?_⟩
    · rw [hE2.i _ _ (by omega)]; exact k1
    · rw [hE2.i _ _ (by omega)]; exact k2
    · rw [hE2.i _ _ (by omega)]; exact k3
    · intro j hj
      rw [hv j hj]
      unfold cv
      rw [hE.i 47 _ (by omega), hE.i 46 2 (by omega), hE.i 53 _ (by omega)]
      split
      · rfl
      · split
        · rfl
        · split
          · exact hE.i _ _ (by omega)
          · split
            · exact hE.i _ _ (by omega)
            · rfl
    · intro x hx hne j hj
      rw [hE2.i _ _ (by omega), hE.i _ _ (by omega)]
  unfold f_Ea_keepAct
  refine wp_os ?_
  have e10 : gi (si σ 46 11 0) 46 10 = u := by simp (disch := omega) only [gi_same, gi_ne_r, gi_ne_k, gi_sr_same, gi_sr_ne, gj_sj_same, gj_sj_ne_r, gj_sj_ne_k, gj_si, gi_sj, gj_sr, iwc, jwc, Int.toNat_natCast, tdn, tmn, b0, b1, yc0, yc1, h2]
  have e9 : gi (si σ 46 11 0) 46 9 = old := by simp (disch := omega) only [gi_same, gi_ne_r, gi_ne_k, gi_sr_same, gi_sr_ne, gj_sj_same, gj_sj_ne_r, gj_sj_ne_k, gj_si, gi_sj, gj_sr, iwc, jwc, Int.toNat_natCast, tdn, tmn, b0, b1, yc0, yc1, h1]
  rw [e10, e9]
  by_cases h40 : u < 40
  · refine wp_f (by omega) (wp_os ?_)
    refine main _ (by repeat (first | exact EqP.rf _ _ | (refine EqP.si ?_ _ _ _ (by omega)) | (refine EqP.sj ?_ _ _ _ (by omega)) | (refine EqP.sr ?_ _ _ (fun k => by omega)))) ?_ ?_ ?_
    · unfold old1; rw [if_pos h40]; simp (disch := omega) only [gi_same, gi_ne_r, gi_ne_k, gi_sr_same, gi_sr_ne, gj_sj_same, gj_sj_ne_r, gj_sj_ne_k, gj_si, gi_sj, gj_sr, iwc, jwc, Int.toNat_natCast, tdn, tmn, b0, b1, yc0, yc1, h1]
    · unfold u1f; rw [if_pos h40]; simp (disch := omega) only [gi_same, gi_ne_r, gi_ne_k, gi_sr_same, gi_sr_ne, gj_sj_same, gj_sj_ne_r, gj_sj_ne_k, gj_si, gi_sj, gj_sr, iwc, jwc, Int.toNat_natCast, tdn, tmn, b0, b1, yc0, yc1]
      omega
    · simp (disch := omega) only [gi_same, gi_ne_r, gi_ne_k, gi_sr_same, gi_sr_ne, gj_sj_same, gj_sj_ne_r, gj_sj_ne_k, gj_si, gi_sj, gj_sr, iwc, jwc, Int.toNat_natCast, tdn, tmn, b0, b1, yc0, yc1]
  · refine wp_t (by omega) (wp_os ?_)
    refine main _ (by repeat (first | exact EqP.rf _ _ | (refine EqP.si ?_ _ _ _ (by omega)) | (refine EqP.sj ?_ _ _ _ (by omega)) | (refine EqP.sr ?_ _ _ (fun k => by omega)))) ?_ ?_ ?_
    · unfold old1; rw [if_neg h40]; simp (disch := omega) only [gi_same, gi_ne_r, gi_ne_k, gi_sr_same, gi_sr_ne, gj_sj_same, gj_sj_ne_r, gj_sj_ne_k, gj_si, gi_sj, gj_sr, iwc, jwc, Int.toNat_natCast, tdn, tmn, b0, b1, yc0, yc1]
      omega
    · unfold u1f; rw [if_neg h40]; simp (disch := omega) only [gi_same, gi_ne_r, gi_ne_k, gi_sr_same, gi_sr_ne, gj_sj_same, gj_sj_ne_r, gj_sj_ne_k, gj_si, gi_sj, gj_sr, iwc, jwc, Int.toNat_natCast, tdn, tmn, b0, b1, yc0, yc1, h2]
      omega
    · simp (disch := omega) only [gi_same, gi_ne_r, gi_ne_k, gi_sr_same, gi_sr_ne, gj_sj_same, gj_sj_ne_r, gj_sj_ne_k, gj_si, gi_sj, gj_sr, iwc, jwc, Int.toNat_natCast, tdn, tmn, b0, b1, yc0, yc1]
theorem x_keep51 (u : Nat) (hu : u < 41) (σ : SS) (h : gi σ 86 56 = u) : Wp (l_Mo_keepAct_51 FU 0 σ) fun _ τ => EqP (fun r k => r = 86 ∧ (k = 56 ∨ k = 57) ∨ r = 120 ∧ 44 * u ≤ k ∧ k < 44 * u + 44) σ τ ∧ gi τ 86 56 = ((u + 1 : Nat) : Int) ∧ gi τ 86 57 = 0 ∧ ∀ j, j < 44 → gi τ 120 (44 * u + j) = gi σ 118 j := by
  have z := cp_loop l_Mo_keepAct_51 (fun τ => l_Mo_keepAct_51 1 44 τ) 120 118 44 (44 * u) 0 (by omega) (fun τ => gi τ 86 56 = u) (fun τ k v hI => by rw [gi_ne_r _ _ _ _ (by omega)]; exact hI) (fun fu i τ hI hi => by
      have e : iw (iw (44 * (u : Int)) + (i : Int)) = ((44 * u + i : Nat) : Int) := by rw [iwc (x := 44 * (u : Int)) (by omega) (by omega), iwc (by omega) (by omega)]; omega
      rw [l_Mo_keepAct_51, if_neg (by omega), oc_pos (by omega), hI, e, oc_pos (by omega), os_eq, iwc (by omega) (by omega), Int.toNat_natCast, Int.toNat_natCast, Nat.zero_add]
      congr 1) (fun fu τ hI => by rw [l_Mo_keepAct_51, l_Mo_keepAct_51, if_pos (by omega), if_pos (by omega)]) 44 0 FU σ (by omega) (by unfold FU; omega) h
  refine wp_unf z ?_
  rw [l_Mo_keepAct_51]
  repeat (first | with_reducible refine wp_os ?_ | with_reducible refine wp_ol ?_ | (with_reducible refine wp_oc ?_ ?_; · (first | omega | (simp (disch := omega) only [gi_same, gi_ne_r, gi_ne_k, gi_sr_same, gi_sr_ne, gj_sj_same, gj_sj_ne_r, gj_sj_ne_k, gj_si, gi_sj, gj_sr, iwc, jwc, Int.toNat_natCast, tdn, tmn, b0, b1, yc0, yc1]; try omega))) | (with_reducible refine wp_t ?_ ?_; · (first | omega | (simp (disch := omega) only [gi_same, gi_ne_r, gi_ne_k, gi_sr_same, gi_sr_ne, gj_sj_same, gj_sj_ne_r, gj_sj_ne_k, gj_si, gi_sj, gj_sr, iwc, jwc, Int.toNat_natCast, tdn, tmn, b0, b1, yc0, yc1]; try omega))) | (with_reducible refine wp_f ?_ ?_; · (first | omega | (simp (disch := omega) only [gi_same, gi_ne_r, gi_ne_k, gi_sr_same, gi_sr_ne, gj_sj_same, gj_sj_ne_r, gj_sj_ne_k, gj_si, gi_sj, gj_sr, iwc, jwc, Int.toNat_natCast, tdn, tmn, b0, b1, yc0, yc1]; try omega))))
  refine wp_some ⟨?_, ?_, ?_, ?_⟩
  · refine EqP.si (EqP.si ?_ _ _ _ (by omega)) _ _ _ (by omega)
    intro r k hk
    refine ⟨?_, rfl⟩
    by_cases hr : r = 120
    · subst hr; rw [gi_sr_same, if_neg (by omega)]
    · simp (disch := omega) only [gi_same, gi_ne_r, gi_ne_k, gi_sr_same, gi_sr_ne, gj_sj_same, gj_sj_ne_r, gj_sj_ne_k, gj_si, gi_sj, gj_sr, iwc, jwc, Int.toNat_natCast, tdn, tmn, b0, b1, yc0, yc1]
  · simp (disch := omega) only [gi_same, gi_ne_r, gi_ne_k, gi_sr_same, gi_sr_ne, gj_sj_same, gj_sj_ne_r, gj_sj_ne_k, gj_si, gi_sj, gj_sr, iwc, jwc, Int.toNat_natCast, tdn, tmn, b0, b1, yc0, yc1, h]
    omega
  · simp (disch := omega) only [gi_same, gi_ne_r, gi_ne_k, gi_sr_same, gi_sr_ne, gj_sj_same, gj_sj_ne_r, gj_sj_ne_k, gj_si, gi_sj, gj_sr, iwc, jwc, Int.toNat_natCast, tdn, tmn, b0, b1, yc0, yc1]
  · intro j hj
    simp (disch := omega) only [gi_same, gi_ne_r, gi_ne_k, gi_sr_same, gi_sr_ne, gj_sj_same, gj_sj_ne_r, gj_sj_ne_k, gj_si, gi_sj, gj_sr, iwc, jwc, Int.toNat_natCast, tdn, tmn, b0, b1, yc0, yc1]
    rw [if_pos (by omega)]; congr 1 <;> omega
theorem x_shift : ∀ (m i fu : Nat) (σ : SS), i + m = 1760 → m < fu → l_Mo_keepAct_11 fu (i : Int) σ = l_Mo_keepAct_11 1 1760 (sr σ 120 (fun j => if i ≤ j ∧ j < 1760 then gi σ 120 (j + 44) else gi σ 120 j)) := by
  intro m
  induction m with
  | zero =>
    intro i fu σ hi hfu
    obtain ⟨fu, rfl⟩ : ∃ f, fu = f + 1 := ⟨fu - 1, by omega⟩
    obtain rfl : i = 1760 := by omega
    have e : sr σ 120 (fun j => if 1760 ≤ j ∧ j < 1760 then gi σ 120 (j + 44) else gi σ 120 j) = σ := by
      conv => rhs; rw [← sr_self σ 120]
      congr 1
      funext j
      rw [if_neg (by omega)]
    rw [e, l_Mo_keepAct_11, l_Mo_keepAct_11, if_pos (by omega), if_pos (by omega)]
  | succ m ih =>
    intro i fu σ hi hfu
    obtain ⟨fu, rfl⟩ : ∃ f, fu = f + 1 := ⟨fu - 1, by omega⟩
    have e : l_Mo_keepAct_11 (fu + 1) (i : Int) σ = l_Mo_keepAct_11 fu ((i + 1 : Nat) : Int) (si σ 120 i (gi σ 120 (i + 44))) := by
      rw [l_Mo_keepAct_11, if_neg (by omega), iwc (x := (i : Int) + 44) (by omega) (by omega), oc_pos (by omega), oc_pos (by omega), os_eq, Int.toNat_natCast, tn (x := (i : Int) + 44) (i + 44) (by omega), iwc (by omega) (by omega)]
      congr 1
    rw [e, ih (i + 1) fu _ (by omega) (by omega), si_sr, sr_sr]
    congr 2
    funext j
    rw [gi_sr_same, gi_sr_same]
    by_cases h1 : j = i
    · rw [if_neg (by omega), if_pos h1, if_pos (by omega), h1]
    · by_cases h2 : i + 1 ≤ j ∧ j < 1760
      · rw [if_pos h2, if_neg (show ¬ j + 44 = i by omega), if_pos (by omega)]
      · rw [if_neg h2, if_neg h1, if_neg (by omega)]
theorem x_keepActM (σ : SS) (u : Nat) (hu : u ≤ 40) (h : gi σ 86 56 = u) : Wp (f_Mo_keepAct σ) fun _ τ => EqP (fun r k => r = 86 ∧ (k = 56 ∨ k = 57) ∨ r = 120) σ τ ∧ gi τ 86 56 = u1f u ∧ gi τ 86 57 = 0 ∧ ∀ i j, i < u1f u → j < 44 → gi τ 120 (44 * i + j) = (if u < 40 then (if i < u then gi σ 120 (44 * i + j) else gi σ 118 j) else (if i < 39 then gi σ 120 (44 * (i + 1) + j) else gi σ 118 j)) := by
  unfold f_Mo_keepAct
  rw [h]
  by_cases h40 : u < 40
  · refine wp_f (by omega) (wp_mono (x_keep51 u (by omega) σ h) ?_)
    rintro _ τ ⟨hE, h1, h2, h3⟩
    unfold u1f
    rw [if_pos h40]
    refine ⟨hE.mo (fun r k z => by omega), h1, h2, ?_⟩
    intro i j hi hj
    rw [if_pos h40]
    by_cases hiu : i < u
    · rw [if_pos hiu, hE.i _ _ (by omega)]
    · rw [if_neg hiu, show i = u by omega]; exact h3 j hj
  · refine wp_t (by omega) ?_
    refine wp_unf (x_shift 1760 0 FU σ (by omega) (by unfold FU; omega)) ?_
    rw [l_Mo_keepAct_11]
    repeat (first | with_reducible refine wp_os ?_ | with_reducible refine wp_ol ?_ | (with_reducible refine wp_oc ?_ ?_; · (first | omega | (simp (disch := omega) only [gi_same, gi_ne_r, gi_ne_k, gi_sr_same, gi_sr_ne, gj_sj_same, gj_sj_ne_r, gj_sj_ne_k, gj_si, gi_sj, gj_sr, iwc, jwc, Int.toNat_natCast, tdn, tmn, b0, b1, yc0, yc1]; try omega))) | (with_reducible refine wp_t ?_ ?_; · (first | omega | (simp (disch := omega) only [gi_same, gi_ne_r, gi_ne_k, gi_sr_same, gi_sr_ne, gj_sj_same, gj_sj_ne_r, gj_sj_ne_k, gj_si, gi_sj, gj_sr, iwc, jwc, Int.toNat_natCast, tdn, tmn, b0, b1, yc0, yc1]; try omega))) | (with_reducible refine wp_f ?_ ?_; · (first | omega | (simp (disch := omega) only [gi_same, gi_ne_r, gi_ne_k, gi_sr_same, gi_sr_ne, gj_sj_same, gj_sj_ne_r, gj_sj_ne_k, gj_si, gi_sj, gj_sr, iwc, jwc, Int.toNat_natCast, tdn, tmn, b0, b1, yc0, yc1]; try omega))))
    refine wp_mono (x_keep51 39 (by omega) _ ?_) ?_
    · simp (disch := omega) only [gi_same, gi_ne_r, gi_ne_k, gi_sr_same, gi_sr_ne, gj_sj_same, gj_sj_ne_r, gj_sj_ne_k, gj_si, gi_sj, gj_sr, iwc, jwc, Int.toNat_natCast, tdn, tmn, b0, b1, yc0, yc1, h]
      omega
    rintro _ τ ⟨hE, h1, h2, h3⟩
    unfold u1f
    rw [if_neg h40]
    refine ⟨?_, h1, h2, ?_⟩
    · refine EqP.tr ?_ (hE.mo (fun r k z => by omega))
      exact EqP.si (EqP.sr (EqP.rf _ _) _ _ (fun k => by omega)) _ _ _ (by omega)
    · intro i j hi hj
      rw [if_neg h40]
      by_cases hiu : i < 39
      · rw [if_pos hiu, hE.i _ _ (by omega)]
        simp (disch := omega) only [gi_same, gi_ne_r, gi_ne_k, gi_sr_same, gi_sr_ne, gj_sj_same, gj_sj_ne_r, gj_sj_ne_k, gj_si, gi_sj, gj_sr, iwc, jwc, Int.toNat_natCast, tdn, tmn, b0, b1, yc0, yc1]
        rw [if_pos (by omega)]; congr 1 <;> omega
      · rw [if_neg hiu, show i = 39 by omega, h3 j hj]
        simp (disch := omega) only [gi_same, gi_ne_r, gi_ne_k, gi_sr_same, gi_sr_ne, gj_sj_same, gj_sj_ne_r, gj_sj_ne_k, gj_si, gi_sj, gj_sr, iwc, jwc, Int.toNat_natCast, tdn, tmn, b0, b1, yc0, yc1]
theorem x_exch : ∀ (m i fu u : Nat) (σ : SS), u < 41 → gi σ 86 56 = u → i + m = 44 → m < fu → l_Mo_exchange_2 fu (i : Int) σ = some (0, sr (sr σ 120 (fun j => if 44 * u + i ≤ j ∧ j < 44 * u + 44 then gi σ 118 (j - 44 * u) else gi σ 120 j)) 118 (fun j => if i ≤ j ∧ j < 44 then gi σ 120 (44 * u + j) else gi σ 118 j)) := by
  intro m
  induction m with
  | zero =>
    intro i fu u σ hu h hi hfu
    obtain ⟨fu, rfl⟩ : ∃ f, fu = f + 1 := ⟨fu - 1, by omega⟩
    obtain rfl : i = 44 := by omega
    have e1 : (fun j => if 44 * u + 44 ≤ j ∧ j < 44 * u + 44 then gi σ 118 (j - 44 * u) else gi σ 120 j) = gi σ 120 := by
      funext j; rw [if_neg (by omega)]
    have e2 : (fun j => if 44 ≤ j ∧ j < 44 then gi σ 120 (44 * u + j) else gi σ 118 j) = gi σ 118 := by
      funext j; rw [if_neg (by omega)]
    rw [e1, e2, sr_self, sr_self, l_Mo_exchange_2, if_pos (by omega)]
  | succ m ih =>
    intro i fu u σ hu h hi hfu
    obtain ⟨fu, rfl⟩ : ∃ f, fu = f + 1 := ⟨fu - 1, by omega⟩
    have ei : iw (iw (44 * (u : Int)) + (i : Int)) = ((44 * u + i : Nat) : Int) := by rw [iwc (x := 44 * (u : Int)) (by omega) (by omega), iwc (by omega) (by omega)]; omega
    have e : l_Mo_exchange_2 (fu + 1) (i : Int) σ = l_Mo_exchange_2 fu ((i + 1 : Nat) : Int) (si (si σ 120 (44 * u + i) (gi σ 118 i)) 118 i (gi σ 120 (44 * u + i))) := by
      rw [l_Mo_exchange_2, if_neg (by omega), h, ei, oc_pos (by omega), ol_eq, oc_pos (by omega), oc_pos (by omega), os_eq, oc_pos (by omega), os_eq, Int.toNat_natCast, Int.toNat_natCast, iwc (by omega) (by omega)]
      congr 1
    rw [e, ih (i + 1) fu u _ hu (by rw [gi_ne_r _ _ _ _ (by omega), gi_ne_r _ _ _ _ (by omega)]; exact h) (by omega) (by omega)]
    congr 2
    have x1 : ∀ j, gi (si (si σ 120 (44 * u + i) (gi σ 118 i)) 118 i (gi σ 120 (44 * u + i))) 118 j = if j = i then gi σ 120 (44 * u + i) else gi σ 118 j := fun j => by
      by_cases hj : j = i
      · rw [if_pos hj, hj, gi_same]
      · rw [if_neg hj, gi_ne_k _ _ _ _ hj, gi_ne_r _ _ _ _ (by omega)]
    have x2 : ∀ j, gi (si (si σ 120 (44 * u + i) (gi σ 118 i)) 118 i (gi σ 120 (44 * u + i))) 120 j = if j = 44 * u + i then gi σ 118 i else gi σ 120 j := fun j => by
      rw [gi_ne_r _ _ _ _ (by omega)]
      by_cases hj : j = 44 * u + i
      · rw [if_pos hj, hj, gi_same]
      · rw [if_neg hj, gi_ne_k _ _ _ _ hj]
    unfold sr
    congr 1
    funext r j
    by_cases r1 : r = 118
    · rw [if_pos r1, if_pos r1]
      dsimp only
      rw [x1, x2]
      by_cases h1 : j = i
      · rw [if_neg (show ¬ (i + 1 ≤ j ∧ j < 44) by omega), if_pos h1, if_pos (show i ≤ j ∧ j < 44 by omega), h1]
      · by_cases h2 : i + 1 ≤ j ∧ j < 44
        · rw [if_pos h2, if_neg (show ¬ 44 * u + j = 44 * u + i by omega), if_pos (show i ≤ j ∧ j < 44 by omega)]
        · rw [if_neg h2, if_neg h1, if_neg (show ¬ (i ≤ j ∧ j < 44) by omega)]
    · rw [if_neg r1, if_neg r1]
      by_cases r2 : r = 120
      · dsimp only
        rw [if_pos r2, if_pos r2, x1, x2]
        by_cases h1 : j = 44 * u + i
        · rw [if_neg (show ¬ (44 * u + (i + 1) ≤ j ∧ j < 44 * u + 44) by omega), if_pos h1, if_pos (show 44 * u + i ≤ j ∧ j < 44 * u + 44 by omega), h1]; congr 1 <;> omega
        · by_cases h2 : 44 * u + (i + 1) ≤ j ∧ j < 44 * u + 44
          · rw [if_pos h2, if_neg (show ¬ j - 44 * u = i by omega), if_pos (show 44 * u + i ≤ j ∧ j < 44 * u + 44 by omega)]
          · rw [if_neg h2, if_neg h1, if_neg (show ¬ (44 * u + i ≤ j ∧ j < 44 * u + 44) by omega)]
      · dsimp only
        rw [if_neg r2, if_neg r2]
        show gi (si (si σ 120 (44 * u + i) (gi σ 118 i)) 118 i (gi σ 120 (44 * u + i))) r j = gi σ r j
        rw [gi_ne_r _ _ _ _ r1, gi_ne_r _ _ _ _ r2]
/-- an act on both sides keeps what is kept -/
theorem act_EA {ld σ τ : SS} {old u d : Nat} (ho : old ≤ 40) (hud : u + d ≤ 40) (hring : ∀ i, i ≤ u + d → SR ld (fun j => gi σ 48 (41 * ((old + i) % 41) + j)) (mvr σ u i))
    (hbox : ∀ x, x < 3 → gi σ 50 x = gi σ 137 x ∧ (gi σ 50 x = 0 ∨ gi σ 50 x = 1 ∧ SR ld (fun j => gi σ 49 (41 * x + j)) (fun j => gi σ 136 (44 * x + j))))
    (hb : ∀ r k, (r = 49 ∨ r = 50 ∨ r = 136 ∨ r = 137) → gi τ r k = gi σ r k)
    (c1 : gi τ 46 9 = old1 old u) (c2 : gi τ 46 10 = u1f u) (c3 : gi τ 46 11 = 0) (m1 : gi τ 86 56 = u1f u) (m2 : gi τ 86 57 = 0)
    (r1 : ∀ j, j < 41 → gi τ 48 (41 * ((old1 old u + u1f u) % 41) + j) = cv τ j) (r2 : ∀ s, s < 41 → s ≠ (old1 old u + u1f u) % 41 → ∀ j, j < 41 → gi τ 48 (41 * s + j) = gi σ 48 (41 * s + j))
    (w : ∀ i j, i < u1f u → j < 44 → gi τ 120 (44 * i + j) = (if u < 40 then (if i < u then gi σ 120 (44 * i + j) else gi σ 118 j) else (if i < 39 then gi σ 120 (44 * (i + 1) + j) else gi σ 118 j)))
    (hs : SR ld (cv τ) (gi τ 118)) : EA ld τ := by
  refine ⟨hs, ⟨old1 old u, u1f u, 0, ?_, ?_, c1, c2, c3, m1, m2, ?_⟩, ?_⟩
  · unfold old1; split <;> omega
  · unfold u1f; split <;> omega
  · intro i hi
    by_cases hlast : i = u1f u
    · rw [hlast]
      refine hs.cg (fun j hj => r1 j hj) (fun j hj => ?_)
      unfold mvr
      rw [if_neg (by omega), if_pos rfl]
    · have hi2 : i < u1f u := by omega
      by_cases h40 : u < 40
      · have e1 : old1 old u = old := by unfold old1; rw [if_pos h40]
        have e2 : u1f u = u + 1 := by unfold u1f; rw [if_pos h40]
        rw [e1, e2] at r2
        rw [e2] at hi2 w
        rw [e1, e2]
        refine (hring i (by omega)).cg (fun j hj => r2 _ (Nat.mod_lt _ (by omega)) (by omega) j hj) (fun j hj => ?_)
        unfold mvr
        rw [if_pos hi2, w i j hi2 hj, if_pos h40]
        by_cases hiu : i < u
        · rw [if_pos hiu, if_pos hiu]
        · rw [if_neg hiu, if_neg hiu, if_pos (by omega)]
      · have e1 : old1 old u = (old + 1) % 41 := by unfold old1; rw [if_neg h40]
        have e2 : u1f u = 40 := by unfold u1f; rw [if_neg h40]
        have e3 : ((old + 1) % 41 + i) % 41 = (old + (i + 1)) % 41 := by omega
        rw [e1, e2] at r2
        rw [e2] at hi2 w
        rw [e1, e2, e3]
        refine (hring (i + 1) (by omega)).cg (fun j hj => r2 _ (Nat.mod_lt _ (by omega)) (by omega) j hj) (fun j hj => ?_)
        unfold mvr
        rw [if_pos hi2, w i j hi2 hj, if_neg h40]
        by_cases hiu : i < 39
        · rw [if_pos hiu, if_pos (by omega)]
        · rw [if_neg hiu, if_neg (by omega), if_pos (by omega)]
  · intro x hx
    obtain ⟨k1, k2⟩ := hbox x hx
    rw [hb 50 x (by omega), hb 137 x (by omega)]
    refine ⟨k1, ?_⟩
    rcases k2 with k2 | ⟨k2, k3⟩
    · exact Or.inl k2
    · exact Or.inr ⟨k2, k3.cg (fun j _ => hb _ _ (by omega)) (fun j _ => hb _ _ (by omega))⟩
