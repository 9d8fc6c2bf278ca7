/-! other tempers: the class -/
def tiF (a b i : Nat) : Nat := if i < 2 then 2 * a + i else 2 * b + (i - 2)
theorem x_temperAt (a b m : Nat) (ha : a < 6) (hb : b < 6) (hm : m < 6) (i : Nat) (hi : i < 4) (σ : SS) : f_Fi_temperAt (100 * (a : Int) + 10 * (b : Int) + (m : Int)) (i : Int) σ = some (((tiF a b i : Nat) : Int), σ) := by
  unfold f_Fi_temperAt j_Fi_temperAt_19 tiF
  have e1 : Int.tdiv (100 * (a : Int) + 10 * (b : Int) + (m : Int)) 100 = a := by rw [tdn _ (by omega)]; omega
  have e2 : Int.tdiv (100 * (a : Int) + 10 * (b : Int) + (m : Int)) 10 = 10 * (a : Int) + b := by rw [tdn _ (by omega)]; omega
  have e3 : Int.tmod (10 * (a : Int) + b) 10 = b := by rw [tmn _ (by omega)]; omega
  have e4 : Int.tmod (i : Int) 2 = ((i % 2 : Nat) : Int) := by rw [tmn _ (by omega)]; omega
  rw [e1, e2, e3, e4]
  by_cases h : i < 2
  · rw [if_neg (by omega), if_pos h, iwc (x := 2 * (a : Int)) (by omega) (by omega), iwc (by omega) (by omega)]
    congr 2
    omega
  · rw [if_pos (by omega), if_neg h, iwc (x := 2 * (b : Int)) (by omega) (by omega), iwc (by omega) (by omega)]
    congr 2
    omega
theorem x_temperNow (a b m : Nat) (ha : a < 6) (hb : b < 6) (hm : m < 6) (i : Nat) (hi : i < 4) (σ : SS) : f_Fi_temperNow (100 * (a : Int) + 10 * (b : Int) + (m : Int)) (i : Int) σ = some (gi σ 47 (tiF a b i), σ) := by
  have hti : tiF a b i < 12 := by unfold tiF; split <;> omega
  unfold f_Fi_temperNow
  rw [x_temperAt a b m ha hb hm i hi, ob_eq, if_neg (by omega), if_neg (by omega), oc_pos (by omega), Int.toNat_natCast]
theorem x_tryTemper (a b m : Nat) (ha : a < 6) (hb : b < 6) (hm : m < 6) (i : Nat) (hi : i < 4) (v : Int) (σ : SS) : f_Fi_tryTemper (100 * (a : Int) + 10 * (b : Int) + (m : Int)) (i : Int) v σ = some (0, si σ 69 (tiF a b i) v) := by
  have hti : tiF a b i < 12 := by unfold tiF; split <;> omega
  unfold f_Fi_tryTemper
  rw [x_temperAt a b m ha hb hm i hi, ob_eq, if_neg (by omega), if_neg (by omega), oc_pos (by omega), Int.toNat_natCast, os_eq]
theorem tiF_v (a b : Nat) : tiF a b 0 = 2 * a ∧ tiF a b 1 = 2 * a + 1 ∧ tiF a b 2 = 2 * b ∧ tiF a b 3 = 2 * b + 1 := by
  unfold tiF
  refine ⟨by rw [if_pos (by omega)]; rfl, by rw [if_pos (by omega)], by rw [if_neg (by omega)]; rfl, by rw [if_neg (by omega)]⟩
abbrev PTe : Nat → Nat → Prop := fun r k => r = 69 ∨ r = 61 ∧ k = 5 ∨ r = 65 ∨ PTk 76 r k
/-- the bounds -/
noncomputable def loF (ld : SS) (nw : Nat → Int) (i : Nat) : Int := @ite _ (askB ld (2 + ((i % 2 : Nat) : Int))) (Classical.propDecidable _) 0 (nw i)
noncomputable def hiF (ld : SS) (nw : Nat → Int) (i : Nat) : Int := @ite _ (askB ld (2 + ((i % 2 : Nat) : Int))) (Classical.propDecidable _) 9 (nw i)
theorem lohi {ld : SS} {nw : Nat → Int} (hn : ∀ i, i < 4 → 0 ≤ nw i ∧ nw i ≤ 9) (i : Nat) (hi : i < 4) : 0 ≤ loF ld nw i ∧ loF ld nw i ≤ nw i ∧ nw i ≤ hiF ld nw i ∧ hiF ld nw i ≤ 9 := by
  have := hn i hi
  unfold loF hiF
  by_cases h : askB ld (2 + ((i % 2 : Nat) : Int))
  · rw [if_pos h, if_pos h]; omega
  · rw [if_neg h, if_neg h]; omega
theorem lohi_un {ld : SS} {nw : Nat → Int} (i : Nat) (h : ¬ askB ld (2 + ((i % 2 : Nat) : Int))) : loF ld nw i = nw i ∧ hiF ld nw i = nw i := by
  unfold loF hiF
  rw [if_neg h, if_neg h]; exact ⟨rfl, rfl⟩
theorem lohi_as {ld : SS} {nw : Nat → Int} (i : Nat) (h : askB ld (2 + ((i % 2 : Nat) : Int))) : loF ld nw i = 0 ∧ hiF ld nw i = 9 := by
  unfold loF hiF
  rw [if_pos h, if_pos h]; exact ⟨rfl, rfl⟩
theorem x_sb {ld σ : SS} (hok : LdOK ld) (hL : LC ld σ) {a b m : Nat} (hc : CPL ld a b m) (i : Nat) (hi : i < 4) (fu : Nat) : l_Fi_setBounds_2 (100 * (a : Int) + 10 * (b : Int) + (m : Int)) (fu + 1) (i : Int) σ = l_Fi_setBounds_2 (100 * (a : Int) + 10 * (b : Int) + (m : Int)) fu ((i + 1 : Nat) : Int) (si (si σ 70 i (loF ld (fun i => gi σ 47 (tiF a b i)) i)) 71 i (hiF ld (fun i => gi σ 47 (tiF a b i)) i)) := by
  have l9 := hok.2.2.1
  have l12 := hok.2.2.2.1
  obtain ⟨q1, q2, q3, q4⟩ : a < 6 ∧ b < 6 ∧ m < 6 ∧ True := ⟨by have := hc.1; omega, by have := hc.2.1; omega, by have := hc.2.2.2.1; omega, trivial⟩
  have hi1 : iw ((i : Int) + 1) = ((i + 1 : Nat) : Int) := by rw [iwc (by omega) (by omega)]; omega
  rw [l_Fi_setBounds_2, if_neg (by omega)]
  -- which of the two is asked for
  have e18 : (if Int.tmod (i : Int) 2 = 0 then (j_Fi_setBounds_18 (l_Fi_setBounds_2 (100 * (a : Int) + 10 * (b : Int) + (m : Int)) fu) (100 * (a : Int) + 10 * (b : Int) + (m : Int)) (i : Int) 2 σ) else (j_Fi_setBounds_18 (l_Fi_setBounds_2 (100 * (a : Int) + 10 * (b : Int) + (m : Int)) fu) (100 * (a : Int) + 10 * (b : Int) + (m : Int)) (i : Int) 3 σ)) = j_Fi_setBounds_18 (l_Fi_setBounds_2 (100 * (a : Int) + 10 * (b : Int) + (m : Int)) fu) (100 * (a : Int) + 10 * (b : Int) + (m : Int)) (i : Int) ((2 + i % 2 : Nat) : Int) σ := by
    have h4 : i = 0 ∨ i = 1 ∨ i = 2 ∨ i = 3 := by omega
    rcases h4 with rfl | rfl | rfl | rfl <;> rfl
  rw [e18]
  unfold j_Fi_setBounds_18 j_Fi_setBounds_47
  have fin : ∀ z : Int, (z = 0 ∧ ¬ askB ld (2 + ((i % 2 : Nat) : Int)) ∨ z = 1 ∧ askB ld (2 + ((i % 2 : Nat) : Int))) → j_Fi_setBounds_52 (l_Fi_setBounds_2 (100 * (a : Int) + 10 * (b : Int) + (m : Int)) fu) (100 * (a : Int) + 10 * (b : Int) + (m : Int)) (i : Int) z σ = l_Fi_setBounds_2 (100 * (a : Int) + 10 * (b : Int) + (m : Int)) fu ((i + 1 : Nat) : Int) (si (si σ 70 i (loF ld (fun i => gi σ 47 (tiF a b i)) i)) 71 i (hiF ld (fun i => gi σ 47 (tiF a b i)) i)) := by
    intro z hz
    unfold j_Fi_setBounds_52 j_Fi_setBounds_78 j_Fi_setBounds_96
    rw [x_temperNow a b m q1 q2 q3 i hi, ob_eq]
    rcases hz with ⟨rfl, hz⟩ | ⟨rfl, hz⟩
    · obtain ⟨e1, e2⟩ := lohi_un (nw := fun i => gi σ 47 (tiF a b i)) i hz
      rw [if_pos rfl, oc_pos (by omega), os_eq, if_pos rfl, oc_pos (by omega), os_eq, Int.toNat_natCast, hi1, e1, e2]
    · obtain ⟨e1, e2⟩ := lohi_as (nw := fun i => gi σ 47 (tiF a b i)) i hz
      rw [if_neg (by decide), oc_pos (by omega), os_eq, if_neg (by decide), oc_pos (by omega), os_eq, Int.toNat_natCast, hi1, e1, e2]
  obtain ⟨a1, a2⟩ := x_asks hL hok 16 (Or.inl rfl) (2 + i % 2) (by omega)
  obtain ⟨b1', b2'⟩ := x_asks hL hok 19 (Or.inr rfl) (2 + i % 2) (by omega)
  have ec : ((2 + i % 2 : Nat) : Int) = 2 + ((i % 2 : Nat) : Int) := by omega
  rw [ec] at a1 a2 b1' b2' ⊢
  by_cases h1 : askF ld 16 (2 + ((i % 2 : Nat) : Int))
  · rw [a1 h1, ob_eq, if_neg (by decide)]
    exact fin 1 (Or.inr ⟨rfl, Or.inl h1⟩)
  · rw [a2 h1, ob_eq, if_pos rfl]
    by_cases h2 : askF ld 19 (2 + ((i % 2 : Nat) : Int))
    · rw [b1' h2, ob_eq, if_neg (by decide)]
      exact fin 1 (Or.inr ⟨rfl, Or.inr h2⟩)
    · rw [b2' h2, ob_eq, if_pos rfl]
      refine fin 0 (Or.inl ⟨rfl, ?_⟩)
      rintro (z | z)
      · exact h1 z
      · exact h2 z
theorem x_setBounds {ld σ : SS} (hok : LdOK ld) (hL : LC ld σ) {a b m : Nat} (hc : CPL ld a b m) {nw : Nat → Int} (hnw : ∀ i, i < 4 → gi σ 47 (tiF a b i) = nw i) : Wp (f_Fi_setBounds (100 * (a : Int) + 10 * (b : Int) + (m : Int)) σ) fun _ τ => EqP (fun r _ => r = 70 ∨ r = 71) σ τ ∧ ∀ i, i < 4 → gi τ 70 i = loF ld nw i ∧ gi τ 71 i = hiF ld nw i := by
  unfold f_Fi_setBounds
  have hcl : ∀ i, i < 4 → ∀ s : SS, (∀ k, gi s 47 k = gi σ 47 k) → loF ld (fun i => gi s 47 (tiF a b i)) i = loF ld nw i ∧ hiF ld (fun i => gi s 47 (tiF a b i)) i = hiF ld nw i := by
    intro i hi s hs
    unfold loF hiF
    have e : gi s 47 (tiF a b i) = nw i := (hs _).trans (hnw i hi)
    dsimp only
    rw [e]
    exact ⟨rfl, rfl⟩
  refine loopN (β := Unit) 4 (fun fu c _ s => l_Fi_setBounds_2 (100 * (a : Int) + 10 * (b : Int) + (m : Int)) fu c s) (fun _ s => s) (fun c _ s => (∀ i, i < c → gi s 70 i = loF ld nw i ∧ gi s 71 i = hiF ld nw i) ∧ EqP (fun r _ => r = 70 ∨ r = 71) σ s) _ ?_ 4 0 FU () σ (by omega) (by unfold FU; omega) ⟨fun j hj => by omega, EqP.rf _ _⟩ ?_
  · rintro fu c _ s hc' ⟨hr, hE⟩ hk
    show Wp (l_Fi_setBounds_2 _ (fu + 1) (c : Int) s) _
    rw [x_sb hok (hL.of hE (fun r k z => by omega)) hc c hc' fu]
    obtain ⟨e1, e2⟩ := hcl c hc' s (fun k => hE.i _ _ (by omega))
    rw [e1, e2]
    refine hk _ ⟨fun j hj => ?_, EqP.si (EqP.si hE _ _ _ (by omega)) _ _ _ (by omega)⟩
    by_cases e : j = c
    · rw [e, gi_same, gi_ne_r _ _ _ _ (show 70 ≠ 71 by omega), gi_same]; exact ⟨rfl, rfl⟩
    · rw [gi_ne_r _ _ _ _ (show 70 ≠ 71 by omega), gi_ne_k _ _ _ _ e, gi_ne_k _ _ _ _ e, gi_ne_r _ _ _ _ (show 71 ≠ 70 by omega)]
      exact hr j (by omega)
  · rintro fu s ⟨hr, hE⟩
    show Wp (l_Fi_setBounds_2 _ (fu + 1) ((4 : Nat) : Int) s) _
    rw [l_Fi_setBounds_2]
    exact wp_t (by omega) (wp_some ⟨hE, hr⟩)
theorem x_lil69 (a b m : Nat) (ha : a < 6) (hb : b < 6) (hm : m < 6) (σ : SS) (h5 : gi σ 61 5 = 0) : Wp (l_Fi_layIfLong_69 (100 * (a : Int) + 10 * (b : Int) + (m : Int)) FU 0 σ) fun r τ => r = 1 ∧ gi τ 61 5 = 4 ∧ (∀ i, i < 4 → gi τ 65 i = gi σ 69 (tiF a b i)) ∧ EqP (fun r k => r = 61 ∧ k = 5 ∨ r = 65) σ τ := by
  refine loopN (β := Unit) 4 (fun fu c _ s => l_Fi_layIfLong_69 (100 * (a : Int) + 10 * (b : Int) + (m : Int)) fu c s) (fun _ s => s) (fun c _ s => (gi s 61 5 = (c : Int) ∧ ∀ i, i < c → gi s 65 i = gi σ 69 (tiF a b i)) ∧ EqP (fun r k => r = 61 ∧ k = 5 ∨ r = 65) σ s) _ ?_ 4 0 FU () σ (by omega) (by unfold FU; omega) ⟨⟨h5, fun j hj => by omega⟩, EqP.rf _ _⟩ ?_
  · rintro fu c _ s hc ⟨⟨g5, hr⟩, hE⟩ hk
    have hti : tiF a b c < 12 := by unfold tiF; split <;> omega
    show Wp (l_Fi_layIfLong_69 _ (fu + 1) (c : Int) s) _
    rw [l_Fi_layIfLong_69, if_neg (by omega), x_temperAt a b m ha hb hm c hc, ob_eq, if_neg (by omega), if_neg (by omega), oc_pos (by omega), Int.toNat_natCast]
    unfold j_Fi_layIfLong_108
    rw [x_lay g5 (by omega), ob_eq, show iw ((c : Int) + 1) = ((c + 1 : Nat) : Int) by rw [iwc (by omega) (by omega)]; omega, hE.i 69 _ (by omega)]
    refine hk _ ⟨⟨gi_same _ _ _ _, fun j hj => ?_⟩, EqP.si (EqP.si hE _ _ _ (by omega)) _ _ _ (by omega)⟩
    rw [gi_ne_r _ _ _ _ (by omega)]
    by_cases e : j = c
    · rw [e, gi_same]
    · rw [gi_ne_k _ _ _ _ e]; exact hr j (by omega)
  · rintro fu s ⟨⟨g5, hr⟩, hE⟩
    show Wp (l_Fi_layIfLong_69 _ (fu + 1) ((4 : Nat) : Int) s) _
    rw [l_Fi_layIfLong_69]
    exact wp_t (by omega) (wp_some ⟨rfl, g5, hr, hE⟩)
theorem x_layIfLong {ld σ : SS} (hok : LdOK ld) (hL : LC ld σ) {a b m mi : Nat} (hc : CPL ld a b m) (hmi : 1 ≤ mi ∧ mi ≤ 60) {lo hi : Int} (g70 : gi σ 70 3 = lo) (g71 : gi σ 71 3 = hi) (g13 : gi σ 61 13 = mi) (g5 : gi σ 61 5 = 0) {x0 x1 x2 : Int} (h0 : gi σ 69 (2 * a) = x0) (h1 : gi σ 69 (2 * a + 1) = x1) (h2 : gi σ 69 (2 * b) = x2) (last : Int) : Wp (f_Fi_layIfLong (100 * (a : Int) + 10 * (b : Int) + (m : Int)) last σ) fun r τ => EqP PTe σ τ ∧ (gi τ 69 (2 * a) = x0 ∧ gi τ 69 (2 * a + 1) = x1 ∧ gi τ 69 (2 * b) = x2) ∧ ((r = 0 ∧ gi τ 61 5 = 0 ∧ ¬ (lo ≤ last ∧ last ≤ hi ∧ gd ld a b m mi x0 x1 x2 last)) ∨ (r = 1 ∧ (lo ≤ last ∧ last ≤ hi ∧ gd ld a b m mi x0 x1 x2 last) ∧ gi τ 61 5 = 4 ∧ gi τ 65 0 = x0 ∧ gi τ 65 1 = x1 ∧ gi τ 65 2 = x2 ∧ gi τ 65 3 = last)) := by
  have l9 := hok.2.2.1
  have l12 := hok.2.2.2.1
  obtain ⟨q1, q2, q3⟩ : a < 6 ∧ b < 6 ∧ m < 6 := ⟨by have := hc.1; omega, by have := hc.2.1; omega, by have := hc.2.2.2.1; omega⟩
  have hab : a ≠ b := hc.2.2.1
  obtain ⟨v0, v1, v2, v3⟩ := tiF_v a b
  have hno : ¬ (lo ≤ last ∧ last ≤ hi) → EqP PTe σ σ ∧ (gi σ 69 (2 * a) = x0 ∧ gi σ 69 (2 * a + 1) = x1 ∧ gi σ 69 (2 * b) = x2) ∧ (((0 : Int) = 0 ∧ gi σ 61 5 = 0 ∧ ¬ (lo ≤ last ∧ last ≤ hi ∧ gd ld a b m mi x0 x1 x2 last)) ∨ ((0 : Int) = 1 ∧ (lo ≤ last ∧ last ≤ hi ∧ gd ld a b m mi x0 x1 x2 last) ∧ gi σ 61 5 = 4 ∧ gi σ 65 0 = x0 ∧ gi σ 65 1 = x1 ∧ gi σ 65 2 = x2 ∧ gi σ 65 3 = last)) := fun z => ⟨EqP.rf _ _, ⟨h0, h1, h2⟩, Or.inl ⟨rfl, g5, fun w => z ⟨w.1, w.2.1⟩⟩⟩
  unfold f_Fi_layIfLong
  by_cases hlo : last < gi σ 70 3
  · exact wp_t hlo (wp_some (hno (by omega)))
  refine wp_f hlo ?_
  by_cases hhi : last ≤ gi σ 71 3
  · refine wp_t hhi ?_
    refine wp_eq (x_tryTemper a b m q1 q2 q3 3 (by omega) last σ) ?_
    rw [v3]
    have hE1 : EqP PTe σ (si σ 69 (2 * b + 1) last) := EqP.si (EqP.rf _ _) _ _ _ (by omega)
    have k0 : gi (si σ 69 (2 * b + 1) last) 69 (2 * a) = x0 := by rw [gi_ne_k _ _ _ _ (by omega)]; exact h0
    have k1 : gi (si σ 69 (2 * b + 1) last) 69 (2 * a + 1) = x1 := by rw [gi_ne_k _ _ _ _ (by omega)]; exact h1
    have k2 : gi (si σ 69 (2 * b + 1) last) 69 (2 * b) = x2 := by rw [gi_ne_k _ _ _ _ (by omega)]; exact h2
    have k3 : gi (si σ 69 (2 * b + 1) last) 69 (2 * b + 1) = last := gi_same _ _ _ _
    have k13 : gi (si σ 69 (2 * b + 1) last) 61 13 = mi := by rw [gi_ne_r _ _ _ _ (by omega)]; exact g13
    have k5 : gi (si σ 69 (2 * b + 1) last) 61 5 = 0 := by rw [gi_ne_r _ _ _ _ (by omega)]; exact g5
    generalize si σ 69 (2 * b + 1) last = σ1 at hE1 k0 k1 k2 k3 k13 k5 ⊢
    obtain ⟨bq1, bq2⟩ := begP_ok hok hc.2.2.2.1
    refine wp_call (x_begin hok (hL.of hE1 (fun r k z => by omega)) (t := 76) (by omega) hc rfl) ?_
    rintro _ σ2 ⟨hT2, hE2⟩
    have hL2 := (hL.of hE1 (fun r k z => by omega)).of hE2 (fun r k z => by omega)
    have j13 : gi σ2 61 13 = mi := by rw [hE2.i _ _ (by omega)]; exact k13
    rw [j13]
    refine wp_call (x_talkOpenly hok hL2 (t := 76) (u := 69) (tp := gi σ2 69) (by omega) (by omega) rfl rfl (fun j _ => rfl) hc hT2 bq1 mi (by omega)) ?_
    rintro r σ3 ⟨_, hr, hE3⟩
    have f69 : ∀ k, gi σ3 69 k = gi σ1 69 k := fun k => by rw [hE3.i _ _ (by omega), hE2.i _ _ (by omega)]
    have j13' : gi σ3 61 13 = mi := by rw [hE3.i _ _ (by omega)]; exact j13
    have j5 : gi σ3 61 5 = 0 := by rw [hE3.i _ _ (by omega), hE2.i _ _ (by omega)]; exact k5
    have hE03 : EqP PTe σ σ3 := (hE1.tr (hE2.mo (fun r k z => Or.inr (Or.inr (Or.inr z))))).tr (hE3.mo (fun r k z => Or.inr (Or.inr (Or.inr z))))
    have hgd : gd ld a b m mi x0 x1 x2 last ↔ r = mi := by
      rw [gd_tp hab (tp := gi σ2 69) (by rw [hE2.i _ _ (by omega)]; exact k0) (by rw [hE2.i _ _ (by omega)]; exact k1) (by rw [hE2.i _ _ (by omega)]; exact k2) (by rw [hE2.i _ _ (by omega)]; exact k3), ← op_mi hok (gi σ2 69) hc mi hmi, hr]
    rw [j13']
    by_cases hrm : r = mi
    · refine wp_t hrm ?_
      refine wp_mono (x_lil69 a b m q1 q2 q3 σ3 j5) ?_
      rintro r' τ ⟨hr', t5, t65, hE4⟩
      refine ⟨hE03.tr (hE4.mo (fun r k z => by omega)), ⟨?_, ?_, ?_⟩, Or.inr ⟨hr', ⟨by omega, by omega, hgd.mpr hrm⟩, t5, ?_, ?_, ?_, ?_⟩⟩
      · rw [hE4.i _ _ (by omega), f69]; exact k0
      · rw [hE4.i _ _ (by omega), f69]; exact k1
      · rw [hE4.i _ _ (by omega), f69]; exact k2
      · rw [t65 0 (by omega), f69, v0]; exact k0
      · rw [t65 1 (by omega), f69, v1]; exact k1
      · rw [t65 2 (by omega), f69, v2]; exact k2
      · rw [t65 3 (by omega), f69, v3]; exact k3
    · refine wp_f hrm (wp_some ⟨hE03, ⟨by rw [f69]; exact k0, by rw [f69]; exact k1, by rw [f69]; exact k2⟩, Or.inl ⟨rfl, j5, fun z => hrm (hgd.mp z.2.2)⟩⟩)
  · exact wp_f hhi (wp_some (hno (by omega)))
