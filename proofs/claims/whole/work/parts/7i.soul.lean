/-! lines that tell a soul, a matter, the draw -/
section
variable {u b : Nat} {B : Nat → Int} {N : Nat} {σ0 τ0 σ τ : SS} {k : Int} {p n : Nat} {P W S M t0 t1 c : Nat}
abbrev PO (b x : Nat) : Nat → Nat → Prop := fun r k => (r = 101 ∨ r = 102 ∨ r = 111) ∧ k = x ∨ r = 91 ∧ k = b
theorem x_soul3W (hb : b < 2) (x : Nat) (hx : x < 12) (h41 : gi τ 86 41 = b) (v : Int) : Wp (oc (0 ≤ (x : Int) ∧ (x : Int) < 12) <| os (si τ 102 ((x : Int).toNat) v) fun s19 => oc (0 ≤ gi s19 86 41 ∧ gi s19 86 41 < 2) <| oc (0 ≤ gi s19 86 41 ∧ gi s19 86 41 < 2) <| os (si s19 91 ((gi s19 86 41).toNat) (iw ((gi s19 91 ((gi s19 86 41).toNat)) + 1))) fun s23 => some (0, s23)) fun _ τ' => EqP (PO b x) τ τ' ∧ τ' = si (si τ 102 x v) 91 b (iw (gi τ 91 b + 1)) := by
  have e1 : gi (si τ 102 x v) 86 41 = b := by rw [gi_ne_r _ _ _ _ (by omega)]; exact h41
  have e2 : gi (si τ 102 x v) 91 b = gi τ 91 b := by rw [gi_ne_r _ _ _ _ (by omega)]
  refine wp_oc (by omega) (wp_os ?_)
  simp only [Int.toNat_natCast, e1, e2]
  exact wp_oc (by omega) (wp_oc (by omega) (wp_os (wp_some ⟨EqP.si (EqP.si (EqP.rf _ _) _ _ _ (by omega)) _ _ _ (by omega), rfl⟩)))
theorem x_soul2B (hb : b < 2) (x : Nat) (hx : x < 12) (h41 : gi τ 86 41 = b) (hbad : gi τ 86 4 ≠ 0) (v : Int) : Wp (oc (0 ≤ (x : Int) ∧ (x : Int) < 12) <| os (si τ 101 ((x : Int).toNat) v) fun s15 => ob (f_Mo_after 495673373300 0 9 s15) fun r17 s17 => oc (0 ≤ (x : Int) ∧ (x : Int) < 12) <| os (si s17 102 ((x : Int).toNat) r17) fun s19 => oc (0 ≤ gi s19 86 41 ∧ gi s19 86 41 < 2) <| oc (0 ≤ gi s19 86 41 ∧ gi s19 86 41 < 2) <| os (si s19 91 ((gi s19 86 41).toNat) (iw ((gi s19 91 ((gi s19 86 41).toNat)) + 1))) fun s23 => some (0, s23)) fun _ τ' => EqP (PO b x) τ τ' := by
  refine wp_oc (by omega) (wp_os ?_)
  try simp only [Int.toNat_natCast]
  have hE : EqP (PO b x) τ (si τ 101 x v) := EqP.si (EqP.rf _ _) _ _ _ (by omega)
  have e1 : gi (si τ 101 x v) 86 41 = b := by rw [gi_ne_r _ _ _ _ (by omega)]; exact h41
  have e4 : gi (si τ 101 x v) 86 4 ≠ 0 := by rw [gi_ne_r _ _ _ _ (by omega)]; exact hbad
  have h3 := x_soul3W hb x hx e1 0
  try simp only [Int.toNat_natCast] at h3
  exact wp_eq (x_afterB e4 _ _ _) (wp_mono h3 (fun _ τ' z => hE.tr z.1))
theorem LR.soul (hu : u = 2 ∨ u = 22) (h : LR u b σ τ P W S M t0 t1 c) (h8 : S < 6) {σ' τ' : SS} (hE : EqP (fun r k => r = u ∧ k = 9) σ σ') (hE' : EqP (fun r k => r = 91 ∧ k = b) τ τ') (c0 : gi σ' u 9 = ((S + 1 : Nat) : Int)) (m0 : gi τ' 91 b = ((S + 1 : Nat) : Int)) (a : (gi τ 101 (6 * b + S) = gi σ (u + 9) (2 * S) ∧ 0 ≤ gi σ (u + 9) (2 * S) ∧ gi σ (u + 9) (2 * S) ≤ 9) ∧ (gi τ 102 (6 * b + S) = gi σ (u + 9) (2 * S + 1) ∧ 0 ≤ gi σ (u + 9) (2 * S + 1) ∧ gi σ (u + 9) (2 * S + 1) ≤ 9) ∧ NR (gj σ (u + 8) S) (gj τ 111 (6 * b + S))) : LR u b σ' τ' P W (S + 1) M t0 t1 c := by
  obtain ⟨hp, hw, ⟨p1, p2, p3, p4⟩, hm, hd, hr⟩ := h
  refine ⟨hp.cg (fun r k z => hE r k (by omega)) (fun r k z => hE' r k (by omega)), hw.cg (fun r k z => hE.i r k (by omega)) (fun r k z => hE'.i r k (by omega)) (Nat.le_refl _), ⟨by omega, c0, m0, fun i hi => ?_⟩, hm.cg (fun r k z => hE r k (by omega)) (fun r k z => hE' r k (by omega)), hd.cg (fun r k z => hE.i r k (by omega)) (fun r k z => hE'.i r k (by omega)), hr.cg (fun r k z => hE.i r k (by omega)) (fun r k z => hE'.i r k (by omega))⟩
  rw [hE.i (u + 9) (2 * i) (by omega), hE.i (u + 9) (2 * i + 1) (by omega), hE.j (u + 8) i (by omega), hE'.i 101 _ (by omega), hE'.i 102 _ (by omega), hE'.j 111 _ (by omega)]
  by_cases h1 : i = S
  · rw [h1]; exact a
  · exact p4 i (by omega)
theorem g_soul (hu : u = 2 ∨ u = 22) (hb : b < 2) (h : GS u b B N σ0 τ0 σ τ k p n) (hL : LR u b σ τ P W S M t0 t1 c) (h8 : S < 6) : W2 (f_Re_readSoul u σ) (ob (f_Mo_goOn τ) fun _ s => f_Mo_readSoul s) fun r σ' _ τ' => LO u b B N σ0 τ0 n r σ' τ' := by
  have hs0 := hL.2.2.1.2.1
  have i1 : iw (2 * (S : Int)) = ((2 * S : Nat) : Int) := by rw [iwc (by omega) (by omega)]; omega
  have i2 : iw (((2 * S : Nat) : Int) + 1) = ((2 * S + 1 : Nat) : Int) := by rw [iwc (by omega) (by omega)]; omega
  unfold f_Re_readSoul
  rw [hs0]
  refine w2_l (fun _ z => wp_ol (wp_f (by omega) (wp_t (by omega) z))) ?_
  simp only [i1, i2]
  refine w2_call (g_move hu h) ?_
  rintro _ σ1 _ τ1 ⟨k1, p1, n1, hG1, hp1, hE1, hE1'⟩
  have hL1 := hL.prim hu (hE1.mo (fun r k z => Or.inl z)) hE1'
  have h41 := hG1.2.2.2.2
  have hm0 := hL1.2.2.1.2.2.1
  have hpn1 := hG1.k2.2.2.2.2.2
  have e8 : iw (6 * (b : Int)) = ((6 * b : Nat) : Int) := by rw [iwc (by omega) (by omega)]; omega
  have e9 : iw (((6 * b : Nat) : Int) + (S : Int)) = ((6 * b + S : Nat) : Int) := by rw [iwc (by omega) (by omega)]; omega
  unfold f_Mo_readSoul
  rw [h41]
  try simp only [Int.toNat_natCast]
  rw [hm0, e8, e9]
  refine w2_r (fun _ z => wp_oc (by omega) (wp_ol (wp_oc (by omega) z))) ?_
  refine w2_call2 (g_newName hu hG1 (u + 8) 111 (6 * b) S (by rcases hu with rfl | rfl <;> exact h8) (by omega) (by show _ ≤ 12; omega) (by omega) (fun i hi => (hL1.2.2.1.2.2.2 i hi).2.2)) ?_
  rintro r σ2 v τ2 (⟨rfl, hnr, k2, p2, n2, hG2, hp2, hE2, hE2'⟩ | ⟨rfl, hB⟩)
  · have hL2 : LR u b σ2 τ2 P W S M t0 t1 c := hL1.cg (fun r k z => hE2 r k (by omega)) (fun r k z => hE2' r k (by omega))
    have hpn2 := hG2.k2.2.2.2.2.2
    refine w2_l (fun _ z => wp_f (by decide) z) (w2_r (fun _ z => wp_oc (by omega) (wp_os z)) ?_)
    try simp only [Int.toNat_natCast]
    have hEm : EqP (fun r k => r = 111 ∧ k = 6 * b + S) τ2 (sj τ2 111 (6 * b + S) v) := EqP.sj (EqP.rf _ _) _ _ _ (by omega)
    have hG3 := hG2.wr (P := fun _ _ => False) (EqP.rf _ _) hEm (fun r k z => z.elim) (fun r k z => ⟨by first | exact pmA (by omega) | exact pmB (by omega) | exact pmC (by omega) | exact pmD (by omega) | exact pmE (by omega) | exact pmF (by omega) | exact pmG (by omega) | exact pmH (by omega) | exact pmI (by omega) | (rcases z with z | z <;> first | exact pmA (by omega) | exact pmB (by omega) | exact pmC (by omega) | exact pmD (by omega) | exact pmE (by omega) | exact pmF (by omega) | exact pmG (by omega) | exact pmH (by omega) | exact pmI (by omega)) | (rcases z with z | z | z <;> first | exact pmA (by omega) | exact pmB (by omega) | exact pmC (by omega) | exact pmD (by omega) | exact pmE (by omega) | exact pmF (by omega) | exact pmG (by omega) | exact pmH (by omega) | exact pmI (by omega)), by omega⟩)
    have hL3 : LR u b σ2 (sj τ2 111 (6 * b + S) v) P W S M t0 t1 c := hL2.cg (fun r k z => ⟨rfl, rfl⟩) (fun r k z => hEm r k (by omega))
    have cn : NR (gj σ2 (u + 8) S) (gj (sj τ2 111 (6 * b + S) v) 111 (6 * b + S)) := by rw [gj_sj_same]; exact hnr
    generalize sj τ2 111 (6 * b + S) v = τ3 at hEm hG3 hL3 cn ⊢
    refine w2_call (g_behind hu hG3 7 (by omega) 0 9 rfl rfl) ?_
    rintro r σ4 w τ4 (⟨rfl, hk, hw, w1, w2, k4, p4, n4, hG4, hp4, hE4, hE4'⟩ | ⟨rfl, hB⟩)
    · have hL4 := hL3.prim hu hE4 hE4'
      have hpn4 := hG4.k2.2.2.2.2.2
      refine w2_l (fun _ z => wp_f (by decide) (wp_oc (by omega) (wp_os z))) (w2_r (fun _ z => wp_oc (by omega) (wp_os z)) ?_)
      try simp only [Int.toNat_natCast]
      rw [hw]
      have hEc5 : EqP (fun r k => r = u + 9 ∧ k = 2 * S) σ4 (si σ4 (u + 9) (2 * S) w) := EqP.si (EqP.rf _ _) _ _ _ (by omega)
      have hEm5 : EqP (fun r k => r = 101 ∧ k = 6 * b + S) τ4 (si τ4 101 (6 * b + S) w) := EqP.si (EqP.rf _ _) _ _ _ (by omega)
      have hG5 := hG4.wr hEc5 hEm5 (fun r k z => by omega) (fun r k z => ⟨by first | exact pmA (by omega) | exact pmB (by omega) | exact pmC (by omega) | exact pmD (by omega) | exact pmE (by omega) | exact pmF (by omega) | exact pmG (by omega) | exact pmH (by omega) | exact pmI (by omega) | (rcases z with z | z <;> first | exact pmA (by omega) | exact pmB (by omega) | exact pmC (by omega) | exact pmD (by omega) | exact pmE (by omega) | exact pmF (by omega) | exact pmG (by omega) | exact pmH (by omega) | exact pmI (by omega)) | (rcases z with z | z | z <;> first | exact pmA (by omega) | exact pmB (by omega) | exact pmC (by omega) | exact pmD (by omega) | exact pmE (by omega) | exact pmF (by omega) | exact pmG (by omega) | exact pmH (by omega) | exact pmI (by omega)), by omega⟩)
      have hL5 := hL4.cg (fun r k z => hEc5 r k (by omega)) (fun r k z => hEm5 r k (by omega))
      have c5 : gi (si σ4 (u + 9) (2 * S) w) (u + 9) (2 * S) = w := gi_same _ _ _ _
      have m5 : gi (si τ4 101 (6 * b + S) w) 101 (6 * b + S) = w := gi_same _ _ _ _
      have cn5 : NR (gj (si σ4 (u + 9) (2 * S) w) (u + 8) S) (gj (si τ4 101 (6 * b + S) w) 111 (6 * b + S)) := by rw [gj_si, gj_si, hE4.j _ _ (by omega), hE4'.j _ _ (by omega)]; exact cn
      generalize si σ4 (u + 9) (2 * S) w = σ5 at hEc5 hG5 hL5 c5 cn5 ⊢
      generalize si τ4 101 (6 * b + S) w = τ5 at hEm5 hG5 hL5 m5 cn5 ⊢
      refine w2_call (g_behind hu hG5 8 (by omega) 0 9 rfl rfl) ?_
      rintro r σ6 x τ6 (⟨rfl, hk, hx, x1, x2, k6, p6, n6, hG6, hp6, hE6, hE6'⟩ | ⟨rfl, hB⟩)
      · have hL6 := hL5.prim hu hE6 hE6'
        obtain ⟨τ7, e7, hE7, h7⟩ : ∃ τ7, (oc (0 ≤ ((6 * b + S : Nat) : Int) ∧ ((6 * b + S : Nat) : Int) < 12) <| os (si τ6 102 (((6 * b + S : Nat) : Int).toNat) x) fun s19 => oc (0 ≤ gi s19 86 41 ∧ gi s19 86 41 < 2) <| oc (0 ≤ gi s19 86 41 ∧ gi s19 86 41 < 2) <| os (si s19 91 ((gi s19 86 41).toNat) (iw ((gi s19 91 ((gi s19 86 41).toNat)) + 1))) fun s23 => some (0, s23)) = some (0, τ7) ∧ EqP (PO b (6 * b + S)) τ6 τ7 ∧ τ7 = si (si τ6 102 (6 * b + S) x) 91 b (iw (gi τ6 91 b + 1)) := by
          have e1 : gi (si τ6 102 (6 * b + S) x) 86 41 = b := by rw [gi_ne_r _ _ _ _ (by omega)]; exact hG6.2.2.2.2
          have e2 : gi (si τ6 102 (6 * b + S) x) 91 b = gi τ6 91 b := by rw [gi_ne_r _ _ _ _ (by omega)]
          refine ⟨si (si τ6 102 (6 * b + S) x) 91 b (iw (gi τ6 91 b + 1)), ?_, EqP.si (EqP.si (EqP.rf _ _) _ _ _ (by omega)) _ _ _ (by omega), rfl⟩
          rw [oc_pos (by omega), os_eq, Int.toNat_natCast, e1, oc_pos (by omega), oc_pos (by omega), os_eq, Int.toNat_natCast, e2]
        simp only [Int.toNat_natCast] at e7
        rw [e7]
        have e91 : gi τ6 91 b = S := hL6.2.2.1.2.2.1
        have e9s : gi σ6 u 9 = S := hL6.2.2.1.2.1
        rw [e91, iwc (by omega) (by omega), show (S : Int) + 1 = ((S + 1 : Nat) : Int) by omega] at h7
        refine w2_l (fun _ z => wp_f (by decide) (wp_oc (by omega) (wp_os (wp_os z)))) ?_
        try simp only [Int.toNat_natCast]
        rw [hx, gi_ne_r _ _ _ _ (show u ≠ u + 9 by omega), e9s, iwc (by omega) (by omega), show (S : Int) + 1 = ((S + 1 : Nat) : Int) by omega, h7]
        have hE8 : EqP (fun r k => r = u + 9 ∧ k = 2 * S + 1) σ6 (si σ6 (u + 9) (2 * S + 1) x) := EqP.si (EqP.rf _ _) _ _ _ (by omega)
        have hE8' : EqP (fun r k => r = 102 ∧ k = 6 * b + S) τ6 (si τ6 102 (6 * b + S) x) := EqP.si (EqP.rf _ _) _ _ _ (by omega)
        have hG8 := hG6.wr hE8 hE8' (fun r k z => by omega) (fun r k z => ⟨by first | exact pmA (by omega) | exact pmB (by omega) | exact pmC (by omega) | exact pmD (by omega) | exact pmE (by omega) | exact pmF (by omega) | exact pmG (by omega) | exact pmH (by omega) | exact pmI (by omega) | (rcases z with z | z <;> first | exact pmA (by omega) | exact pmB (by omega) | exact pmC (by omega) | exact pmD (by omega) | exact pmE (by omega) | exact pmF (by omega) | exact pmG (by omega) | exact pmH (by omega) | exact pmI (by omega)) | (rcases z with z | z | z <;> first | exact pmA (by omega) | exact pmB (by omega) | exact pmC (by omega) | exact pmD (by omega) | exact pmE (by omega) | exact pmF (by omega) | exact pmG (by omega) | exact pmH (by omega) | exact pmI (by omega)), by omega⟩)
        have hL8 := hL6.cg (fun r k z => hE8 r k (by omega)) (fun r k z => hE8' r k (by omega))
        have hE9 : EqP (fun r k => r = u ∧ k = 9) (si σ6 (u + 9) (2 * S + 1) x) (si (si σ6 (u + 9) (2 * S + 1) x) u 9 ((S + 1 : Nat) : Int)) := EqP.si (EqP.rf _ _) _ _ _ (by omega)
        have hE9' : EqP (fun r k => r = 91 ∧ k = b) (si τ6 102 (6 * b + S) x) (si (si τ6 102 (6 * b + S) x) 91 b ((S + 1 : Nat) : Int)) := EqP.si (EqP.rf _ _) _ _ _ (by omega)
        have hG9 := hG8.wr hE9 hE9' (fun r k z => by omega) (fun r k z => ⟨by first | exact pmA (by omega) | exact pmB (by omega) | exact pmC (by omega) | exact pmD (by omega) | exact pmE (by omega) | exact pmF (by omega) | exact pmG (by omega) | exact pmH (by omega) | exact pmI (by omega) | (rcases z with z | z <;> first | exact pmA (by omega) | exact pmB (by omega) | exact pmC (by omega) | exact pmD (by omega) | exact pmE (by omega) | exact pmF (by omega) | exact pmG (by omega) | exact pmH (by omega) | exact pmI (by omega)) | (rcases z with z | z | z <;> first | exact pmA (by omega) | exact pmB (by omega) | exact pmC (by omega) | exact pmD (by omega) | exact pmE (by omega) | exact pmF (by omega) | exact pmG (by omega) | exact pmH (by omega) | exact pmI (by omega)), by omega⟩)
        refine w2_d (Or.inl ⟨rfl, k6, p6, n6, P, W, S + 1, M, t0, t1, c, hG9, by omega, hL8.soul hu h8 hE9 hE9' (gi_same _ _ _ _) (gi_same _ _ _ _) ⟨?_, ?_, ?_⟩⟩)
        · rw [gi_ne_k _ _ _ _ (show 2 * S ≠ 2 * S + 1 by omega), gi_ne_r _ _ _ _ (show 101 ≠ 102 by omega), hE6.i _ _ (by omega), hE6'.i _ _ (by omega), c5, m5]
          exact ⟨rfl, w1, w2⟩
        · rw [gi_same, gi_same]
          exact ⟨rfl, x1, x2⟩
        · rw [gj_si, gj_si, hE6.j _ _ (by omega), hE6'.j _ _ (by omega)]; exact cn5
      · refine w2_l (fun _ => wp_t rfl) (w2_dl ?_)
        exact wp_mono (x_soul3W hb (6 * b + S) (by omega) hB.2.2.2.1 x) (fun _ τ' hE => LO.bad (hB.wr hE.1 (fun r k z => ⟨by first | exact pmA (by omega) | exact pmB (by omega) | exact pmC (by omega) | exact pmD (by omega) | exact pmE (by omega) | exact pmF (by omega) | exact pmG (by omega) | exact pmH (by omega) | exact pmI (by omega) | (rcases z with z | z <;> first | exact pmA (by omega) | exact pmB (by omega) | exact pmC (by omega) | exact pmD (by omega) | exact pmE (by omega) | exact pmF (by omega) | exact pmG (by omega) | exact pmH (by omega) | exact pmI (by omega)) | (rcases z with z | z | z <;> first | exact pmA (by omega) | exact pmB (by omega) | exact pmC (by omega) | exact pmD (by omega) | exact pmE (by omega) | exact pmF (by omega) | exact pmG (by omega) | exact pmH (by omega) | exact pmI (by omega)), by omega⟩)))
    · refine w2_l (fun _ => wp_t rfl) (w2_dl ?_)
      exact wp_mono (x_soul2B hb (6 * b + S) (by omega) hB.2.2.2.1 hB.1.1 w) (fun _ τ' hE => LO.bad (hB.wr hE (fun r k z => ⟨by first | exact pmA (by omega) | exact pmB (by omega) | exact pmC (by omega) | exact pmD (by omega) | exact pmE (by omega) | exact pmF (by omega) | exact pmG (by omega) | exact pmH (by omega) | exact pmI (by omega) | (rcases z with z | z <;> first | exact pmA (by omega) | exact pmB (by omega) | exact pmC (by omega) | exact pmD (by omega) | exact pmE (by omega) | exact pmF (by omega) | exact pmG (by omega) | exact pmH (by omega) | exact pmI (by omega)) | (rcases z with z | z | z <;> first | exact pmA (by omega) | exact pmB (by omega) | exact pmC (by omega) | exact pmD (by omega) | exact pmE (by omega) | exact pmF (by omega) | exact pmG (by omega) | exact pmH (by omega) | exact pmI (by omega)), by omega⟩)))
  · refine w2_l (fun _ => wp_t rfl) (w2_dl (wp_oc (by omega) (wp_os ?_)))
    try simp only [Int.toNat_natCast]
    have hB2 := hB.wr (P' := fun r k => r = 111 ∧ k = 6 * b + S) (EqP.sj (EqP.rf _ _) 111 (6 * b + S) v (by omega)) (fun r k z => ⟨by first | exact pmA (by omega) | exact pmB (by omega) | exact pmC (by omega) | exact pmD (by omega) | exact pmE (by omega) | exact pmF (by omega) | exact pmG (by omega) | exact pmH (by omega) | exact pmI (by omega) | (rcases z with z | z <;> first | exact pmA (by omega) | exact pmB (by omega) | exact pmC (by omega) | exact pmD (by omega) | exact pmE (by omega) | exact pmF (by omega) | exact pmG (by omega) | exact pmH (by omega) | exact pmI (by omega)) | (rcases z with z | z | z <;> first | exact pmA (by omega) | exact pmB (by omega) | exact pmC (by omega) | exact pmD (by omega) | exact pmE (by omega) | exact pmF (by omega) | exact pmG (by omega) | exact pmH (by omega) | exact pmI (by omega)), by omega⟩)
    refine wp_eq (x_afterB hB2.1.1 _ _ _) ?_
    have h2 := x_soul2B hb (6 * b + S) (by omega) hB2.2.2.2.1 hB2.1.1 0
    try simp only [Int.toNat_natCast] at h2
    exact wp_mono h2 (fun _ τ' hE => LO.bad (hB2.wr hE (fun r k z => ⟨by first | exact pmA (by omega) | exact pmB (by omega) | exact pmC (by omega) | exact pmD (by omega) | exact pmE (by omega) | exact pmF (by omega) | exact pmG (by omega) | exact pmH (by omega) | exact pmI (by omega) | (rcases z with z | z <;> first | exact pmA (by omega) | exact pmB (by omega) | exact pmC (by omega) | exact pmD (by omega) | exact pmE (by omega) | exact pmF (by omega) | exact pmG (by omega) | exact pmH (by omega) | exact pmI (by omega)) | (rcases z with z | z | z <;> first | exact pmA (by omega) | exact pmB (by omega) | exact pmC (by omega) | exact pmD (by omega) | exact pmE (by omega) | exact pmF (by omega) | exact pmG (by omega) | exact pmH (by omega) | exact pmI (by omega)), by omega⟩)))
theorem g_draw (hu : u = 2 ∨ u = 22) (hb : b < 2) (h : GS u b B N σ0 τ0 σ τ k p n) (hL : LR u b σ τ P W S M t0 t1 c) (hk : k = 270) (h0 : gi τ 108 b = 0) {kc : Int → SS → OO} {K : SS → OO} {Q : Int → SS → Int → SS → Prop} (hK : ∀ r σ' τ', LO u b B N σ0 τ0 n r σ' τ' → W2 (kc r σ') (K τ') Q) : W2 (ob (f_Re_readDraw u σ) kc) (ob (f_Mo_goOn τ) fun _ s3 => oc (0 ≤ gi s3 86 41 ∧ gi s3 86 41 < 2) <| os (si s3 108 ((gi s3 86 41).toNat) 1) fun s4 => ob (f_Mo_numeral 0 999 s4) fun r6 s6 => oc (0 ≤ gi s4 86 41 ∧ gi s4 86 41 < 2) <| os (si s6 94 ((gi s4 86 41).toNat) r6) fun s8 => K s8) Q := by
  have hd := hL.2.2.2.2.1
  have h45 : gi σ 42 5 = 0 := by rw [hd.2.2.2.1]; exact h0
  have hEc0 : EqP (fun r k => r = 42 ∧ k = 5) σ (si σ 42 5 1) := EqP.si (EqP.rf _ _) _ _ _ (by omega)
  have hG0 := h.wr (P' := fun _ _ => False) hEc0 (EqP.rf _ _) (fun r k z => by omega) (fun r k z => z.elim)
  unfold f_Re_readDraw f_Re_readNumberBehind f_Re_expect
  rw [if_pos h45, os_eq, if_pos (show gi (si σ 42 5 1) 43 3 = 270 by rw [gi_ne_r _ _ _ _ (by omega)]; rw [h.k2.1]; exact hk), ob_as, ob_as, ob_as]
  have c5 : gi (si σ 42 5 1) 42 5 = 1 := gi_same _ _ _ _
  have c17 : ∀ r k, RdC u P W S M r k → r = 42 ∧ k = 5 ∨ gi (si σ 42 5 1) r k = gi σ r k ∧ gj (si σ 42 5 1) r k = gj σ r k := fun r k _ => by
    by_cases e : r = 42 ∧ k = 5
    · exact Or.inl e
    · exact Or.inr (hEc0 r k e)
  generalize si σ 42 5 1 = σ1 at hEc0 hG0 c5 c17 ⊢
  refine w2_call (g_move hu hG0) ?_
  rintro _ σ2 _ τ2 ⟨k2, p2, n2, hG2, hp2, hE2, hE2'⟩
  have h41 := hG2.2.2.2.2
  rw [ob_eq, if_neg (show ¬ (1 : Int) = 0 by decide), h41]
  try simp only [Int.toNat_natCast]
  refine w2_r (fun _ z => wp_oc (by omega) (wp_os z)) ?_
  have hEm3 : EqP (fun r k => r = 108 ∧ k = b) τ2 (si τ2 108 b 1) := EqP.si (EqP.rf _ _) _ _ _ (by omega)
  have hG3 := hG2.wr (P := fun _ _ => False) (EqP.rf _ _) hEm3 (fun r k z => z.elim) (fun r k z => ⟨by first | exact pmA (by omega) | exact pmB (by omega) | exact pmC (by omega) | exact pmD (by omega) | exact pmE (by omega) | exact pmF (by omega) | exact pmG (by omega) | exact pmH (by omega) | exact pmI (by omega) | (rcases z with z | z <;> first | exact pmA (by omega) | exact pmB (by omega) | exact pmC (by omega) | exact pmD (by omega) | exact pmE (by omega) | exact pmF (by omega) | exact pmG (by omega) | exact pmH (by omega) | exact pmI (by omega)) | (rcases z with z | z | z <;> first | exact pmA (by omega) | exact pmB (by omega) | exact pmC (by omega) | exact pmD (by omega) | exact pmE (by omega) | exact pmF (by omega) | exact pmG (by omega) | exact pmH (by omega) | exact pmI (by omega)), by omega⟩)
  have m3 : gi (si τ2 108 b 1) 108 b = 1 := gi_same _ _ _ _
  have m41 : gi (si τ2 108 b 1) 86 41 = b := by rw [gi_ne_r _ _ _ _ (by omega)]; exact h41
  have hpn2 := hG2.k2.2.2.2.2.2
  rw [m41]
  try simp only [Int.toNat_natCast]
  rw [ob_as]
  generalize si τ2 108 b 1 = τ3 at hEm3 hG3 m3 m41 ⊢
  refine w2_call (g_number hu hG3 0 999) ?_
  rintro r σ4 v τ4 (⟨rfl, hv, v1, v2, k4, p4, n4, hG4, hp4, hE4, hE4'⟩ | ⟨rfl, hB⟩)
  · rw [if_neg (show ¬ (1 : Int) = 0 by decide), ob_eq, if_neg (show ¬ (1 : Int) = 0 by decide), os_eq, ob_eq, hv]
    refine w2_r (fun _ z => wp_oc (by omega) (wp_os z)) ?_
    refine hK 1 _ _ (Or.inl ⟨rfl, k4, p4, n4, P, W, S, M, t0, t1, c, hG4.wr (P := fun r k => r = u ∧ k = 17) (P' := fun r k => r = 94 ∧ k = b) (EqP.si (EqP.rf _ _) u 17 v (by omega)) (EqP.si (EqP.rf _ _) 94 b v (by omega)) (fun r k z => by omega) (fun r k z => ⟨by first | exact pmA (by omega) | exact pmB (by omega) | exact pmC (by omega) | exact pmD (by omega) | exact pmE (by omega) | exact pmF (by omega) | exact pmG (by omega) | exact pmH (by omega) | exact pmI (by omega) | (rcases z with z | z <;> first | exact pmA (by omega) | exact pmB (by omega) | exact pmC (by omega) | exact pmD (by omega) | exact pmE (by omega) | exact pmF (by omega) | exact pmG (by omega) | exact pmH (by omega) | exact pmI (by omega)) | (rcases z with z | z | z <;> first | exact pmA (by omega) | exact pmB (by omega) | exact pmC (by omega) | exact pmD (by omega) | exact pmE (by omega) | exact pmF (by omega) | exact pmG (by omega) | exact pmH (by omega) | exact pmI (by omega)), by omega⟩), by omega, ?_⟩)
    have hEa : EqP (fun r k => r = 43 ∨ r = 42 ∧ (k = 4 ∨ k = 5) ∨ r = u ∧ k = 17) σ (si σ4 u 17 v) := EqP.si (((hEc0.mo (fun r k z => by omega)).tr (hE2.mo (fun r k z => by omega))).tr (hE4.mo (fun r k z => by omega))) _ _ _ (by omega)
    have hEb : EqP (fun r k => r = 86 ∧ 6 ≤ k ∧ k ≤ 10 ∨ (r = 108 ∨ r = 94) ∧ k = b) τ (si τ4 94 b v) := EqP.si (((hE2'.mo (fun r k z => by omega)).tr (hEm3.mo (fun r k z => by omega))).tr (hE4'.mo (fun r k z => by omega))) _ _ _ (by omega)
    obtain ⟨hp, hw, hs, hm, _, hr⟩ := hL
    refine ⟨hp.cg (fun r k z => hEa r k (by omega)) (fun r k z => hEb r k (by omega)), hw.cg (fun r k z => hEa.i r k (by omega)) (fun r k z => hEb.i r k (by omega)) (Nat.le_refl _), hs.cg (fun r k z => hEa r k (by omega)) (fun r k z => hEb r k (by omega)), hm.cg (fun r k z => hEa r k (by omega)) (fun r k z => hEb r k (by omega)), ⟨?_, ?_, ?_, ?_, ?_⟩, hr.cg (fun r k z => hEa.i r k (by omega)) (fun r k z => hEb.i r k (by omega))⟩
    · rw [gi_same, gi_same]
    · rw [gi_same]; exact v1
    · rw [gi_same]; exact v2
    · rw [gi_ne_r _ _ _ _ (by omega), gi_ne_r _ _ _ _ (by omega), hE4.i _ _ (by omega), hE2.i _ _ (by omega), c5, hE4'.i _ _ (by omega), m3]
    · rw [gi_ne_r _ _ _ _ (by omega), hE4'.i _ _ (by omega), m3]; exact Or.inr rfl
  · rw [if_pos rfl, ob_eq, if_pos rfl, ob_eq]
    refine w2_r (fun _ z => wp_oc (by omega) (wp_os z)) ?_
    exact hK 0 _ _ (LO.bad (hB.wr (P' := fun r k => r = 94 ∧ k = b) (EqP.si (EqP.rf _ _) 94 b v (by omega)) (fun r k z => ⟨by first | exact pmA (by omega) | exact pmB (by omega) | exact pmC (by omega) | exact pmD (by omega) | exact pmE (by omega) | exact pmF (by omega) | exact pmG (by omega) | exact pmH (by omega) | exact pmI (by omega) | (rcases z with z | z <;> first | exact pmA (by omega) | exact pmB (by omega) | exact pmC (by omega) | exact pmD (by omega) | exact pmE (by omega) | exact pmF (by omega) | exact pmG (by omega) | exact pmH (by omega) | exact pmI (by omega)) | (rcases z with z | z | z <;> first | exact pmA (by omega) | exact pmB (by omega) | exact pmC (by omega) | exact pmD (by omega) | exact pmE (by omega) | exact pmF (by omega) | exact pmG (by omega) | exact pmH (by omega) | exact pmI (by omega)), by omega⟩)))
end
