/-! a line that tells a way -/
section
variable {u b : Nat} {B : Nat → Int} {N : Nat} {σ0 τ0 σ τ : SS} {k : Int} {p n : Nat} {P W S M t0 t1 c : Nat}
theorem LO.mo {n q : Nat} {r : Int} {σ' τ' : SS} (hq : n ≤ q) (h : LO u b B N σ0 τ0 q r σ' τ') : LO u b B N σ0 τ0 n r σ' τ' := by
  rcases h with ⟨a, k', p', n', P', W', S', M', t0', t1', c', hG, hp, hL⟩ | hB
  · exact Or.inl ⟨a, k', p', n', P', W', S', M', t0', t1', c', hG, by omega, hL⟩
  · exact Or.inr hB
theorem LO.bad {n : Nat} {σ' τ' : SS} (h : BS u b σ0 τ0 σ' τ') : LO u b B N σ0 τ0 n 0 σ' τ' := Or.inr (Or.inl ⟨rfl, h⟩)
theorem x_known62 (s : SS) : j_Mo_known_62 (-1) s = some (0, s) := by unfold j_Mo_known_62; rw [if_neg (by decide)]
theorem g_known (hb : b < 2) (h : GS u b B N σ0 τ0 σ τ k p n) (hu : u = 2 ∨ u = 22) (hL : LR u b σ τ P W S M t0 t1 c) (un : Int) {kc K : Int → SS → OO} {Q : Int → SS → Int → SS → Prop}
    (good : ∀ i : Nat, i < P → (i : Int) ≠ un → W2 (ob (f_To_move (si σ 42 4 i)) fun _ s => kc 1 s) (K i τ) Q)
    (same : ∀ i : Nat, i < P → (i : Int) = un → W2 (ob (f_Re_fail 3 p σ) kc) (K i τ) Q)
    (bad : ∀ σ' τ', BS u b σ0 τ0 σ' τ' → W2 (kc 0 σ') (K 0 τ') Q) : W2 (ob (f_Re_readPlaceName u un σ) kc) (ob (f_Mo_known τ) K) Q := by
  obtain ⟨e3, e4, e6, _, _, _⟩ := h.k2
  have hf := h.2.1.1
  have h41 := h.2.2.2.2
  obtain ⟨q1, q2, q3, q4⟩ := hL.1
  have e8 : iw (8 * (b : Int)) = ((8 * b : Nat) : Int) := by rw [iwc (by omega) (by omega)]; omega
  have hcu : rN (u + 1) = 8 := by rcases hu with rfl | rfl <;> rfl
  unfold f_Re_readPlaceName f_Mo_known
  rw [x_isGoodG hf, ob_eq, if_neg (show ¬ (1 : Int) = 0 by decide), h41, oc_pos (show 0 ≤ (b : Int) ∧ (b : Int) < 2 by omega), e8, Int.toNat_natCast, q3, q2]
  rcases h.1.name with ⟨rfl, h8, hnr⟩ | ⟨hk, h8⟩
  · have e0 : f_Mo_here 110 ((8 * b : Nat) : Int) (P : Int) τ = some (ixF (fun i => gj τ 110 (8 * b + i)) (gj τ 86 10) 0 P, τ) := x_hereN 110 (8 * b) P (by show _ ≤ 16; omega) (by omega) τ h8 P 0 FU (by omega) (by unfold FU; omega)
    have e1 : f_Re_indexOf (u + 1) (P : Int) (gj σ 43 6) σ = some (ixF (gj σ (u + 1)) (gj σ 43 6) 0 P, σ) := x_indexOf (u + 1) P (by omega) (by omega) _ σ P 0 FU (by omega) (by unfold FU; omega)
    have e2 : ixF (gj σ (u + 1)) (gj σ 43 6) 0 P = ixF (fun i => gj τ 110 (8 * b + i)) (gj τ 86 10) 0 P := ixF_cg P 0 (fun i _ hi => NR_eq (q4 i (by omega)).2.2 hnr)
    rw [e2] at e1
    have hr := ixF_rng (f := fun i => gj τ 110 (8 * b + i)) (v := gj τ 86 10) P 0
    generalize ixF (fun i => gj τ 110 (8 * b + i)) (gj τ 86 10) 0 P = x at e0 e1 hr
    rw [if_pos e3, e1, ob_eq, e0, ob_eq, if_pos h8, e4, e6]
    by_cases hx : x = -1
    · subst hx
      rw [if_pos rfl, if_neg (show ¬ (0 : Int) ≤ -1 by decide), ob_as, ob_as]
      refine w2_call (g_fail h 5 (by omega) p) ?_
      rintro r σ' r' τ' ⟨rfl, k2⟩
      rw [x_known62, ob_eq, ob_eq]
      exact bad σ' τ' k2
    · obtain ⟨i, rfl⟩ : ∃ i : Nat, x = i := ⟨x.toNat, by omega⟩
      rw [if_neg hx, if_pos (show (0 : Int) ≤ (i : Int) by omega)]
      have e5 : j_Mo_known_62 (i : Int) τ = some ((i : Int), τ) := by unfold j_Mo_known_62; rw [if_pos (by omega)]
      rw [e5, ob_eq]
      by_cases hun : (i : Int) = un
      · rw [if_pos hun, ob_as]
        have := same i (by omega) hun
        exact this
      · rw [if_neg hun, os_eq, ob_as]
        exact good i (by omega) hun
  · have e0 : f_Mo_here 110 ((8 * b : Nat) : Int) (P : Int) τ = some (-1, τ) := x_here0 110 (8 * b) P (by omega) τ h8 P 0 FU (by omega) (by unfold FU; omega)
    rw [if_neg (show ¬ gi σ 43 3 = 3 by omega), e0, ob_eq, if_neg h8, ob_as, ob_as]
    refine w2_call (g_refuse h) ?_
    rintro r σ' r' τ' ⟨rfl, k2⟩
    rw [x_known62, ob_eq, ob_eq]
    exact bad σ' τ' k2
/-- a fault's rest of the line on the reference's side -/
abbrev PW (b x : Nat) : Nat → Nat → Prop := fun r k => 97 ≤ r ∧ r ≤ 100 ∧ k = x ∨ r = 90 ∧ k = b
theorem x_way153W (hb : b < 2) (x : Nat) (h41 : gi τ 86 41 = b) : Wp (j_Mo_readWay_153 τ) fun _ τ' => EqP (PW b x) τ τ' := by
  unfold j_Mo_readWay_153
  rw [h41]
  try simp only [Int.toNat_natCast]
  exact wp_oc (by omega) (wp_oc (by omega) (wp_os (wp_some (EqP.si (EqP.rf _ _) _ _ _ (by omega)))))
theorem x_way102B (hb : b < 2) (x : Nat) (hx : x < 28) (h41 : gi τ 86 41 = b) (hbad : gi τ 86 4 ≠ 0) : Wp (j_Mo_readWay_102 (x : Int) τ) fun _ τ' => EqP (PW b x) τ τ' := by
  unfold j_Mo_readWay_102
  refine wp_eq (x_numeralB hbad 1 40) (wp_oc (by omega) (wp_os (wp_oc (by omega) (wp_os ?_))))
  try simp only [Int.toNat_natCast]
  have hE : EqP (PW b x) τ (si (si τ 99 x 1) 100 x 0) := EqP.si (EqP.si (EqP.rf _ _) _ _ _ (by omega)) _ _ _ (by omega)
  have e41 : gi (si (si τ 99 x 1) 100 x 0) 86 41 = b := by rw [hE.i _ _ (by omega)]; exact h41
  have e4 : gi (si (si τ 99 x 1) 100 x 0) 86 4 ≠ 0 := by rw [hE.i _ _ (by omega)]; exact hbad
  refine wp_eq (x_isGoodB e4) (wp_t rfl (wp_mono (x_way153W hb x e41) (fun _ τ' hE2 => hE.tr hE2)))
theorem x_way91B (hb : b < 2) (x : Nat) (hx : x < 28) (h41 : gi τ 86 41 = b) (hbad : gi τ 86 4 ≠ 0) : Wp (j_Mo_readWay_91 (x : Int) τ) fun _ τ' => EqP (PW b x) τ τ' := by
  unfold j_Mo_readWay_91
  exact wp_eq (x_isGoodB hbad) (wp_t rfl (x_way102B hb x hx h41 hbad))
theorem x_way98B (hb : b < 2) (x : Nat) (hx : x < 28) (h41 : gi τ 86 41 = b) (hbad : gi τ 86 4 ≠ 0) (v : Int) : Wp (oc (0 ≤ (x : Int) ∧ (x : Int) < 28) <| os (si τ 98 ((x : Int).toNat) v) fun s6 => ob (f_Mo_isGood s6) fun r7 s7 => if r7 = 0 then (j_Mo_readWay_91 (x : Int) s7) else (oc (0 ≤ (x : Int) ∧ (x : Int) < 28) <| oc (0 ≤ (x : Int) ∧ (x : Int) < 28) <| if (gi s7 98 ((x : Int).toNat)) = (gi s7 97 ((x : Int).toNat)) then (ob (f_Mo_fails 3 (gi s7 86 6) s7) fun r14 s14 => j_Mo_readWay_91 (x : Int) s14) else (j_Mo_readWay_91 (x : Int) s7))) fun _ τ' => EqP (PW b x) τ τ' := by
  refine wp_oc (by omega) (wp_os ?_)
  try simp only [Int.toNat_natCast]
  have hE : EqP (PW b x) τ (si τ 98 x v) := EqP.si (EqP.rf _ _) _ _ _ (by omega)
  have e4 : gi (si τ 98 x v) 86 4 ≠ 0 := by rw [hE.i _ _ (by omega)]; exact hbad
  refine wp_eq (x_isGoodB e4) (wp_t rfl (wp_mono (x_way91B hb x hx (by rw [hE.i _ _ (by omega)]; exact h41) e4) (fun _ τ' hE2 => hE.tr hE2)))
theorem x_way39B (hb : b < 2) (x : Nat) (hx : x < 28) (h41 : gi τ 86 41 = b) (hbad : gi τ 86 4 ≠ 0) : Wp (j_Mo_readWay_39 (x : Int) τ) fun _ τ' => EqP (PW b x) τ τ' := by
  obtain ⟨z, hz⟩ := x_isWordZ 29807 τ
  unfold j_Mo_readWay_39
  exact wp_eq hz (wp_eq (x_mustB hbad z) (wp_eq (x_knownB hbad) (x_way98B hb x hx h41 hbad 0)))
/-- the sight -/
theorem g_sight (hu : u = 2 ∨ u = 22) (h : GS u b B N σ0 τ0 σ τ k p n) : W2 (f_Re_readSight σ) (f_Mo_signedNumber τ) fun r σ' v τ' => (r = 1 ∧ gi σ' 42 4 = v ∧ -9 ≤ v ∧ v ≤ 9 ∧ ∃ k' p' n', GS u b B N σ0 τ0 σ' τ' k' p' n' ∧ p ≤ p' ∧ EqP PS σ σ' ∧ EqP PTm τ τ') ∨ (r = 0 ∧ BS u b σ0 τ0 σ' τ') := by
  have core : ∀ (σ1 τ1 : SS) (k1 : Int) (p1 n1 : Nat) (z : Int), GS u b B N σ0 τ0 σ1 τ1 k1 p1 n1 → p ≤ p1 → EqP PS σ σ1 → EqP PTm τ τ1 → W2 (j_Re_readSight_37 (p : Int) z σ1) (j_Mo_signedNumber_20 (p : Int) z τ1) fun r σ' v τ' => (r = 1 ∧ gi σ' 42 4 = v ∧ -9 ≤ v ∧ v ≤ 9 ∧ ∃ k' p' n', GS u b B N σ0 τ0 σ' τ' k' p' n' ∧ p ≤ p' ∧ EqP PS σ σ' ∧ EqP PTm τ τ') ∨ (r = 0 ∧ BS u b σ0 τ0 σ' τ') := by
    intro σ1 τ1 k1 p1 n1 z hG hpp hE hE'
    obtain ⟨e3, e4, e6, _, _, e11⟩ := hG.k2
    have hf := hG.2.1.1
    have bad50 : ∀ s, gi s 86 4 ≠ 0 → ∃ v, j_Mo_signedNumber_50 z s = some (v, s) := by
      intro s hs
      unfold j_Mo_signedNumber_50 j_Mo_signedNumber_66
      rw [x_isGoodB hs]
      by_cases hz : z = 0
      · rw [if_pos hz]; exact ⟨_, by rw [ob_eq, if_pos rfl]⟩
      · rw [if_neg hz]; exact ⟨_, by rw [ob_eq, if_pos rfl]⟩
    have h9 := hG.1.2.2.2.2.2.2.2.2
    unfold j_Re_readSight_37 j_Mo_signedNumber_20
    by_cases hk : k1 = 2
    · have hnum : gi τ1 86 8 = 4 ∧ gi σ1 43 5 = gi τ1 86 9 ∧ 0 ≤ gi τ1 86 9 := by
        rcases h9 with ⟨e, _⟩ | ⟨_, ⟨e, _⟩ | ⟨e, j1, j2, j3, _⟩ | ⟨e, _⟩ | ⟨e, _⟩ | ⟨i, hi, e, _⟩⟩
        · omega
        · omega
        · exact ⟨j1, j2, j3⟩
        · omega
        · omega
        · omega
      rw [hnum.2.1]
      refine w2_l (fun _ => wp_t (by omega)) (w2_r (fun _ => wp_t hnum.1) ?_)
      by_cases hhi : gi τ1 86 9 ≤ 9
      · refine w2_l (fun _ => wp_t hhi) (w2_r (fun _ => wp_t hhi) ?_)
        have gofin : ∀ v : Int, -9 ≤ v → v ≤ 9 → W2 (j_Re_readSight_95 v σ1) (j_Mo_signedNumber_66 v τ1) fun r σ' v τ' => (r = 1 ∧ gi σ' 42 4 = v ∧ -9 ≤ v ∧ v ≤ 9 ∧ ∃ k' p' n', GS u b B N σ0 τ0 σ' τ' k' p' n' ∧ p ≤ p' ∧ EqP PS σ σ' ∧ EqP PTm τ τ') ∨ (r = 0 ∧ BS u b σ0 τ0 σ' τ') := by
          intro v v1 v2
          unfold j_Re_readSight_95 j_Mo_signedNumber_66
          have hG4 := hG.wr (P := fun r k => r = 42 ∧ k = 4) (P' := fun _ _ => False) (EqP.si (EqP.rf _ _) 42 4 v (by omega)) (EqP.rf _ _) (fun r k z => by omega) (fun r k z => z.elim)
          refine w2_l (fun _ => wp_os) (w2_r (fun _ z => wp_eq (x_isGoodG hf) (wp_f (by decide) z)) ?_)
          refine w2_call (g_move hu hG4) ?_
          rintro _ σ2 _ τ2 ⟨k2, p2, n2, hG2, hp2, hE2, hE2'⟩
          refine w2_d (Or.inl ⟨rfl, ?_, v1, v2, k2, p2, n2, hG2, by omega, ?_, hE'.tr hE2'⟩)
          · rw [hE2.i _ _ (by omega), gi_same]
          · have : EqP PS σ (si σ1 42 4 v) := EqP.si hE _ _ _ (by omega)
            exact this.tr (hE2.mo (fun r k z => by omega))
        unfold j_Mo_signedNumber_50
        by_cases hz : z = 0
        · exact w2_l (fun _ => wp_t hz) (w2_r (fun _ => wp_t hz) (gofin _ (by omega) (by omega)))
        · refine w2_l (fun _ => wp_f hz) (w2_r (fun _ => wp_f hz) ?_)
          rw [iwc (by omega) (by omega)]
          exact gofin _ (by omega) (by omega)
      · refine w2_l (fun _ => wp_f hhi) (w2_r (fun _ => wp_f hhi) ?_)
        refine w2_call (g_fail hG 4 (by omega) p) ?_
        rintro r σ' r' τ' ⟨j1, j2⟩
        obtain ⟨v, hv⟩ := bad50 τ' j2.1.1
        rw [hv]
        exact w2_d (Or.inr ⟨j1, j2⟩)
    · have hnum : gi τ1 86 8 ≠ 4 := by
        rcases h9 with ⟨e, _⟩ | ⟨_, ⟨e, _⟩ | ⟨e, j1, j2, _⟩ | ⟨e, _⟩ | ⟨e, _⟩ | ⟨i, hi, e, _⟩⟩ <;> omega
      refine w2_l (fun _ => wp_f (by omega)) (w2_r (fun _ => wp_f hnum) ?_)
      refine w2_call (g_refuse hG) ?_
      rintro r σ' r' τ' ⟨j1, j2⟩
      obtain ⟨v, hv⟩ := bad50 τ' j2.1.1
      rw [hv]
      exact w2_d (Or.inr ⟨j1, j2⟩)
  obtain ⟨e3, e4, e6, _, _, e11⟩ := h.k2
  have es := x_isSignHere h.1 45 (by omega)
  unfold f_Re_readSight f_Mo_signedNumber j_Re_readSight_25
  rw [e4, e6]
  refine w2_l (fun _ => wp_ol) (w2_r (fun _ => wp_ol) ?_)
  by_cases hk : k = 45
  · rw [if_pos hk] at es
    refine w2_l (fun _ z => wp_t (by omega) (wp_f (by decide) z)) (w2_r (fun _ z => wp_eq es (wp_f (by decide) z)) ?_)
    refine w2_call (g_move hu h) ?_
    rintro _ σ2 _ τ2 ⟨k2, p2, n2, hG2, hp2, hE2, hE2'⟩
    exact core σ2 τ2 k2 p2 n2 1 hG2 (by omega) (hE2.mo (fun r k z => Or.inl z)) hE2'
  · rw [if_neg hk] at es
    refine w2_l (fun _ z => wp_f (by omega) (wp_t rfl z)) (w2_r (fun _ z => wp_eq es (wp_t rfl z)) ?_)
    exact core σ τ k p n 0 h (Nat.le_refl _) (EqP.rf _ _) (EqP.rf _ _)
theorem LR.way (hu : u = 2 ∨ u = 22) (h : LR u b σ τ P W S M t0 t1 c) (h8 : W < 14) {σ' τ' : SS} (hE : EqP (fun r k => r = u ∧ k = 4) σ σ') (hE' : EqP (fun r k => r = 90 ∧ k = b) τ τ') (c0 : gi σ' u 4 = ((W + 1 : Nat) : Int)) (m0 : gi τ' 90 b = ((W + 1 : Nat) : Int)) (a : (gi τ 97 (14 * b + W) = gi σ (u + 4) W ∧ 0 ≤ gi σ (u + 4) W ∧ gi σ (u + 4) W < P) ∧ (gi τ 98 (14 * b + W) = gi σ (u + 5) W ∧ 0 ≤ gi σ (u + 5) W ∧ gi σ (u + 5) W < P) ∧ gi σ (u + 4) W ≠ gi σ (u + 5) W ∧ (gi τ 99 (14 * b + W) = gi σ (u + 6) W ∧ 1 ≤ gi σ (u + 6) W ∧ gi σ (u + 6) W ≤ 40) ∧ (gi τ 100 (14 * b + W) = gi σ (u + 7) W ∧ -9 ≤ gi σ (u + 7) W ∧ gi σ (u + 7) W ≤ 9)) : LR u b σ' τ' P (W + 1) S M t0 t1 c := by
  obtain ⟨hp, ⟨p1, p2, p3, p4⟩, hs, hm, hd, hr⟩ := h
  refine ⟨hp.cg (fun r k z => hE r k (by omega)) (fun r k z => hE' r k (by omega)), ⟨by omega, c0, m0, fun i hi => ?_⟩, hs.cg (fun r k z => hE r k (by omega)) (fun r k z => hE' r k (by omega)), hm.cg (fun r k z => hE r k (by omega)) (fun r k z => hE' r k (by omega)), hd.cg (fun r k z => hE.i r k (by omega)) (fun r k z => hE'.i r k (by omega)), hr.cg (fun r k z => hE.i r k (by omega)) (fun r k z => hE'.i r k (by omega))⟩
  rw [hE.i (u + 4) i (by omega), hE.i (u + 5) i (by omega), hE.i (u + 6) i (by omega), hE.i (u + 7) i (by omega), hE'.i 97 _ (by omega), hE'.i 98 _ (by omega), hE'.i 99 _ (by omega), hE'.i 100 _ (by omega)]
  by_cases h1 : i = W
  · rw [h1]; exact a
  · exact p4 i (by omega)
theorem g_way152 (hu : u = 2 ∨ u = 22) (hb : b < 2) (h : GS u b B N σ0 τ0 σ τ k p n) (hL : LR u b σ τ P W S M t0 t1 c) (h8 : W < 14) (a : (gi τ 97 (14 * b + W) = gi σ (u + 4) W ∧ 0 ≤ gi σ (u + 4) W ∧ gi σ (u + 4) W < P) ∧ (gi τ 98 (14 * b + W) = gi σ (u + 5) W ∧ 0 ≤ gi σ (u + 5) W ∧ gi σ (u + 5) W < P) ∧ gi σ (u + 4) W ≠ gi σ (u + 5) W ∧ (gi τ 99 (14 * b + W) = gi σ (u + 6) W ∧ 1 ≤ gi σ (u + 6) W ∧ gi σ (u + 6) W ≤ 40) ∧ (gi τ 100 (14 * b + W) = gi σ (u + 7) W ∧ -9 ≤ gi σ (u + 7) W ∧ gi σ (u + 7) W ≤ 9)) : W2 (j_Re_readWay_152 u σ) (j_Mo_readWay_153 τ) fun r σ' _ τ' => LO u b B N σ0 τ0 p r σ' τ' := by
  unfold j_Re_readWay_152 j_Mo_readWay_153
  rw [h.2.2.2.2]
  try simp only [Int.toNat_natCast]
  rw [hL.2.1.2.1, hL.2.1.2.2.1, iwc (x := (W : Int) + 1) (by omega) (by omega), show (W : Int) + 1 = ((W + 1 : Nat) : Int) by omega]
  refine w2_l (fun _ => wp_os) (w2_r (fun _ z => wp_oc (by omega) (wp_oc (by omega) (wp_os z))) ?_)
  have hE : EqP (fun r k => r = u ∧ k = 4) σ (si σ u 4 ((W + 1 : Nat) : Int)) := EqP.si (EqP.rf _ _) _ _ _ (by omega)
  have hE' : EqP (fun r k => r = 90 ∧ k = b) τ (si τ 90 b ((W + 1 : Nat) : Int)) := EqP.si (EqP.rf _ _) _ _ _ (by omega)
  exact w2_d (Or.inl ⟨rfl, k, p, n, P, W + 1, S, M, t0, t1, c, h.wr hE hE' (fun r k z => by omega) (fun r k z => ⟨by first | exact pmA (by omega) | exact pmB (by omega) | exact pmC (by omega) | exact pmD (by omega) | exact pmE (by omega) | exact pmF (by omega) | exact pmG (by omega) | exact pmH (by omega) | exact pmI (by omega) | (rcases z with z | z <;> first | exact pmA (by omega) | exact pmB (by omega) | exact pmC (by omega) | exact pmD (by omega) | exact pmE (by omega) | exact pmF (by omega) | exact pmG (by omega) | exact pmH (by omega) | exact pmI (by omega)) | (rcases z with z | z | z <;> first | exact pmA (by omega) | exact pmB (by omega) | exact pmC (by omega) | exact pmD (by omega) | exact pmE (by omega) | exact pmF (by omega) | exact pmG (by omega) | exact pmH (by omega) | exact pmI (by omega)), by omega⟩), Nat.le_refl _, hL.way hu h8 hE hE' (gi_same _ _ _ _) (gi_same _ _ _ _) a⟩)
theorem g_way102 (hu : u = 2 ∨ u = 22) (hb : b < 2) (h : GS u b B N σ0 τ0 σ τ k p n) (hL : LR u b σ τ P W S M t0 t1 c) (h8 : W < 14) (a1 : gi τ 97 (14 * b + W) = gi σ (u + 4) W ∧ 0 ≤ gi σ (u + 4) W ∧ gi σ (u + 4) W < P) (a2 : gi τ 98 (14 * b + W) = gi σ (u + 5) W ∧ 0 ≤ gi σ (u + 5) W ∧ gi σ (u + 5) W < P) (a3 : gi σ (u + 4) W ≠ gi σ (u + 5) W) :
    W2 (ob (f_Re_readNumber 1 40 σ) fun r20 s20 => if r20 = 0 then (some (0, s20)) else (oc (0 ≤ (W : Int) ∧ (W : Int) < 14) <| os (si s20 (u + 6) (((W : Int)).toNat) (gi s20 42 4)) fun s24 => oc (0 ≤ (W : Int) ∧ (W : Int) < 14) <| os (si s24 (u + 7) (((W : Int)).toNat) 0) fun s27 => if (gi s27 43 3) = 261 then (ob (f_To_move s27) fun r31 s31 => ob (f_Re_readSight s31) fun r32 s32 => if r32 = 0 then (some (0, s32)) else (oc (0 ≤ (W : Int) ∧ (W : Int) < 14) <| os (si s32 (u + 7) (((W : Int)).toNat) (gi s32 42 4)) fun s36 => j_Re_readWay_152 u s36)) else (j_Re_readWay_152 u s27))) (j_Mo_readWay_102 ((14 * b + W : Nat) : Int) τ) fun r σ' _ τ' => LO u b B N σ0 τ0 p r σ' τ' := by
  have hpn := h.k2.2.2.2.2.2
  unfold j_Mo_readWay_102
  refine w2_call (g_number hu h 1 40) ?_
  rintro r σ1 v τ1 (⟨rfl, hv, v1, v2, k1, p1, n1, hG1, hp1, hE1, hE1'⟩ | ⟨rfl, hB⟩)
  · have hL1 := hL.prim hu hE1 hE1'
    refine w2_l (fun _ z => wp_f (by decide) (wp_oc (by omega) (wp_os (wp_oc (by omega) (wp_os z))))) (w2_r (fun _ z => wp_oc (by omega) (wp_os (wp_oc (by omega) (wp_os z)))) ?_)
    rw [hv]
    try simp only [Int.toNat_natCast]
    have hEc : EqP (fun r k => (r = u + 6 ∨ r = u + 7) ∧ k = W) σ1 (si (si σ1 (u + 6) W v) (u + 7) W 0) := EqP.si (EqP.si (EqP.rf _ _) _ _ _ (by omega)) _ _ _ (by omega)
    have hEm : EqP (fun r k => (r = 99 ∨ r = 100) ∧ k = 14 * b + W) τ1 (si (si τ1 99 (14 * b + W) v) 100 (14 * b + W) 0) := EqP.si (EqP.si (EqP.rf _ _) _ _ _ (by omega)) _ _ _ (by omega)
    have hG2 := hG1.wr hEc hEm (fun r k z => by omega) (fun r k z => ⟨by first | exact pmA (by omega) | exact pmB (by omega) | exact pmC (by omega) | exact pmD (by omega) | exact pmE (by omega) | exact pmF (by omega) | exact pmG (by omega) | exact pmH (by omega) | exact pmI (by omega) | (rcases z with z | z <;> first | exact pmA (by omega) | exact pmB (by omega) | exact pmC (by omega) | exact pmD (by omega) | exact pmE (by omega) | exact pmF (by omega) | exact pmG (by omega) | exact pmH (by omega) | exact pmI (by omega)) | (rcases z with z | z | z <;> first | exact pmA (by omega) | exact pmB (by omega) | exact pmC (by omega) | exact pmD (by omega) | exact pmE (by omega) | exact pmF (by omega) | exact pmG (by omega) | exact pmH (by omega) | exact pmI (by omega)), by omega⟩)
    have hL2 := hL1.cg (fun r k z => hEc r k (by omega)) (fun r k z => hEm r k (by omega))
    have c6 : gi (si (si σ1 (u + 6) W v) (u + 7) W 0) (u + 6) W = v := by rw [gi_ne_r _ _ _ _ (by omega), gi_same]
    have c7 : gi (si (si σ1 (u + 6) W v) (u + 7) W 0) (u + 7) W = 0 := gi_same _ _ _ _
    have m6 : gi (si (si τ1 99 (14 * b + W) v) 100 (14 * b + W) 0) 99 (14 * b + W) = v := by rw [gi_ne_r _ _ _ _ (by omega), gi_same]
    have m7 : gi (si (si τ1 99 (14 * b + W) v) 100 (14 * b + W) 0) 100 (14 * b + W) = 0 := gi_same _ _ _ _
    generalize si (si σ1 (u + 6) W v) (u + 7) W 0 = σ2 at hEc hG2 hL2 c6 c7 ⊢
    generalize si (si τ1 99 (14 * b + W) v) 100 (14 * b + W) 0 = τ2 at hEm hG2 hL2 m6 m7 ⊢
    have ew := x_isWord hG2.1 5 (by omega)
    have ek := hG2.k2.1
    have f4 : gi σ2 (u + 4) W = gi σ (u + 4) W := by rw [hEc.i _ _ (by omega), hE1.i _ _ (by omega)]
    have f5 : gi σ2 (u + 5) W = gi σ (u + 5) W := by rw [hEc.i _ _ (by omega), hE1.i _ _ (by omega)]
    have t4 : gi τ2 97 (14 * b + W) = gi τ 97 (14 * b + W) := by rw [hEm.i _ _ (by omega), hE1'.i _ _ (by omega)]
    have t5 : gi τ2 98 (14 * b + W) = gi τ 98 (14 * b + W) := by rw [hEm.i _ _ (by omega), hE1'.i _ _ (by omega)]
    refine w2_r (fun _ z => wp_eq (x_isGoodG hG2.2.1.1) (wp_f (by decide) z)) ?_
    by_cases he : k1 = ((256 + 5 : Nat) : Int)
    · rw [if_pos he] at ew
      refine w2_l (fun _ => wp_t (by omega)) (w2_r (fun _ z => wp_eq ew (wp_f (by decide) z)) ?_)
      refine w2_call (g_move hu hG2) ?_
      rintro _ σ3 _ τ3 ⟨k3, p3, n3, hG3, hp3, hE3, hE3'⟩
      have hL3 := hL2.prim hu (hE3.mo (fun r k z => Or.inl z)) hE3'
      have hk2 := hG2.k2
      refine w2_call (g_sight hu hG3) ?_
      rintro r σ4 w τ4 (⟨rfl, hw, w1, w2, k4, p4, n4, hG4, hp4, hE4, hE4'⟩ | ⟨rfl, hB⟩)
      · have hL4 := hL3.prim hu hE4 hE4'
        refine w2_l (fun _ z => wp_f (by decide) (wp_oc (by omega) (wp_os z))) (w2_r (fun _ z => wp_oc (by omega) (wp_os z)) ?_)
        rw [hw]
        try simp only [Int.toNat_natCast]
        have hEc2 : EqP (fun r k => r = u + 7 ∧ k = W) σ4 (si σ4 (u + 7) W w) := EqP.si (EqP.rf _ _) _ _ _ (by omega)
        have hEm2 : EqP (fun r k => r = 100 ∧ k = 14 * b + W) τ4 (si τ4 100 (14 * b + W) w) := EqP.si (EqP.rf _ _) _ _ _ (by omega)
        have hG5 := hG4.wr hEc2 hEm2 (fun r k z => by omega) (fun r k z => ⟨by first | exact pmA (by omega) | exact pmB (by omega) | exact pmC (by omega) | exact pmD (by omega) | exact pmE (by omega) | exact pmF (by omega) | exact pmG (by omega) | exact pmH (by omega) | exact pmI (by omega) | (rcases z with z | z <;> first | exact pmA (by omega) | exact pmB (by omega) | exact pmC (by omega) | exact pmD (by omega) | exact pmE (by omega) | exact pmF (by omega) | exact pmG (by omega) | exact pmH (by omega) | exact pmI (by omega)) | (rcases z with z | z | z <;> first | exact pmA (by omega) | exact pmB (by omega) | exact pmC (by omega) | exact pmD (by omega) | exact pmE (by omega) | exact pmF (by omega) | exact pmG (by omega) | exact pmH (by omega) | exact pmI (by omega)), by omega⟩)
        have hL5 := hL4.cg (fun r k z => hEc2 r k (by omega)) (fun r k z => hEm2 r k (by omega))
        refine w2_mono (g_way152 hu hb hG5 hL5 h8 ?_) (fun r σ' r' τ' z => z.mo (by omega))
        rw [gi_same, gi_same, hEc2.i (u + 4) _ (by omega), hEc2.i (u + 5) _ (by omega), hEc2.i (u + 6) _ (by omega), hEm2.i 97 _ (by omega), hEm2.i 98 _ (by omega), hEm2.i 99 _ (by omega), hE4.i (u + 4) _ (by omega), hE4.i (u + 5) _ (by omega), hE4.i (u + 6) _ (by omega), hE4'.i 97 _ (by omega), hE4'.i 98 _ (by omega), hE4'.i 99 _ (by omega), hE3.i (u + 4) _ (by omega), hE3.i (u + 5) _ (by omega), hE3.i (u + 6) _ (by omega), hE3'.i 97 _ (by omega), hE3'.i 98 _ (by omega), hE3'.i 99 _ (by omega), f4, f5, t4, t5, c6, m6]
        exact ⟨a1, a2, a3, ⟨rfl, v1, v2⟩, rfl, w1, w2⟩
      · refine w2_l (fun _ => wp_t rfl) (w2_dl (wp_oc (by omega) (wp_os ?_)))
        try simp only [Int.toNat_natCast]
        have hB2 := hB.wr (P' := fun r k => r = 100 ∧ k = 14 * b + W) (EqP.si (EqP.rf _ _) 100 (14 * b + W) w (by omega)) (fun r k z => ⟨by first | exact pmA (by omega) | exact pmB (by omega) | exact pmC (by omega) | exact pmD (by omega) | exact pmE (by omega) | exact pmF (by omega) | exact pmG (by omega) | exact pmH (by omega) | exact pmI (by omega) | (rcases z with z | z <;> first | exact pmA (by omega) | exact pmB (by omega) | exact pmC (by omega) | exact pmD (by omega) | exact pmE (by omega) | exact pmF (by omega) | exact pmG (by omega) | exact pmH (by omega) | exact pmI (by omega)) | (rcases z with z | z | z <;> first | exact pmA (by omega) | exact pmB (by omega) | exact pmC (by omega) | exact pmD (by omega) | exact pmE (by omega) | exact pmF (by omega) | exact pmG (by omega) | exact pmH (by omega) | exact pmI (by omega)), by omega⟩)
        exact wp_mono (x_way153W hb (14 * b + W) hB2.2.2.2.1) (fun _ τ' hE => LO.bad (hB2.wr hE (fun r k z => ⟨by first | exact pmA (by omega) | exact pmB (by omega) | exact pmC (by omega) | exact pmD (by omega) | exact pmE (by omega) | exact pmF (by omega) | exact pmG (by omega) | exact pmH (by omega) | exact pmI (by omega) | (rcases z with z | z <;> first | exact pmA (by omega) | exact pmB (by omega) | exact pmC (by omega) | exact pmD (by omega) | exact pmE (by omega) | exact pmF (by omega) | exact pmG (by omega) | exact pmH (by omega) | exact pmI (by omega)) | (rcases z with z | z | z <;> first | exact pmA (by omega) | exact pmB (by omega) | exact pmC (by omega) | exact pmD (by omega) | exact pmE (by omega) | exact pmF (by omega) | exact pmG (by omega) | exact pmH (by omega) | exact pmI (by omega)), by omega⟩)))
    · rw [if_neg he] at ew
      refine w2_l (fun _ => wp_f (by omega)) (w2_r (fun _ z => wp_eq ew (wp_t rfl z)) ?_)
      refine w2_mono (g_way152 hu hb hG2 hL2 h8 ?_) (fun r σ' r' τ' z => z.mo (by omega))
      rw [f4, f5, t4, t5, c6, c7, m6, m7]
      exact ⟨a1, a2, a3, ⟨rfl, v1, v2⟩, rfl, by omega, by omega⟩
  · refine w2_l (fun _ => wp_t rfl) (w2_dl (wp_oc (by omega) (wp_os (wp_oc (by omega) (wp_os ?_)))))
    try simp only [Int.toNat_natCast]
    have hB2 := hB.wr (P' := fun r k => (r = 99 ∨ r = 100) ∧ k = 14 * b + W) (EqP.si (EqP.si (EqP.rf _ _) 99 (14 * b + W) v (by omega)) 100 (14 * b + W) 0 (by omega)) (fun r k z => ⟨by first | exact pmA (by omega) | exact pmB (by omega) | exact pmC (by omega) | exact pmD (by omega) | exact pmE (by omega) | exact pmF (by omega) | exact pmG (by omega) | exact pmH (by omega) | exact pmI (by omega) | (rcases z with z | z <;> first | exact pmA (by omega) | exact pmB (by omega) | exact pmC (by omega) | exact pmD (by omega) | exact pmE (by omega) | exact pmF (by omega) | exact pmG (by omega) | exact pmH (by omega) | exact pmI (by omega)) | (rcases z with z | z | z <;> first | exact pmA (by omega) | exact pmB (by omega) | exact pmC (by omega) | exact pmD (by omega) | exact pmE (by omega) | exact pmF (by omega) | exact pmG (by omega) | exact pmH (by omega) | exact pmI (by omega)), by omega⟩)
    refine wp_eq (x_isGoodB hB2.1.1) (wp_t rfl ?_)
    exact wp_mono (x_way153W hb (14 * b + W) hB2.2.2.2.1) (fun _ τ' hE => LO.bad (hB2.wr hE (fun r k z => ⟨by first | exact pmA (by omega) | exact pmB (by omega) | exact pmC (by omega) | exact pmD (by omega) | exact pmE (by omega) | exact pmF (by omega) | exact pmG (by omega) | exact pmH (by omega) | exact pmI (by omega) | (rcases z with z | z <;> first | exact pmA (by omega) | exact pmB (by omega) | exact pmC (by omega) | exact pmD (by omega) | exact pmE (by omega) | exact pmF (by omega) | exact pmG (by omega) | exact pmH (by omega) | exact pmI (by omega)) | (rcases z with z | z | z <;> first | exact pmA (by omega) | exact pmB (by omega) | exact pmC (by omega) | exact pmD (by omega) | exact pmE (by omega) | exact pmF (by omega) | exact pmG (by omega) | exact pmH (by omega) | exact pmI (by omega)), by omega⟩)))
theorem g_way (hu : u = 2 ∨ u = 22) (hb : b < 2) (h : GS u b B N σ0 τ0 σ τ k p n) (hL : LR u b σ τ P W S M t0 t1 c) (h8 : W < 14) : W2 (f_Re_readWay u σ) (ob (f_Mo_goOn τ) fun _ s => f_Mo_readWay s) fun r σ' _ τ' => LO u b B N σ0 τ0 n r σ' τ' := by
  have hw0 := hL.2.1.2.1
  unfold f_Re_readWay
  refine w2_l (fun _ z => wp_ol (wp_f (by omega) (wp_t (by omega) z))) ?_
  rw [hw0]
  refine w2_call (g_move hu h) ?_
  rintro _ σ1 _ τ1 ⟨k1, p1, n1, hG1, hp1, hE1, hE1'⟩
  have hL1 := hL.prim hu (hE1.mo (fun r k z => Or.inl z)) hE1'
  have h41 := hG1.2.2.2.2
  have hm0 := hL1.2.1.2.2.1
  have hpn1 := hG1.k2.2.2.2.2.2
  have e8 : iw (14 * (b : Int)) = ((14 * b : Nat) : Int) := by rw [iwc (by omega) (by omega)]; omega
  have e9 : iw (((14 * b : Nat) : Int) + (W : Int)) = ((14 * b + W : Nat) : Int) := by rw [iwc (by omega) (by omega)]; omega
  unfold f_Mo_readWay
  rw [h41]
  try simp only [Int.toNat_natCast]
  rw [hm0, e8, e9]
  refine w2_r (fun _ z => wp_oc (by omega) (wp_ol z)) ?_
  refine g_known hb hG1 hu hL1 (-1) ?_ (fun i _ z => by omega) ?_
  · intro i hi _
    refine w2_r (fun _ z => wp_oc (by omega) (wp_os z)) ?_
    try simp only [Int.toNat_natCast]
    have hEc : EqP (fun r k => r = 42 ∧ k = 4) σ1 (si σ1 42 4 (i : Int)) := EqP.si (EqP.rf _ _) _ _ _ (by omega)
    have hEm : EqP (fun r k => r = 97 ∧ k = 14 * b + W) τ1 (si τ1 97 (14 * b + W) (i : Int)) := EqP.si (EqP.rf _ _) _ _ _ (by omega)
    have hG2 := hG1.wr hEc hEm (fun r k z => by omega) (fun r k z => ⟨by first | exact pmA (by omega) | exact pmB (by omega) | exact pmC (by omega) | exact pmD (by omega) | exact pmE (by omega) | exact pmF (by omega) | exact pmG (by omega) | exact pmH (by omega) | exact pmI (by omega) | (rcases z with z | z <;> first | exact pmA (by omega) | exact pmB (by omega) | exact pmC (by omega) | exact pmD (by omega) | exact pmE (by omega) | exact pmF (by omega) | exact pmG (by omega) | exact pmH (by omega) | exact pmI (by omega)) | (rcases z with z | z | z <;> first | exact pmA (by omega) | exact pmB (by omega) | exact pmC (by omega) | exact pmD (by omega) | exact pmE (by omega) | exact pmF (by omega) | exact pmG (by omega) | exact pmH (by omega) | exact pmI (by omega)), by omega⟩)
    have hL2 := hL1.cg (fun r k z => hEc r k (by omega)) (fun r k z => hEm r k (by omega))
    have c4 : gi (si σ1 42 4 (i : Int)) 42 4 = i := gi_same _ _ _ _
    have m4 : gi (si τ1 97 (14 * b + W) (i : Int)) 97 (14 * b + W) = i := gi_same _ _ _ _
    generalize si σ1 42 4 (i : Int) = σ2 at hEc hG2 hL2 c4 ⊢
    generalize si τ1 97 (14 * b + W) (i : Int) = τ2 at hEm hG2 hL2 m4 ⊢
    refine w2_r (fun _ z => wp_eq (x_isGoodG hG2.2.1.1) (wp_f (by decide) z)) ?_
    refine w2_call (g_move hu hG2) ?_
    rintro _ σ3 _ τ3 ⟨k3, p3, n3, hG3, hp3, hE3, hE3'⟩
    have hL3 := hL2.prim hu (hE3.mo (fun r k z => Or.inl z)) hE3'
    refine w2_l (fun _ z => wp_f (by decide) (wp_oc (by omega) (wp_os z))) ?_
    try simp only [Int.toNat_natCast]
    rw [hE3.i 42 4 (by omega), c4]
    have hEc4 : EqP (fun r k => r = u + 4 ∧ k = W) σ3 (si σ3 (u + 4) W (i : Int)) := EqP.si (EqP.rf _ _) _ _ _ (by omega)
    have hG4 := hG3.wr (P' := fun _ _ => False) hEc4 (EqP.rf _ _) (fun r k z => by omega) (fun r k z => z.elim)
    have hL4 : LR u b (si σ3 (u + 4) W (i : Int)) τ3 P W S M t0 t1 c := hL3.cg (fun r k z => hEc4 r k (by omega)) (fun r k z => ⟨rfl, rfl⟩)
    have c44 : gi (si σ3 (u + 4) W (i : Int)) (u + 4) W = i := gi_same _ _ _ _
    have m44 : gi τ3 97 (14 * b + W) = i := by rw [hE3'.i _ _ (by omega)]; exact m4
    generalize si σ3 (u + 4) W (i : Int) = σ4 at hEc4 hG4 hL4 c44 ⊢
    unfold j_Mo_readWay_39
    have ew := x_isWord hG4.1 4 (by omega)
    refine w2_r (fun _ => wp_eq ew) ?_
    refine w2_call (g_expect hu hG4 260 _ ?_) ?_
    · by_cases e : k3 = ((256 + 4 : Nat) : Int)
      · rw [if_pos e]; exact Or.inl ⟨by omega, rfl⟩
      · rw [if_neg e]; exact Or.inr ⟨by omega, rfl⟩
    rintro r σ5 r' τ5 (⟨rfl, hk, k5, p5, n5, hG5, hp5, hE5, hE5'⟩ | ⟨rfl, hB⟩)
    · have hL5 := hL4.prim hu (hE5.mo (fun r k z => Or.inl z)) hE5'
      have c5 : gi σ5 (u + 4) W = i := by rw [hE5.i _ _ (by omega)]; exact c44
      have m5 : gi τ5 97 (14 * b + W) = i := by rw [hE5'.i _ _ (by omega)]; exact m44
      have hpn4 := hG4.k2.2.2.2.2.2
      have hpn5 := hG5.k2.2.2.2.2.2
      have e56 := hG5.k2.2.2.1
      refine w2_l (fun _ z => wp_f (by decide) (wp_oc (by omega) z)) ?_
      try simp only [Int.toNat_natCast]
      rw [c5]
      refine g_known hb hG5 hu hL5 (i : Int) ?_ ?_ ?_
      · intro j hj hji
        refine w2_r (fun _ z => wp_oc (by omega) (wp_os z)) ?_
        have hEc6 : EqP (fun r k => r = 42 ∧ k = 4) σ5 (si σ5 42 4 (j : Int)) := EqP.si (EqP.rf _ _) _ _ _ (by omega)
        have hEm6 : EqP (fun r k => r = 98 ∧ k = 14 * b + W) τ5 (si τ5 98 (14 * b + W) (j : Int)) := EqP.si (EqP.rf _ _) _ _ _ (by omega)
        have hG6 := hG5.wr hEc6 hEm6 (fun r k z => by omega) (fun r k z => ⟨by first | exact pmA (by omega) | exact pmB (by omega) | exact pmC (by omega) | exact pmD (by omega) | exact pmE (by omega) | exact pmF (by omega) | exact pmG (by omega) | exact pmH (by omega) | exact pmI (by omega) | (rcases z with z | z <;> first | exact pmA (by omega) | exact pmB (by omega) | exact pmC (by omega) | exact pmD (by omega) | exact pmE (by omega) | exact pmF (by omega) | exact pmG (by omega) | exact pmH (by omega) | exact pmI (by omega)) | (rcases z with z | z | z <;> first | exact pmA (by omega) | exact pmB (by omega) | exact pmC (by omega) | exact pmD (by omega) | exact pmE (by omega) | exact pmF (by omega) | exact pmG (by omega) | exact pmH (by omega) | exact pmI (by omega)), by omega⟩)
        have hL6 := hL5.cg (fun r k z => hEc6 r k (by omega)) (fun r k z => hEm6 r k (by omega))
        have c6 : gi (si σ5 42 4 (j : Int)) 42 4 = j := gi_same _ _ _ _
        have c64 : gi (si σ5 42 4 (j : Int)) (u + 4) W = i := by rw [hEc6.i _ _ (by omega)]; exact c5
        have m6 : gi (si τ5 98 (14 * b + W) (j : Int)) 98 (14 * b + W) = j := gi_same _ _ _ _
        have m64 : gi (si τ5 98 (14 * b + W) (j : Int)) 97 (14 * b + W) = i := by rw [hEm6.i _ _ (by omega)]; exact m5
        generalize si σ5 42 4 (j : Int) = σ6 at hEc6 hG6 hL6 c6 c64 ⊢
        generalize si τ5 98 (14 * b + W) (j : Int) = τ6 at hEm6 hG6 hL6 m6 m64 ⊢
        refine w2_r (fun _ z => wp_eq (x_isGoodG hG6.2.1.1) (wp_f (by decide) (wp_oc (by omega) (wp_oc (by omega) (wp_f (by omega) z))))) ?_
        unfold j_Mo_readWay_91
        refine w2_r (fun _ z => wp_eq (x_isGoodG hG6.2.1.1) (wp_f (by decide) z)) ?_
        refine w2_call (g_move hu hG6) ?_
        rintro _ σ7 _ τ7 ⟨k7, p7, n7, hG7, hp7, hE7, hE7'⟩
        have hL7 := hL6.prim hu (hE7.mo (fun r k z => Or.inl z)) hE7'
        refine w2_l (fun _ z => wp_f (by decide) (wp_oc (by omega) (wp_os z))) ?_
        rw [hE7.i 42 4 (by omega), c6]
        have hEc8 : EqP (fun r k => r = u + 5 ∧ k = W) σ7 (si σ7 (u + 5) W (j : Int)) := EqP.si (EqP.rf _ _) _ _ _ (by omega)
        have hG8 := hG7.wr (P' := fun _ _ => False) hEc8 (EqP.rf _ _) (fun r k z => by omega) (fun r k z => z.elim)
        have hL8 : LR u b (si σ7 (u + 5) W (j : Int)) τ7 P W S M t0 t1 c := hL7.cg (fun r k z => hEc8 r k (by omega)) (fun r k z => ⟨rfl, rfl⟩)
        have c84 : gi (si σ7 (u + 5) W (j : Int)) (u + 4) W = i := by rw [hEc8.i _ _ (by omega), hE7.i _ _ (by omega)]; exact c64
        have c85 : gi (si σ7 (u + 5) W (j : Int)) (u + 5) W = j := gi_same _ _ _ _
        have m84 : gi τ7 97 (14 * b + W) = i := by rw [hE7'.i _ _ (by omega)]; exact m64
        have m85 : gi τ7 98 (14 * b + W) = j := by rw [hE7'.i _ _ (by omega)]; exact m6
        refine w2_mono (g_way102 hu hb hG8 hL8 h8 (by rw [c84, m84]; omega) (by rw [c85, m85]; omega) (by rw [c84, c85]; omega)) (fun r σ' r' τ' z => z.mo (by omega))
      · intro j hj hji
        refine w2_r (fun _ z => wp_oc (by omega) (wp_os z)) ?_
        have hEm6 : EqP (fun r k => r = 98 ∧ k = 14 * b + W) τ5 (si τ5 98 (14 * b + W) (j : Int)) := EqP.si (EqP.rf _ _) _ _ _ (by omega)
        have hG6 := hG5.wr (P := fun _ _ => False) (EqP.rf _ _) hEm6 (fun r k z => z.elim) (fun r k z => ⟨by first | exact pmA (by omega) | exact pmB (by omega) | exact pmC (by omega) | exact pmD (by omega) | exact pmE (by omega) | exact pmF (by omega) | exact pmG (by omega) | exact pmH (by omega) | exact pmI (by omega) | (rcases z with z | z <;> first | exact pmA (by omega) | exact pmB (by omega) | exact pmC (by omega) | exact pmD (by omega) | exact pmE (by omega) | exact pmF (by omega) | exact pmG (by omega) | exact pmH (by omega) | exact pmI (by omega)) | (rcases z with z | z | z <;> first | exact pmA (by omega) | exact pmB (by omega) | exact pmC (by omega) | exact pmD (by omega) | exact pmE (by omega) | exact pmF (by omega) | exact pmG (by omega) | exact pmH (by omega) | exact pmI (by omega)), by omega⟩)
        have m6 : gi (si τ5 98 (14 * b + W) (j : Int)) 98 (14 * b + W) = j := gi_same _ _ _ _
        have m64 : gi (si τ5 98 (14 * b + W) (j : Int)) 97 (14 * b + W) = i := by rw [hEm6.i _ _ (by omega)]; exact m5
        have m66 : gi (si τ5 98 (14 * b + W) (j : Int)) 86 6 = p5 := by rw [hEm6.i _ _ (by omega)]; exact e56
        generalize si τ5 98 (14 * b + W) (j : Int) = τ6 at hEm6 hG6 m6 m64 m66 ⊢
        refine w2_r (fun _ z => wp_eq (x_isGoodG hG6.2.1.1) (wp_f (by decide) (wp_oc (by omega) (wp_oc (by omega) (wp_t (by omega) z))))) ?_
        rw [m66]
        refine w2_call (g_fail hG6 3 (by omega) p5) ?_
        rintro r σ7 r' τ7 ⟨rfl, hB⟩
        refine w2_l (fun _ => wp_t rfl) (w2_dl ?_)
        exact wp_mono (x_way91B hb (14 * b + W) (by omega) hB.2.2.2.1 hB.1.1) (fun _ τ' hE => LO.bad (hB.wr hE (fun r k z => ⟨by first | exact pmA (by omega) | exact pmB (by omega) | exact pmC (by omega) | exact pmD (by omega) | exact pmE (by omega) | exact pmF (by omega) | exact pmG (by omega) | exact pmH (by omega) | exact pmI (by omega) | (rcases z with z | z <;> first | exact pmA (by omega) | exact pmB (by omega) | exact pmC (by omega) | exact pmD (by omega) | exact pmE (by omega) | exact pmF (by omega) | exact pmG (by omega) | exact pmH (by omega) | exact pmI (by omega)) | (rcases z with z | z | z <;> first | exact pmA (by omega) | exact pmB (by omega) | exact pmC (by omega) | exact pmD (by omega) | exact pmE (by omega) | exact pmF (by omega) | exact pmG (by omega) | exact pmH (by omega) | exact pmI (by omega)), by omega⟩)))
      · intro σ' τ' hB
        refine w2_l (fun _ => wp_t rfl) (w2_dl ?_)
        have := x_way98B hb (14 * b + W) (by omega) hB.2.2.2.1 hB.1.1 0
        try simp only [Int.toNat_natCast] at this
        exact wp_mono this (fun _ τ' hE => LO.bad (hB.wr hE (fun r k z => ⟨by first | exact pmA (by omega) | exact pmB (by omega) | exact pmC (by omega) | exact pmD (by omega) | exact pmE (by omega) | exact pmF (by omega) | exact pmG (by omega) | exact pmH (by omega) | exact pmI (by omega) | (rcases z with z | z <;> first | exact pmA (by omega) | exact pmB (by omega) | exact pmC (by omega) | exact pmD (by omega) | exact pmE (by omega) | exact pmF (by omega) | exact pmG (by omega) | exact pmH (by omega) | exact pmI (by omega)) | (rcases z with z | z | z <;> first | exact pmA (by omega) | exact pmB (by omega) | exact pmC (by omega) | exact pmD (by omega) | exact pmE (by omega) | exact pmF (by omega) | exact pmG (by omega) | exact pmH (by omega) | exact pmI (by omega)), by omega⟩)))
    · refine w2_l (fun _ => wp_t rfl) (w2_dl (wp_eq (x_knownB hB.1.1) ?_))
      exact wp_mono (x_way98B hb (14 * b + W) (by omega) hB.2.2.2.1 hB.1.1 0) (fun _ τ' hE => LO.bad (hB.wr hE (fun r k z => ⟨by first | exact pmA (by omega) | exact pmB (by omega) | exact pmC (by omega) | exact pmD (by omega) | exact pmE (by omega) | exact pmF (by omega) | exact pmG (by omega) | exact pmH (by omega) | exact pmI (by omega) | (rcases z with z | z <;> first | exact pmA (by omega) | exact pmB (by omega) | exact pmC (by omega) | exact pmD (by omega) | exact pmE (by omega) | exact pmF (by omega) | exact pmG (by omega) | exact pmH (by omega) | exact pmI (by omega)) | (rcases z with z | z | z <;> first | exact pmA (by omega) | exact pmB (by omega) | exact pmC (by omega) | exact pmD (by omega) | exact pmE (by omega) | exact pmF (by omega) | exact pmG (by omega) | exact pmH (by omega) | exact pmI (by omega)), by omega⟩)))
  · intro σ' τ' hB
    refine w2_l (fun _ => wp_t rfl) (w2_dl (wp_oc (by omega) (wp_os ?_)))
    try simp only [Int.toNat_natCast]
    have hB2 := hB.wr (P' := fun r k => r = 97 ∧ k = 14 * b + W) (EqP.si (EqP.rf _ _) 97 (14 * b + W) 0 (by omega)) (fun r k z => ⟨by first | exact pmA (by omega) | exact pmB (by omega) | exact pmC (by omega) | exact pmD (by omega) | exact pmE (by omega) | exact pmF (by omega) | exact pmG (by omega) | exact pmH (by omega) | exact pmI (by omega) | (rcases z with z | z <;> first | exact pmA (by omega) | exact pmB (by omega) | exact pmC (by omega) | exact pmD (by omega) | exact pmE (by omega) | exact pmF (by omega) | exact pmG (by omega) | exact pmH (by omega) | exact pmI (by omega)) | (rcases z with z | z | z <;> first | exact pmA (by omega) | exact pmB (by omega) | exact pmC (by omega) | exact pmD (by omega) | exact pmE (by omega) | exact pmF (by omega) | exact pmG (by omega) | exact pmH (by omega) | exact pmI (by omega)), by omega⟩)
    refine wp_eq (x_isGoodB hB2.1.1) (wp_t rfl ?_)
    exact wp_mono (x_way39B hb (14 * b + W) (by omega) hB2.2.2.2.1 hB2.1.1) (fun _ τ' hE => LO.bad (hB2.wr hE (fun r k z => ⟨by first | exact pmA (by omega) | exact pmB (by omega) | exact pmC (by omega) | exact pmD (by omega) | exact pmE (by omega) | exact pmF (by omega) | exact pmG (by omega) | exact pmH (by omega) | exact pmI (by omega) | (rcases z with z | z <;> first | exact pmA (by omega) | exact pmB (by omega) | exact pmC (by omega) | exact pmD (by omega) | exact pmE (by omega) | exact pmF (by omega) | exact pmG (by omega) | exact pmH (by omega) | exact pmI (by omega)) | (rcases z with z | z | z <;> first | exact pmA (by omega) | exact pmB (by omega) | exact pmC (by omega) | exact pmD (by omega) | exact pmE (by omega) | exact pmF (by omega) | exact pmG (by omega) | exact pmH (by omega) | exact pmI (by omega)), by omega⟩)))
end
