/-! a line that tells a matter -/
section
variable {u b : Nat} {B : Nat → Int} {N : Nat} {σ0 τ0 σ τ : SS} {k : Int} {p n : Nat} {P W S M t0 t1 c : Nat}
abbrev PQ (b x : Nat) : Nat → Nat → Prop := fun r k => (r = 103 ∨ r = 104 ∨ r = 112) ∧ k = x ∨ r = 105 ∧ 8 * x ≤ k ∧ k < 8 * x + 8 ∨ r = 92 ∧ k = b
theorem x_mat176W (hb : b < 2) (x : Nat) (h41 : gi τ 86 41 = b) : Wp (j_Mo_readMatter_176 τ) fun _ τ' => EqP (PQ b x) τ τ' := by
  unfold j_Mo_readMatter_176
  rw [h41]
  try simp only [Int.toNat_natCast]
  exact wp_oc (by omega) (wp_oc (by omega) (wp_os (wp_some (EqP.si (EqP.rf _ _) _ _ _ (by omega)))))
theorem x_mat86B (hb : b < 2) (x : Nat) (h41 : gi τ 86 41 = b) (hbad : gi τ 86 4 ≠ 0) (fu : Nat) (hfu : 0 < fu) : Wp (l_Mo_readMatter_86 (x : Int) fu τ) fun _ τ' => EqP (PQ b x) τ τ' := by
  obtain ⟨fu, rfl⟩ : ∃ f, fu = f + 1 := ⟨fu - 1, by omega⟩
  rw [l_Mo_readMatter_86]
  exact wp_eq (x_isGoodB hbad) (wp_t rfl (x_mat176W hb x h41))
theorem x_mat3B (hb : b < 2) (x : Nat) (hx : x < 12) (h41 : gi τ 86 41 = b) (hbad : gi τ 86 4 ≠ 0) : Wp (oc (0 ≤ (x : Int) ∧ (x : Int) < 12) <| os (si τ 104 ((x : Int).toNat) 0) fun s20 => l_Mo_readMatter_86 (x : Int) FU s20) fun _ τ' => EqP (PQ b x) τ τ' := by
  refine wp_oc (by omega) (wp_os ?_)
  try simp only [Int.toNat_natCast]
  have hE : EqP (PQ b x) τ (si τ 104 x 0) := EqP.si (EqP.rf _ _) _ _ _ (by omega)
  exact wp_mono (x_mat86B hb x (by rw [gi_ne_r _ _ _ _ (by omega)]; exact h41) (by rw [gi_ne_r _ _ _ _ (by omega)]; exact hbad) FU (by unfold FU; omega)) (fun _ τ' hE2 => hE.tr hE2)
theorem x_mat2B (hb : b < 2) (x : Nat) (hx : x < 12) (h41 : gi τ 86 41 = b) (hbad : gi τ 86 4 ≠ 0) (v : Int) : Wp (oc (0 ≤ (x : Int) ∧ (x : Int) < 12) <| os (si τ 103 ((x : Int).toNat) v) fun s15 => ob (f_Mo_isWord 28518 s15) fun r16 s16 => ob (f_Mo_must r16 s16) fun _ s17 => oc (0 ≤ (x : Int) ∧ (x : Int) < 12) <| os (si s17 104 ((x : Int).toNat) 0) fun s20 => l_Mo_readMatter_86 (x : Int) FU s20) fun _ τ' => EqP (PQ b x) τ τ' := by
  refine wp_oc (by omega) (wp_os ?_)
  try simp only [Int.toNat_natCast]
  have hE : EqP (PQ b x) τ (si τ 103 x v) := EqP.si (EqP.rf _ _) _ _ _ (by omega)
  have e4 : gi (si τ 103 x v) 86 4 ≠ 0 := by rw [gi_ne_r _ _ _ _ (by omega)]; exact hbad
  obtain ⟨z, hz⟩ := x_isWordZ 28518 (si τ 103 x v)
  have h3 := x_mat3B hb x hx (τ := si τ 103 x v) (by rw [gi_ne_r _ _ _ _ (by omega)]; exact h41) e4
  try simp only [Int.toNat_natCast] at h3
  exact wp_eq hz (wp_eq (x_mustB e4 z) (wp_mono h3 (fun _ τ' hE2 => hE.tr hE2)))
theorem x_mat154B (hb : b < 2) (x g : Nat) (hx : x < 12) (hg : g < 8) (h41 : gi τ 86 41 = b) (hbad : gi τ 86 4 ≠ 0) (fu : Nat) (hfu : 0 < fu) (v : Int) : Wp (oc (0 ≤ ((8 * x + g : Nat) : Int) ∧ ((8 * x + g : Nat) : Int) < 96) <| os (si τ 105 (((8 * x + g : Nat) : Int).toNat) v) fun s3 => oc (0 ≤ (x : Int) ∧ (x : Int) < 12) <| oc (0 ≤ (x : Int) ∧ (x : Int) < 12) <| os (si s3 104 ((x : Int).toNat) (iw ((gi s3 104 ((x : Int).toNat)) + 1))) fun s7 => l_Mo_readMatter_86 (x : Int) fu s7) fun _ τ' => EqP (PQ b x) τ τ' := by
  refine wp_oc (by omega) (wp_os (wp_oc (by omega) (wp_oc (by omega) (wp_os ?_))))
  try simp only [Int.toNat_natCast]
  generalize iw (gi (si τ 105 (8 * x + g) v) 104 x + 1) = w
  have hE : EqP (PQ b x) τ (si (si τ 105 (8 * x + g) v) 104 x w) := EqP.si (EqP.si (EqP.rf _ _) _ _ _ (by omega)) _ _ _ (by omega)
  exact wp_mono (x_mat86B hb x (by rw [hE.i _ _ (by omega)]; exact h41) (by rw [hE.i _ _ (by omega)]; exact hbad) fu hfu) (fun _ τ' hE2 => hE.tr hE2)
theorem LR.matt (hu : u = 2 ∨ u = 22) (h : LR u b σ τ P W S M t0 t1 c) (h8 : M < 6) {σ' τ' : SS} (hE : EqP (fun r k => r = u ∧ k = 12) σ σ') (hE' : EqP (fun r k => r = 92 ∧ k = b) τ τ') (c0 : gi σ' u 12 = ((M + 1 : Nat) : Int)) (m0 : gi τ' 92 b = ((M + 1 : Nat) : Int)) (a : (gi τ 103 (6 * b + M) = gi σ (u + 11) M ∧ 1 ≤ gi σ (u + 11) M ∧ gi σ (u + 11) M ≤ 99) ∧ (gi τ 104 (6 * b + M) = gi σ (u + 12) M ∧ 1 ≤ gi σ (u + 12) M ∧ gi σ (u + 12) M ≤ 8) ∧ (∀ j : Nat, (j : Int) < gi σ (u + 12) M → gi τ 105 (8 * (6 * b + M) + j) = gi σ (u + 13) (8 * M + j) ∧ 1 ≤ gi σ (u + 13) (8 * M + j) ∧ gi σ (u + 13) (8 * M + j) ≤ 9) ∧ NR (gj σ (u + 10) M) (gj τ 112 (6 * b + M))) : LR u b σ' τ' P W S (M + 1) t0 t1 c := by
  obtain ⟨hp, hw, hs, ⟨p1, p2, p3, p4⟩, hd, hr⟩ := h
  refine ⟨hp.cg (fun r k z => hE r k (by omega)) (fun r k z => hE' r k (by omega)), hw.cg (fun r k z => hE.i r k (by omega)) (fun r k z => hE'.i r k (by omega)) (Nat.le_refl _), hs.cg (fun r k z => hE r k (by omega)) (fun r k z => hE' r k (by omega)), ⟨by omega, c0, m0, fun i hi => ?_⟩, hd.cg (fun r k z => hE.i r k (by omega)) (fun r k z => hE'.i r k (by omega)), hr.cg (fun r k z => hE.i r k (by omega)) (fun r k z => hE'.i r k (by omega))⟩
  have q : ∀ i, (gi τ 103 (6 * b + i) = gi σ (u + 11) i ∧ 1 ≤ gi σ (u + 11) i ∧ gi σ (u + 11) i ≤ 99) ∧ (gi τ 104 (6 * b + i) = gi σ (u + 12) i ∧ 1 ≤ gi σ (u + 12) i ∧ gi σ (u + 12) i ≤ 8) ∧ (∀ j : Nat, (j : Int) < gi σ (u + 12) i → gi τ 105 (8 * (6 * b + i) + j) = gi σ (u + 13) (8 * i + j) ∧ 1 ≤ gi σ (u + 13) (8 * i + j) ∧ gi σ (u + 13) (8 * i + j) ≤ 9) ∧ NR (gj σ (u + 10) i) (gj τ 112 (6 * b + i)) → (gi τ' 103 (6 * b + i) = gi σ' (u + 11) i ∧ 1 ≤ gi σ' (u + 11) i ∧ gi σ' (u + 11) i ≤ 99) ∧ (gi τ' 104 (6 * b + i) = gi σ' (u + 12) i ∧ 1 ≤ gi σ' (u + 12) i ∧ gi σ' (u + 12) i ≤ 8) ∧ (∀ j : Nat, (j : Int) < gi σ' (u + 12) i → gi τ' 105 (8 * (6 * b + i) + j) = gi σ' (u + 13) (8 * i + j) ∧ 1 ≤ gi σ' (u + 13) (8 * i + j) ∧ gi σ' (u + 13) (8 * i + j) ≤ 9) ∧ NR (gj σ' (u + 10) i) (gj τ' 112 (6 * b + i)) := by
    rintro i ⟨q1, q2, q3, q4⟩
    rw [hE.i (u + 11) i (by omega), hE.i (u + 12) i (by omega), hE.j (u + 10) i (by omega), hE'.i 103 _ (by omega), hE'.i 104 _ (by omega), hE'.j 112 _ (by omega)]
    refine ⟨q1, q2, fun j hj => ?_, q4⟩
    rw [hE.i (u + 13) _ (by omega), hE'.i 105 _ (by omega)]
    exact q3 j hj
  by_cases h1 : i = M
  · rw [h1]; exact q M a
  · exact q i (p4 i (by omega))
/-- the griefs -/
theorem g_griefs (hu : u = 2 ∨ u = 22) (hb : b < 2) (h8 : M < 6) (n0 : Nat) : ∀ (r g fu fu' : Nat) (σ τ : SS) (k : Int) (p n : Nat), g + r = 8 → 1 ≤ g → r < fu → r + 2 < fu' → GS u b B N σ0 τ0 σ τ k p n → n0 ≤ p → LR u b σ τ P W S M t0 t1 c → (gi τ 103 (6 * b + M) = gi σ (u + 11) M ∧ 1 ≤ gi σ (u + 11) M ∧ gi σ (u + 11) M ≤ 99) → gi τ 104 (6 * b + M) = g → (∀ j : Nat, j < g → gi τ 105 (8 * (6 * b + M) + j) = gi σ (u + 13) (8 * M + j) ∧ 1 ≤ gi σ (u + 13) (8 * M + j) ∧ gi σ (u + 13) (8 * M + j) ≤ 9) → NR (gj σ (u + 10) M) (gj τ 112 (6 * b + M)) → W2 (l_Re_readMatter_94 u (M : Int) fu (g : Int) σ) (l_Mo_readMatter_86 ((6 * b + M : Nat) : Int) fu' τ) fun r σ' _ τ' => LO u b B N σ0 τ0 n0 r σ' τ' := by
  intro r
  induction r with
  | zero =>
    intro g fu fu' σ τ k p n hg hg1 hfu hfu' h hn0 hL a1 a2 a3 a4
    obtain ⟨fu, rfl⟩ : ∃ f, fu = f + 1 := ⟨fu - 1, by omega⟩
    obtain ⟨fu', rfl⟩ : ∃ f, fu' = f + 1 := ⟨fu' - 1, by omega⟩
    obtain rfl : g = 8 := by omega
    obtain ⟨e3, e4, e6, _, e16, _⟩ := h.k2
    have h41 := h.2.2.2.2
    have hM0 := hL.2.2.2.1.2.1
    have hm0 := hL.2.2.2.1.2.2.1
    rw [l_Re_readMatter_94, l_Mo_readMatter_86]
    unfold j_Re_readMatter_144
    refine w2_l (fun _ z => wp_t (by omega) (wp_oc (by omega) (wp_os (wp_os z)))) (w2_r (fun _ z => wp_eq (x_isGoodG h.2.1.1) (wp_f (by decide) (wp_oc (by omega) z))) ?_)
    try simp only [Int.toNat_natCast]
    rw [gi_ne_r _ _ _ _ (show u ≠ u + 12 by omega), hM0, iwc (x := (M : Int) + 1) (by omega) (by omega), show (M : Int) + 1 = ((M + 1 : Nat) : Int) by omega]
    refine w2_r (fun _ z => wp_f (by omega) z) ?_
    have hEa : EqP (fun r k => r = u + 12 ∧ k = M ∨ r = u ∧ k = 12) σ (si (si σ (u + 12) M ((8 : Nat) : Int)) u 12 ((M + 1 : Nat) : Int)) := EqP.si (EqP.si (EqP.rf _ _) _ _ _ (by omega)) _ _ _ (by omega)
    by_cases hk : k = 2
    · have h8t : gi τ 86 8 = 4 := by
        rcases h.1.2.2.2.2.2.2.2.2 with ⟨e, _⟩ | ⟨_, ⟨e, _⟩ | ⟨e, j1, j2, j3, _⟩ | ⟨e, _⟩ | ⟨e, _⟩ | ⟨i, hi, e, _⟩⟩
        · omega
        · omega
        · exact j1
        · omega
        · omega
        · omega
      unfold j_Mo_readMatter_110 j_Mo_readMatter_125 j_Mo_readMatter_154 f_Mo_misplaced j_Mo_misplaced_14 f_Mo_fails
      try simp only [Int.toNat_natCast]
      rw [e6]
      refine w2_r (fun _ z => wp_t h8t (wp_oc (by omega) (wp_t (by omega) (wp_ob (wp_f (by omega) (wp_ob (wp_t (by rw [h.2.1.1]; decide) (wp_os (wp_os (wp_some (wp_some z)))))))))) ) ?_
      have hEb : EqP (fun r k => r = 86 ∧ (k = 4 ∨ k = 5)) τ (si (si τ 86 4 2) 86 5 (p : Int)) := EqP.si (EqP.si (EqP.rf _ _) _ _ _ (by omega)) _ _ _ (by omega)
      have b4 : gi (si (si τ 86 4 2) 86 5 (p : Int)) 86 4 = 2 := by simp (disch := omega) only [gi_same, gi_ne_r, gi_ne_k, gi_sr_same, gi_sr_ne, gj_sj_same, gj_sj_ne_r, gj_sj_ne_k, gj_si, gi_sj, gj_sr, iwc, jwc, Int.toNat_natCast, tdn, tmn, b0, b1, yc0, yc1]
      have b5 : gi (si (si τ 86 4 2) 86 5 (p : Int)) 86 5 = p := by simp (disch := omega) only [gi_same, gi_ne_r, gi_ne_k, gi_sr_same, gi_sr_ne, gj_sj_same, gj_sj_ne_r, gj_sj_ne_k, gj_si, gi_sj, gj_sr, iwc, jwc, Int.toNat_natCast, tdn, tmn, b0, b1, yc0, yc1]
      have b104 : gi (si (si τ 86 4 2) 86 5 (p : Int)) 104 (6 * b + M) = ((8 : Nat) : Int) := by rw [hEb.i _ _ (by omega)]; exact a2
      have b41 : gi (si (si τ 86 4 2) 86 5 (p : Int)) 86 41 = b := by rw [hEb.i _ _ (by omega)]; exact h41
      have b3 : gi (si (si τ 86 4 2) 86 5 (p : Int)) 86 3 = gi τ 86 3 := hEb.i _ _ (by omega)
      generalize si (si τ 86 4 2) 86 5 (p : Int) = τ1 at hEb b4 b5 b104 b41 b3 ⊢
      refine w2_r (fun _ z => wp_oc (by omega) (wp_t (by omega) (wp_eq (x_numeralB (by omega) 1 9) z))) ?_
      have ei : iw (iw (8 * ((6 * b + M : Nat) : Int)) + 0) = ((8 * (6 * b + M) + 0 : Nat) : Int) := by rw [iwc (x := 8 * ((6 * b + M : Nat) : Int)) (by omega) (by omega), iwc (by omega) (by omega)]; omega
      rw [ei]
      refine w2_dl ?_
      have hB := x_mat154B hb (6 * b + M) 0 (by omega) (by omega) b41 (by omega) fu' (by omega) 1
      rw [Int.toNat_natCast (6 * b + M)] at hB
      refine wp_mono hB (fun _ τ' hE2 => Or.inr (Or.inr ⟨rfl, ?_, ?_, ?_, ?_, ?_, ?_, ?_, ?_⟩))
      · rw [hEa.i _ _ (by omega), e3]; exact hk
      · rw [hEa.i _ _ (by omega), hE2.i _ _ (by omega), b5, e4]
      · rw [hE2.i _ _ (by omega)]; exact b4
      · exact h.2.2.1.tr (hEa.mo (fun r k z => by omega))
      · exact (h.2.2.2.1.tr (hEb.mo (fun r k z => pmA (by omega)))).tr (hE2.mo (fun r k z => (by first | exact pmA (by omega) | exact pmB (by omega) | exact pmC (by omega) | exact pmD (by omega) | exact pmE (by omega) | exact pmF (by omega) | exact pmG (by omega) | exact pmH (by omega) | exact pmI (by omega) | (rcases z with z | z <;> first | exact pmA (by omega) | exact pmB (by omega) | exact pmC (by omega) | exact pmD (by omega) | exact pmE (by omega) | exact pmF (by omega) | exact pmG (by omega) | exact pmH (by omega) | exact pmI (by omega)) | (rcases z with z | z | z <;> first | exact pmA (by omega) | exact pmB (by omega) | exact pmC (by omega) | exact pmD (by omega) | exact pmE (by omega) | exact pmF (by omega) | exact pmG (by omega) | exact pmH (by omega) | exact pmI (by omega)))))
      · rw [hE2.i _ _ (by omega)]; exact b41
      · rw [hE2.i _ _ (by omega), b3]
        have := h.1.2.1.1
        omega
      · rw [hE2.i _ _ (by omega), hEb.i _ _ (by omega)]
        omega
    · have h8t : gi τ 86 8 ≠ 4 := by
        rcases h.1.2.2.2.2.2.2.2.2 with ⟨e, _⟩ | ⟨_, ⟨e, _⟩ | ⟨e, j1, j2, _⟩ | ⟨e, _⟩ | ⟨e, _⟩ | ⟨i, hi, e, _⟩⟩ <;> omega
      unfold j_Mo_readMatter_176
      rw [h41]
      try simp only [Int.toNat_natCast]
      rw [hm0, iwc (x := (M : Int) + 1) (by omega) (by omega), show (M : Int) + 1 = ((M + 1 : Nat) : Int) by omega]
      refine w2_r (fun _ z => wp_f h8t (wp_oc (by omega) (wp_oc (by omega) (wp_os z)))) ?_
      have hE1 : EqP (fun r k => r = u + 12 ∧ k = M) σ (si σ (u + 12) M ((8 : Nat) : Int)) := EqP.si (EqP.rf _ _) _ _ _ (by omega)
      have hL1 : LR u b (si σ (u + 12) M ((8 : Nat) : Int)) τ P W S M t0 t1 c := hL.cg (fun r k z => hE1 r k (by omega)) (fun r k z => ⟨rfl, rfl⟩)
      have hEm : EqP (fun r k => r = 92 ∧ k = b) τ (si τ 92 b ((M + 1 : Nat) : Int)) := EqP.si (EqP.rf _ _) _ _ _ (by omega)
      refine w2_d (Or.inl ⟨rfl, k, p, n, P, W, S, M + 1, t0, t1, c, h.wr hEa hEm (fun r k z => by omega) (fun r k z => ⟨by first | exact pmA (by omega) | exact pmB (by omega) | exact pmC (by omega) | exact pmD (by omega) | exact pmE (by omega) | exact pmF (by omega) | exact pmG (by omega) | exact pmH (by omega) | exact pmI (by omega) | (rcases z with z | z <;> first | exact pmA (by omega) | exact pmB (by omega) | exact pmC (by omega) | exact pmD (by omega) | exact pmE (by omega) | exact pmF (by omega) | exact pmG (by omega) | exact pmH (by omega) | exact pmI (by omega)) | (rcases z with z | z | z <;> first | exact pmA (by omega) | exact pmB (by omega) | exact pmC (by omega) | exact pmD (by omega) | exact pmE (by omega) | exact pmF (by omega) | exact pmG (by omega) | exact pmH (by omega) | exact pmI (by omega)), by omega⟩), hn0, hL1.matt hu h8 (EqP.si (EqP.rf _ _) _ _ _ (by omega)) hEm (gi_same _ _ _ _) (gi_same _ _ _ _) ⟨?_, ?_, ?_, ?_⟩⟩)
      · rw [hE1.i _ _ (by omega)]; exact a1
      · rw [gi_same, a2]; omega
      · intro j hj
        rw [gi_same] at hj
        rw [hE1.i _ _ (by omega)]
        exact a3 j (by omega)
      · rw [gj_si]; exact a4
  | succ r ih =>
    intro g fu fu' σ τ k p n hg hg1 hfu hfu' h hn0 hL a1 a2 a3 a4
    obtain ⟨fu, rfl⟩ : ∃ f, fu = f + 1 := ⟨fu - 1, by omega⟩
    obtain ⟨fu', rfl⟩ : ∃ f, fu' = f + 1 := ⟨fu' - 1, by omega⟩
    obtain ⟨e3, e4, e6, _, e16, epn⟩ := h.k2
    have h41 := h.2.2.2.2
    have hM0 := hL.2.2.2.1.2.1
    have hm0 := hL.2.2.2.1.2.2.1
    rw [l_Re_readMatter_94, l_Mo_readMatter_86]
    refine w2_l (fun _ z => wp_f (by omega) z) (w2_r (fun _ z => wp_eq (x_isGoodG h.2.1.1) (wp_f (by decide) (wp_oc (by omega) z))) ?_)
    try simp only [Int.toNat_natCast]
    refine w2_r (fun _ z => wp_f (by omega) z) ?_
    by_cases hk : k = 2
    · have h8t : gi τ 86 8 = 4 := by
        rcases h.1.2.2.2.2.2.2.2.2 with ⟨e, _⟩ | ⟨_, ⟨e, _⟩ | ⟨e, j1, j2, j3, _⟩ | ⟨e, _⟩ | ⟨e, _⟩ | ⟨i, hi, e, _⟩⟩
        · omega
        · omega
        · exact j1
        · omega
        · omega
        · omega
      unfold j_Mo_readMatter_110 j_Mo_readMatter_125 j_Mo_readMatter_154
      have ei : iw (iw (8 * ((6 * b + M : Nat) : Int)) + gi τ 104 (6 * b + M)) = ((8 * (6 * b + M) + g : Nat) : Int) := by rw [a2, iwc (x := 8 * ((6 * b + M : Nat) : Int)) (by omega) (by omega), iwc (by omega) (by omega)]; omega
      have ec : iw (iw ((M : Int) * 8) + (g : Int)) = ((8 * M + g : Nat) : Int) := by rw [iwc (x := (M : Int) * 8) (by omega) (by omega), iwc (by omega) (by omega)]; omega
      simp only [Int.toNat_natCast, ei, ec]
      refine w2_l (fun _ => wp_t (by omega)) (w2_r (fun _ z => wp_t h8t (wp_oc (by omega) (wp_f (by omega) (wp_oc (by omega) (wp_f (by omega) (wp_oc (by omega) z)))))) ?_)
      refine w2_call (g_number hu h 1 9) ?_
      rintro rr σ1 v τ1 (⟨rfl, hv, v1, v2, k1, p1, n1, hG1, hp1, hE1, hE1'⟩ | ⟨rfl, hB⟩)
      · have hL1 := hL.prim hu hE1 hE1'
        refine w2_l (fun _ z => wp_f (by decide) (wp_oc (by omega) (wp_os z))) (w2_r (fun _ z => wp_oc (by omega) (wp_os (wp_oc (by omega) (wp_oc (by omega) (wp_os z))))) ?_)
        have f104 : gi (si τ1 105 (8 * (6 * b + M) + g) v) 104 (6 * b + M) = g := by rw [gi_ne_r _ _ _ _ (by omega), hE1'.i _ _ (by omega)]; exact a2
        rw [hv]
        try simp only [Int.toNat_natCast]
        rw [f104, iwc (x := (g : Int) + 1) (by omega) (by omega), show (g : Int) + 1 = ((g + 1 : Nat) : Int) by omega]
        have hEc : EqP (fun r k => r = u + 13 ∧ k = 8 * M + g) σ1 (si σ1 (u + 13) (8 * M + g) v) := EqP.si (EqP.rf _ _) _ _ _ (by omega)
        have hEm : EqP (fun r k => r = 105 ∧ k = 8 * (6 * b + M) + g ∨ r = 104 ∧ k = 6 * b + M) τ1 (si (si τ1 105 (8 * (6 * b + M) + g) v) 104 (6 * b + M) ((g + 1 : Nat) : Int)) := EqP.si (EqP.si (EqP.rf _ _) _ _ _ (by omega)) _ _ _ (by omega)
        have hG2 := hG1.wr hEc hEm (fun r k z => by omega) (fun r k z => ⟨by first | exact pmA (by omega) | exact pmB (by omega) | exact pmC (by omega) | exact pmD (by omega) | exact pmE (by omega) | exact pmF (by omega) | exact pmG (by omega) | exact pmH (by omega) | exact pmI (by omega) | (rcases z with z | z <;> first | exact pmA (by omega) | exact pmB (by omega) | exact pmC (by omega) | exact pmD (by omega) | exact pmE (by omega) | exact pmF (by omega) | exact pmG (by omega) | exact pmH (by omega) | exact pmI (by omega)) | (rcases z with z | z | z <;> first | exact pmA (by omega) | exact pmB (by omega) | exact pmC (by omega) | exact pmD (by omega) | exact pmE (by omega) | exact pmF (by omega) | exact pmG (by omega) | exact pmH (by omega) | exact pmI (by omega)), by omega⟩)
        have hL2 := hL1.cg (fun r k z => hEc r k (by omega)) (fun r k z => hEm r k (by omega))
        have c1 : gi (si σ1 (u + 13) (8 * M + g) v) (u + 13) (8 * M + g) = v := gi_same _ _ _ _
        have m1 : gi (si (si τ1 105 (8 * (6 * b + M) + g) v) 104 (6 * b + M) ((g + 1 : Nat) : Int)) 105 (8 * (6 * b + M) + g) = v := by rw [gi_ne_r _ _ _ _ (by omega), gi_same]
        have m4 : gi (si (si τ1 105 (8 * (6 * b + M) + g) v) 104 (6 * b + M) ((g + 1 : Nat) : Int)) 104 (6 * b + M) = ((g + 1 : Nat) : Int) := gi_same _ _ _ _
        generalize si σ1 (u + 13) (8 * M + g) v = σ2 at hEc hG2 hL2 c1 ⊢
        generalize si (si τ1 105 (8 * (6 * b + M) + g) v) 104 (6 * b + M) ((g + 1 : Nat) : Int) = τ2 at hEm hG2 hL2 m1 m4 ⊢
        refine ih (g + 1) fu fu' σ2 τ2 k1 p1 n1 (by omega) (by omega) (by omega) (by omega) hG2 (by omega) hL2 ?_ m4 ?_ ?_
        · rw [hEc.i _ _ (by omega), hEm.i _ _ (by omega), hE1.i _ _ (by omega), hE1'.i _ _ (by omega)]; exact a1
        · intro j hj
          by_cases hjg : j = g
          · rw [hjg, c1, m1]; exact ⟨rfl, v1, v2⟩
          · rw [hEc.i _ _ (by omega), hEm.i _ _ (by omega), hE1.i _ _ (by omega), hE1'.i _ _ (by omega)]; exact a3 j (by omega)
        · rw [hEc.j _ _ (by omega), hEm.j _ _ (by omega), hE1.j _ _ (by omega), hE1'.j _ _ (by omega)]; exact a4
      · refine w2_l (fun _ => wp_t rfl) (w2_dl ?_)
        have hB2 := x_mat154B hb (6 * b + M) g (by omega) (by omega) hB.2.2.2.1 hB.1.1 fu' (by omega) v
        rw [Int.toNat_natCast (6 * b + M)] at hB2
        exact wp_mono hB2 (fun _ τ' hE => LO.bad (hB.wr hE (fun r k z => ⟨by first | exact pmA (by omega) | exact pmB (by omega) | exact pmC (by omega) | exact pmD (by omega) | exact pmE (by omega) | exact pmF (by omega) | exact pmG (by omega) | exact pmH (by omega) | exact pmI (by omega) | (rcases z with z | z <;> first | exact pmA (by omega) | exact pmB (by omega) | exact pmC (by omega) | exact pmD (by omega) | exact pmE (by omega) | exact pmF (by omega) | exact pmG (by omega) | exact pmH (by omega) | exact pmI (by omega)) | (rcases z with z | z | z <;> first | exact pmA (by omega) | exact pmB (by omega) | exact pmC (by omega) | exact pmD (by omega) | exact pmE (by omega) | exact pmF (by omega) | exact pmG (by omega) | exact pmH (by omega) | exact pmI (by omega)), by omega⟩)))
    · have h8t : gi τ 86 8 ≠ 4 := by
        rcases h.1.2.2.2.2.2.2.2.2 with ⟨e, _⟩ | ⟨_, ⟨e, _⟩ | ⟨e, j1, j2, _⟩ | ⟨e, _⟩ | ⟨e, _⟩ | ⟨i, hi, e, _⟩⟩ <;> omega
      unfold j_Re_readMatter_144 j_Mo_readMatter_176
      refine w2_l (fun _ z => wp_f (by omega) (wp_oc (by omega) (wp_os (wp_os z)))) (w2_r (fun _ z => wp_f h8t (wp_oc (by omega) (wp_oc (by omega) (wp_os z)))) ?_)
      rw [h41]
      try simp only [Int.toNat_natCast]
      rw [hm0, gi_ne_r _ _ _ _ (show u ≠ u + 12 by omega), hM0, iwc (x := (M : Int) + 1) (by omega) (by omega), show (M : Int) + 1 = ((M + 1 : Nat) : Int) by omega]
      have hEa : EqP (fun r k => r = u + 12 ∧ k = M ∨ r = u ∧ k = 12) σ (si (si σ (u + 12) M (g : Int)) u 12 ((M + 1 : Nat) : Int)) := EqP.si (EqP.si (EqP.rf _ _) _ _ _ (by omega)) _ _ _ (by omega)
      have hE1 : EqP (fun r k => r = u + 12 ∧ k = M) σ (si σ (u + 12) M (g : Int)) := EqP.si (EqP.rf _ _) _ _ _ (by omega)
      have hL1 : LR u b (si σ (u + 12) M (g : Int)) τ P W S M t0 t1 c := hL.cg (fun r k z => hE1 r k (by omega)) (fun r k z => ⟨rfl, rfl⟩)
      have hEm : EqP (fun r k => r = 92 ∧ k = b) τ (si τ 92 b ((M + 1 : Nat) : Int)) := EqP.si (EqP.rf _ _) _ _ _ (by omega)
      refine w2_d (Or.inl ⟨rfl, k, p, n, P, W, S, M + 1, t0, t1, c, h.wr hEa hEm (fun r k z => by omega) (fun r k z => ⟨by first | exact pmA (by omega) | exact pmB (by omega) | exact pmC (by omega) | exact pmD (by omega) | exact pmE (by omega) | exact pmF (by omega) | exact pmG (by omega) | exact pmH (by omega) | exact pmI (by omega) | (rcases z with z | z <;> first | exact pmA (by omega) | exact pmB (by omega) | exact pmC (by omega) | exact pmD (by omega) | exact pmE (by omega) | exact pmF (by omega) | exact pmG (by omega) | exact pmH (by omega) | exact pmI (by omega)) | (rcases z with z | z | z <;> first | exact pmA (by omega) | exact pmB (by omega) | exact pmC (by omega) | exact pmD (by omega) | exact pmE (by omega) | exact pmF (by omega) | exact pmG (by omega) | exact pmH (by omega) | exact pmI (by omega)), by omega⟩), hn0, hL1.matt hu h8 (EqP.si (EqP.rf _ _) _ _ _ (by omega)) hEm (gi_same _ _ _ _) (gi_same _ _ _ _) ⟨?_, ?_, ?_, ?_⟩⟩)
      · rw [hE1.i _ _ (by omega)]; exact a1
      · rw [gi_same, a2]; omega
      · intro j hj
        rw [gi_same] at hj
        rw [hE1.i _ _ (by omega)]
        exact a3 j (by omega)
      · rw [gj_si]; exact a4
theorem g_matter (hu : u = 2 ∨ u = 22) (hb : b < 2) (h : GS u b B N σ0 τ0 σ τ k p n) (hL : LR u b σ τ P W S M t0 t1 c) (h8 : M < 6) : W2 (f_Re_readMatter u σ) (ob (f_Mo_goOn τ) fun _ s => f_Mo_readMatter s) fun r σ' _ τ' => LO u b B N σ0 τ0 n r σ' τ' := by
  have hs0 := hL.2.2.2.1.2.1
  have i1 : iw ((M : Int) * 8) = ((8 * M : Nat) : Int) := by rw [iwc (by omega) (by omega)]; omega
  unfold f_Re_readMatter f_Re_readNumberBehind
  refine w2_l (fun _ z => wp_ol (wp_f (by omega) (wp_t (by omega) z))) ?_
  rw [hs0, i1]
  refine w2_call (g_move hu h) ?_
  rintro _ σ1 _ τ1 ⟨k1, p1, n1, hG1, hp1, hE1, hE1'⟩
  have hL1 := hL.prim hu (hE1.mo (fun r k z => Or.inl z)) hE1'
  have h41 := hG1.2.2.2.2
  have hm0 := hL1.2.2.2.1.2.2.1
  have hpn1 := hG1.k2.2.2.2.2.2
  have e8 : iw (6 * (b : Int)) = ((6 * b : Nat) : Int) := by rw [iwc (by omega) (by omega)]; omega
  have e9 : iw (((6 * b : Nat) : Int) + (M : Int)) = ((6 * b + M : Nat) : Int) := by rw [iwc (by omega) (by omega)]; omega
  unfold f_Mo_readMatter
  rw [h41]
  try simp only [Int.toNat_natCast]
  rw [hm0, e8, e9]
  refine w2_r (fun _ z => wp_oc (by omega) (wp_ol (wp_oc (by omega) z))) ?_
  refine w2_call2 (g_newName hu hG1 (u + 10) 112 (6 * b) M (by rcases hu with rfl | rfl <;> exact h8) (by omega) (by show _ ≤ 12; omega) (by omega) (fun i hi => (hL1.2.2.2.1.2.2.2 i hi).2.2.2)) ?_
  rintro r σ2 v τ2 (⟨rfl, hnr, k2, p2, n2, hG2, hp2, hE2, hE2'⟩ | ⟨rfl, hB⟩)
  · have hL2 : LR u b σ2 τ2 P W S M t0 t1 c := hL1.cg (fun r k z => hE2 r k (by omega)) (fun r k z => hE2' r k (by omega))
    have hpn2 := hG2.k2.2.2.2.2.2
    refine w2_l (fun _ z => wp_f (by decide) z) (w2_r (fun _ z => wp_oc (by omega) (wp_os z)) ?_)
    try simp only [Int.toNat_natCast]
    have hEm : EqP (fun r k => r = 112 ∧ k = 6 * b + M) τ2 (sj τ2 112 (6 * b + M) v) := EqP.sj (EqP.rf _ _) _ _ _ (by omega)
    have hG3 := hG2.wr (P := fun _ _ => False) (EqP.rf _ _) hEm (fun r k z => z.elim) (fun r k z => ⟨by first | exact pmA (by omega) | exact pmB (by omega) | exact pmC (by omega) | exact pmD (by omega) | exact pmE (by omega) | exact pmF (by omega) | exact pmG (by omega) | exact pmH (by omega) | exact pmI (by omega) | (rcases z with z | z <;> first | exact pmA (by omega) | exact pmB (by omega) | exact pmC (by omega) | exact pmD (by omega) | exact pmE (by omega) | exact pmF (by omega) | exact pmG (by omega) | exact pmH (by omega) | exact pmI (by omega)) | (rcases z with z | z | z <;> first | exact pmA (by omega) | exact pmB (by omega) | exact pmC (by omega) | exact pmD (by omega) | exact pmE (by omega) | exact pmF (by omega) | exact pmG (by omega) | exact pmH (by omega) | exact pmI (by omega)), by omega⟩)
    have hL3 : LR u b σ2 (sj τ2 112 (6 * b + M) v) P W S M t0 t1 c := hL2.cg (fun r k z => ⟨rfl, rfl⟩) (fun r k z => hEm r k (by omega))
    have cn : NR (gj σ2 (u + 10) M) (gj (sj τ2 112 (6 * b + M) v) 112 (6 * b + M)) := by rw [gj_sj_same]; exact hnr
    generalize sj τ2 112 (6 * b + M) v = τ3 at hEm hG3 hL3 cn ⊢
    have hbh := g_behind hu hG3 10 (by omega) 1 99 (a := 266) (m := 422877228659) rfl rfl
    unfold f_Re_readNumberBehind at hbh
    refine w2_call hbh ?_
    rintro r σ4 w τ4 (⟨rfl, hk, hw, w1, w2, k4, p4, n4, hG4, hp4, hE4, hE4'⟩ | ⟨rfl, hB⟩)
    · have hL4 := hL3.prim hu hE4 hE4'
      have hpn4 := hG4.k2.2.2.2.2.2
      refine w2_l (fun _ z => wp_f (by decide) (wp_oc (by omega) (wp_os z))) (w2_r (fun _ z => wp_oc (by omega) (wp_os z)) ?_)
      try simp only [Int.toNat_natCast]
      rw [hw]
      have hEc5 : EqP (fun r k => r = u + 11 ∧ k = M) σ4 (si σ4 (u + 11) M w) := EqP.si (EqP.rf _ _) _ _ _ (by omega)
      have hEm5 : EqP (fun r k => r = 103 ∧ k = 6 * b + M) τ4 (si τ4 103 (6 * b + M) w) := EqP.si (EqP.rf _ _) _ _ _ (by omega)
      have hG5 := hG4.wr hEc5 hEm5 (fun r k z => by omega) (fun r k z => ⟨by first | exact pmA (by omega) | exact pmB (by omega) | exact pmC (by omega) | exact pmD (by omega) | exact pmE (by omega) | exact pmF (by omega) | exact pmG (by omega) | exact pmH (by omega) | exact pmI (by omega) | (rcases z with z | z <;> first | exact pmA (by omega) | exact pmB (by omega) | exact pmC (by omega) | exact pmD (by omega) | exact pmE (by omega) | exact pmF (by omega) | exact pmG (by omega) | exact pmH (by omega) | exact pmI (by omega)) | (rcases z with z | z | z <;> first | exact pmA (by omega) | exact pmB (by omega) | exact pmC (by omega) | exact pmD (by omega) | exact pmE (by omega) | exact pmF (by omega) | exact pmG (by omega) | exact pmH (by omega) | exact pmI (by omega)), by omega⟩)
      have hL5 := hL4.cg (fun r k z => hEc5 r k (by omega)) (fun r k z => hEm5 r k (by omega))
      have c5 : gi (si σ4 (u + 11) M w) (u + 11) M = w := gi_same _ _ _ _
      have m5 : gi (si τ4 103 (6 * b + M) w) 103 (6 * b + M) = w := gi_same _ _ _ _
      have cn5 : NR (gj (si σ4 (u + 11) M w) (u + 10) M) (gj (si τ4 103 (6 * b + M) w) 112 (6 * b + M)) := by rw [gj_si, gj_si, hE4.j _ _ (by omega), hE4'.j _ _ (by omega)]; exact cn
      generalize si σ4 (u + 11) M w = σ5 at hEc5 hG5 hL5 c5 cn5 ⊢
      generalize si τ4 103 (6 * b + M) w = τ5 at hEm5 hG5 hL5 m5 cn5 ⊢
      have ew := x_isWord hG5.1 11 (by omega)
      rw [ob_as]
      refine w2_r (fun _ => wp_eq ew) ?_
      refine w2_call (g_expect hu hG5 267 _ ?_) ?_
      · by_cases e : k4 = ((256 + 11 : Nat) : Int)
        · rw [if_pos e]; exact Or.inl ⟨by omega, rfl⟩
        · rw [if_neg e]; exact Or.inr ⟨by omega, rfl⟩
      rintro r σ6 r' τ6 (⟨rfl, hk, k6, p6, n6, hG6, hp6, hE6, hE6'⟩ | ⟨rfl, hB⟩)
      · have hL6 := hL5.prim hu (hE6.mo (fun r k z => Or.inl z)) hE6'
        have hpn5 := hG5.k2.2.2.2.2.2
        rw [if_neg (show ¬ (1 : Int) = 0 by decide), ob_as]
        refine w2_r (fun _ z => wp_oc (by omega) (wp_os z)) ?_
        try simp only [Int.toNat_natCast]
        have hEm7 : EqP (fun r k => r = 104 ∧ k = 6 * b + M) τ6 (si τ6 104 (6 * b + M) 0) := EqP.si (EqP.rf _ _) _ _ _ (by omega)
        have hG7 := hG6.wr (P := fun _ _ => False) (EqP.rf _ _) hEm7 (fun r k z => z.elim) (fun r k z => ⟨by first | exact pmA (by omega) | exact pmB (by omega) | exact pmC (by omega) | exact pmD (by omega) | exact pmE (by omega) | exact pmF (by omega) | exact pmG (by omega) | exact pmH (by omega) | exact pmI (by omega) | (rcases z with z | z <;> first | exact pmA (by omega) | exact pmB (by omega) | exact pmC (by omega) | exact pmD (by omega) | exact pmE (by omega) | exact pmF (by omega) | exact pmG (by omega) | exact pmH (by omega) | exact pmI (by omega)) | (rcases z with z | z | z <;> first | exact pmA (by omega) | exact pmB (by omega) | exact pmC (by omega) | exact pmD (by omega) | exact pmE (by omega) | exact pmF (by omega) | exact pmG (by omega) | exact pmH (by omega) | exact pmI (by omega)), by omega⟩)
        have hL7 : LR u b σ6 (si τ6 104 (6 * b + M) 0) P W S M t0 t1 c := hL6.cg (fun r k z => ⟨rfl, rfl⟩) (fun r k z => hEm7 r k (by omega))
        have m7 : gi (si τ6 104 (6 * b + M) 0) 104 (6 * b + M) = 0 := gi_same _ _ _ _
        generalize si τ6 104 (6 * b + M) 0 = τ7 at hEm7 hG7 hL7 m7 ⊢
        obtain ⟨f, hf⟩ : ∃ f, FU = f + 100 := ⟨FU - 100, by unfold FU; omega⟩
        rw [hf]
        show W2 _ (l_Mo_readMatter_86 ((6 * b + M : Nat) : Int) ((f + 99) + 1) τ7) _
        rw [l_Mo_readMatter_86]
        unfold j_Mo_readMatter_110 j_Mo_readMatter_125 j_Mo_readMatter_154
        have ei : iw (iw (8 * ((6 * b + M : Nat) : Int)) + gi τ7 104 (6 * b + M)) = ((8 * (6 * b + M) + 0 : Nat) : Int) := by rw [m7, iwc (x := 8 * ((6 * b + M : Nat) : Int)) (by omega) (by omega), iwc (by omega) (by omega)]; omega
        refine w2_r (fun _ z => wp_eq (x_isGoodG hG7.2.1.1) (wp_f (by decide) (wp_oc (by omega) z))) ?_
        simp only [Int.toNat_natCast, ei]
        refine w2_r (fun _ z => wp_t m7 (wp_oc (by omega) (wp_f (by omega) (wp_oc (by omega) (wp_f (by omega) (wp_oc (by omega) z)))))) ?_
        refine w2_call (g_number hu hG7 1 9) ?_
        rintro rr σ8 v τ8 (⟨rfl, hv, v1, v2, k8, p8, n8, hG8, hp8, hE8, hE8'⟩ | ⟨rfl, hB⟩)
        · have hL8 := hL7.prim hu hE8 hE8'
          have hpn6 := hG6.k2.2.2.2.2.2
          rw [if_neg (show ¬ (1 : Int) = 0 by decide), ob_eq]
          refine w2_l (fun _ z => wp_f (by decide) (wp_oc (by omega) (wp_os z))) (w2_r (fun _ z => wp_oc (by omega) (wp_os (wp_oc (by omega) (wp_oc (by omega) (wp_os z))))) ?_)
          have f104 : gi (si τ8 105 (8 * (6 * b + M) + 0) v) 104 (6 * b + M) = 0 := by rw [gi_ne_r _ _ _ _ (by omega), hE8'.i _ _ (by omega)]; exact m7
          rw [hv]
          try simp only [Int.toNat_natCast]
          rw [f104, iwc (x := (0 : Int) + 1) (by omega) (by omega)]
          have hEc : EqP (fun r k => r = u + 13 ∧ k = 8 * M) σ8 (si σ8 (u + 13) (8 * M) v) := EqP.si (EqP.rf _ _) _ _ _ (by omega)
          have hEm : EqP (fun r k => r = 105 ∧ k = 8 * (6 * b + M) + 0 ∨ r = 104 ∧ k = 6 * b + M) τ8 (si (si τ8 105 (8 * (6 * b + M) + 0) v) 104 (6 * b + M) (0 + 1)) := EqP.si (EqP.si (EqP.rf _ _) _ _ _ (by omega)) _ _ _ (by omega)
          have hG9 := hG8.wr hEc hEm (fun r k z => by omega) (fun r k z => ⟨by first | exact pmA (by omega) | exact pmB (by omega) | exact pmC (by omega) | exact pmD (by omega) | exact pmE (by omega) | exact pmF (by omega) | exact pmG (by omega) | exact pmH (by omega) | exact pmI (by omega) | (rcases z with z | z <;> first | exact pmA (by omega) | exact pmB (by omega) | exact pmC (by omega) | exact pmD (by omega) | exact pmE (by omega) | exact pmF (by omega) | exact pmG (by omega) | exact pmH (by omega) | exact pmI (by omega)) | (rcases z with z | z | z <;> first | exact pmA (by omega) | exact pmB (by omega) | exact pmC (by omega) | exact pmD (by omega) | exact pmE (by omega) | exact pmF (by omega) | exact pmG (by omega) | exact pmH (by omega) | exact pmI (by omega)), by omega⟩)
          have hL9 := hL8.cg (fun r k z => hEc r k (by omega)) (fun r k z => hEm r k (by omega))
          have c1 : gi (si σ8 (u + 13) (8 * M) v) (u + 13) (8 * M) = v := gi_same _ _ _ _
          have m1 : gi (si (si τ8 105 (8 * (6 * b + M) + 0) v) 104 (6 * b + M) (0 + 1)) 105 (8 * (6 * b + M) + 0) = v := by rw [gi_ne_r _ _ _ _ (by omega), gi_same]
          have m4 : gi (si (si τ8 105 (8 * (6 * b + M) + 0) v) 104 (6 * b + M) (0 + 1)) 104 (6 * b + M) = ((1 : Nat) : Int) := gi_same _ _ _ _
          generalize si σ8 (u + 13) (8 * M) v = σ9 at hEc hG9 hL9 c1 ⊢
          generalize si (si τ8 105 (8 * (6 * b + M) + 0) v) 104 (6 * b + M) (0 + 1) = τ9 at hEm hG9 hL9 m1 m4 ⊢
          refine g_griefs hu hb h8 n 7 1 (f + 100) (f + 99) σ9 τ9 k8 p8 n8 (by omega) (by omega) (by omega) (by omega) hG9 (by omega) hL9 ?_ m4 ?_ ?_
          · rw [hEc.i _ _ (by omega), hEm.i _ _ (by omega), hE8.i _ _ (by omega), hE8'.i _ _ (by omega), hEm7.i _ _ (by omega), hE6.i _ _ (by omega), hE6'.i _ _ (by omega), c5, m5]; exact ⟨rfl, w1, w2⟩
          · intro j hj
            obtain rfl : j = 0 := by omega
            rw [show 8 * M + 0 = 8 * M by omega, c1, m1]; exact ⟨rfl, v1, v2⟩
          · rw [hEc.j _ _ (by omega), hEm.j _ _ (by omega), hE8.j _ _ (by omega), hE8'.j _ _ (by omega), hEm7.j _ _ (by omega), hE6.j _ _ (by omega), hE6'.j _ _ (by omega)]; exact cn5
        · rw [if_pos rfl, ob_eq]
          refine w2_l (fun _ => wp_t rfl) (w2_dl ?_)
          have hB2 := x_mat154B hb (6 * b + M) 0 (by omega) (by omega) hB.2.2.2.1 hB.1.1 (f + 99) (by omega) v
          rw [Int.toNat_natCast (6 * b + M)] at hB2
          exact wp_mono hB2 (fun _ τ' hE => LO.bad (hB.wr hE (fun r k z => ⟨by first | exact pmA (by omega) | exact pmB (by omega) | exact pmC (by omega) | exact pmD (by omega) | exact pmE (by omega) | exact pmF (by omega) | exact pmG (by omega) | exact pmH (by omega) | exact pmI (by omega) | (rcases z with z | z <;> first | exact pmA (by omega) | exact pmB (by omega) | exact pmC (by omega) | exact pmD (by omega) | exact pmE (by omega) | exact pmF (by omega) | exact pmG (by omega) | exact pmH (by omega) | exact pmI (by omega)) | (rcases z with z | z | z <;> first | exact pmA (by omega) | exact pmB (by omega) | exact pmC (by omega) | exact pmD (by omega) | exact pmE (by omega) | exact pmF (by omega) | exact pmG (by omega) | exact pmH (by omega) | exact pmI (by omega)), by omega⟩)))
      · rw [if_pos rfl, ob_eq]
        refine w2_l (fun _ => wp_t rfl) (w2_dl ?_)
        exact wp_mono (x_mat3B hb (6 * b + M) (by omega) hB.2.2.2.1 hB.1.1) (fun _ τ' hE => LO.bad (hB.wr hE (fun r k z => ⟨by first | exact pmA (by omega) | exact pmB (by omega) | exact pmC (by omega) | exact pmD (by omega) | exact pmE (by omega) | exact pmF (by omega) | exact pmG (by omega) | exact pmH (by omega) | exact pmI (by omega) | (rcases z with z | z <;> first | exact pmA (by omega) | exact pmB (by omega) | exact pmC (by omega) | exact pmD (by omega) | exact pmE (by omega) | exact pmF (by omega) | exact pmG (by omega) | exact pmH (by omega) | exact pmI (by omega)) | (rcases z with z | z | z <;> first | exact pmA (by omega) | exact pmB (by omega) | exact pmC (by omega) | exact pmD (by omega) | exact pmE (by omega) | exact pmF (by omega) | exact pmG (by omega) | exact pmH (by omega) | exact pmI (by omega)), by omega⟩)))
    · refine w2_l (fun _ => wp_t rfl) (w2_dl ?_)
      exact wp_mono (x_mat2B hb (6 * b + M) (by omega) hB.2.2.2.1 hB.1.1 w) (fun _ τ' hE => LO.bad (hB.wr hE (fun r k z => ⟨by first | exact pmA (by omega) | exact pmB (by omega) | exact pmC (by omega) | exact pmD (by omega) | exact pmE (by omega) | exact pmF (by omega) | exact pmG (by omega) | exact pmH (by omega) | exact pmI (by omega) | (rcases z with z | z <;> first | exact pmA (by omega) | exact pmB (by omega) | exact pmC (by omega) | exact pmD (by omega) | exact pmE (by omega) | exact pmF (by omega) | exact pmG (by omega) | exact pmH (by omega) | exact pmI (by omega)) | (rcases z with z | z | z <;> first | exact pmA (by omega) | exact pmB (by omega) | exact pmC (by omega) | exact pmD (by omega) | exact pmE (by omega) | exact pmF (by omega) | exact pmG (by omega) | exact pmH (by omega) | exact pmI (by omega)), by omega⟩)))
  · refine w2_l (fun _ => wp_t rfl) (w2_dl (wp_oc (by omega) (wp_os ?_)))
    try simp only [Int.toNat_natCast]
    have hB2 := hB.wr (P' := fun r k => r = 112 ∧ k = 6 * b + M) (EqP.sj (EqP.rf _ _) 112 (6 * b + M) v (by omega)) (fun r k z => ⟨by first | exact pmA (by omega) | exact pmB (by omega) | exact pmC (by omega) | exact pmD (by omega) | exact pmE (by omega) | exact pmF (by omega) | exact pmG (by omega) | exact pmH (by omega) | exact pmI (by omega) | (rcases z with z | z <;> first | exact pmA (by omega) | exact pmB (by omega) | exact pmC (by omega) | exact pmD (by omega) | exact pmE (by omega) | exact pmF (by omega) | exact pmG (by omega) | exact pmH (by omega) | exact pmI (by omega)) | (rcases z with z | z | z <;> first | exact pmA (by omega) | exact pmB (by omega) | exact pmC (by omega) | exact pmD (by omega) | exact pmE (by omega) | exact pmF (by omega) | exact pmG (by omega) | exact pmH (by omega) | exact pmI (by omega)), by omega⟩)
    refine wp_eq (x_afterB hB2.1.1 _ _ _) ?_
    have h2 := x_mat2B hb (6 * b + M) (by omega) hB2.2.2.2.1 hB2.1.1 1
    try simp only [Int.toNat_natCast] at h2
    exact wp_mono h2 (fun _ τ' hE => LO.bad (hB2.wr hE (fun r k z => ⟨by first | exact pmA (by omega) | exact pmB (by omega) | exact pmC (by omega) | exact pmD (by omega) | exact pmE (by omega) | exact pmF (by omega) | exact pmG (by omega) | exact pmH (by omega) | exact pmI (by omega) | (rcases z with z | z <;> first | exact pmA (by omega) | exact pmB (by omega) | exact pmC (by omega) | exact pmD (by omega) | exact pmE (by omega) | exact pmF (by omega) | exact pmG (by omega) | exact pmH (by omega) | exact pmI (by omega)) | (rcases z with z | z | z <;> first | exact pmA (by omega) | exact pmB (by omega) | exact pmC (by omega) | exact pmD (by omega) | exact pmE (by omega) | exact pmF (by omega) | exact pmG (by omega) | exact pmH (by omega) | exact pmI (by omega)), by omega⟩)))
end
