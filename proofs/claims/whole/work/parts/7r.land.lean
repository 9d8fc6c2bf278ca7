/-! the land, whole -/
def ldU (u : Nat) (σ : SS) : SS := (fun r k => σ.1 (r + (u - 2)) k, fun r k => σ.2 (r + (u - 2)) k)
theorem zi2b_id (v : Int) (h : -128 ≤ v ∧ v < 128) : zi2b v = v := by
  rw [zi2b_def]
  have key : ∀ k : Nat, k < 256 → (vI ((k : Int) - 128)).toInt8.toInt = (k : Int) - 128 := by decide +kernel
  have e : v = (((v + 128).toNat : Nat) : Int) - 128 := by omega
  have h2 := key (v + 128).toNat (by omega)
  rw [← e] at h2
  exact h2
section
variable {u b : Nat} {B : Nat → Int} {N : Nat} {σ0 τ0 σ τ : SS} {k : Int} {p n : Nat} {P W S M t0 t1 c : Nat}
theorem Ru1.rm {ld : SS} {r k t c : Nat} (h : Ru1 b ld τ r k t c) (hc : c ≤ 560) : FOK ld r ∧ RM ld τ r k b := by
  obtain ⟨a1, a2, a3, a4⟩ := h
  rcases a4 with ⟨k1, k2, k3⟩ | ⟨k1, k2, k3, k4, fr, k5, k6, k7, k8⟩
  · refine ⟨Or.inl k2, ?_, fun z => absurd k2 z⟩
    rw [a1, if_pos k2, k1]
    rfl
  · refine ⟨Or.inr ⟨k2, k3, k4⟩, ?_, fun _ => ⟨560 * b + fr, k5, k6, by omega, fun j hj => ?_⟩⟩
    · rw [a1, if_neg (by omega), k1]
      rfl
    · rw [stL_get]
      rw [stL_len] at hj
      exact k8 j (by omega)
theorem LR.ld (hu : u = 2 ∨ u = 22) (hb : b < 2) (h : LR u b σ τ P W S M t0 t1 c) (h40 : gi τ 86 40 = b) : LdOK (ldU u σ) ∧ LM (ldU u σ) τ b := by
  obtain ⟨⟨p1, p2, p3, p4⟩, ⟨w1, w2, w3, w4⟩, ⟨s1, s2, s3, s4⟩, ⟨m1, m2, m3, m4⟩, ⟨d1, d2, d3, d4, d5⟩, ⟨r1, r2, r3, r4, r5, r6, r7⟩⟩ := h
  obtain ⟨f0, g0⟩ := r5.rm (by omega)
  obtain ⟨f1, g1⟩ := r6.rm (by omega)
  have u0 := r5.2.1
  have u0' := r5.2.2.1
  have u1 := r6.2.1
  have u1' := r6.2.2.1
  have g : ∀ r k, 2 ≤ r → gi (ldU u σ) r k = gi σ (r - 2 + u) k := by
    intro r k hr
    show σ.1 (r + (u - 2)) k = σ.1 (r - 2 + u) k
    rw [show r + (u - 2) = r - 2 + u by omega]
  have e0 : gi (ldU u σ) 2 0 = P := by rw [g _ _ (by omega), show 2 - 2 + u = u by omega]; exact p2
  have e4 : gi (ldU u σ) 2 4 = W := by rw [g _ _ (by omega), show 2 - 2 + u = u by omega]; exact w2
  have e9 : gi (ldU u σ) 2 9 = S := by rw [g _ _ (by omega), show 2 - 2 + u = u by omega]; exact s2
  have e12 : gi (ldU u σ) 2 12 = M := by rw [g _ _ (by omega), show 2 - 2 + u = u by omega]; exact m2
  have e17 : gi (ldU u σ) 2 17 = gi σ u 17 := by rw [g _ _ (by omega), show 2 - 2 + u = u by omega]
  have q : ∀ r k, gi (ldU u σ) (r + 2) k = gi σ (u + r) k := by
    intro r k
    rw [g _ _ (by omega), show r + 2 - 2 + u = u + r by omega]
  have q4 : ∀ k, gi (ldU u σ) 4 k = gi σ (u + 2) k := fun k => q 2 k
  have q5 : ∀ k, gi (ldU u σ) 5 k = gi σ (u + 3) k := fun k => q 3 k
  have q6 : ∀ k, gi (ldU u σ) 6 k = gi σ (u + 4) k := fun k => q 4 k
  have q7 : ∀ k, gi (ldU u σ) 7 k = gi σ (u + 5) k := fun k => q 5 k
  have q8 : ∀ k, gi (ldU u σ) 8 k = gi σ (u + 6) k := fun k => q 6 k
  have q9 : ∀ k, gi (ldU u σ) 9 k = gi σ (u + 7) k := fun k => q 7 k
  have q11 : ∀ k, gi (ldU u σ) 11 k = gi σ (u + 9) k := fun k => q 9 k
  have q13 : ∀ k, gi (ldU u σ) 13 k = gi σ (u + 11) k := fun k => q 11 k
  have q14 : ∀ k, gi (ldU u σ) 14 k = gi σ (u + 12) k := fun k => q 12 k
  have q15 : ∀ k, gi (ldU u σ) 15 k = gi σ (u + 13) k := fun k => q 13 k
  have q16 : ∀ k, gi (ldU u σ) 16 k = gi σ (u + 14) k := fun k => q 14 k
  have q17 : ∀ k, gi (ldU u σ) 17 k = gi σ (u + 15) k := fun k => q 15 k
  have q19 : ∀ k, gi (ldU u σ) 19 k = gi σ (u + 17) k := fun k => q 17 k
  have q20 : ∀ k, gi (ldU u σ) 20 k = gi σ (u + 18) k := fun k => q 18 k
  have st16 : stL (ldU u σ) 16 = stL σ (u + 14) := by
    unfold stL
    rw [q16]
    congr 1
    funext k
    exact q17 k
  have st19 : stL (ldU u σ) 19 = stL σ (u + 17) := by
    unfold stL
    rw [q19]
    congr 1
    funext k
    exact q20 k
  have F16 : FOK (ldU u σ) 16 := by
    unfold FOK at f0 ⊢
    rw [q16, st16]
    exact f0
  have F19 : FOK (ldU u σ) 19 := by
    unfold FOK at f1 ⊢
    rw [q19, st19]
    exact f1
  have R16 : RM (ldU u σ) τ 16 0 b := by
    unfold RM at g0 ⊢
    simp only [q16, st16]
    exact g0
  have R19 : RM (ldU u σ) τ 19 1 b := by
    unfold RM at g1 ⊢
    simp only [q19, st19]
    exact g1
  refine ⟨⟨by omega, by omega, by omega, by omega, by omega, fun p hp => ?_, fun y hy => ?_, fun s hs => ?_, fun m hm => ?_, F16, F19⟩, hb, h40, ⟨by rw [p3, e0], by rw [w3, e4], by rw [s3, e9], by rw [m3, e12], ?_, by rw [e17, d1]⟩, fun p hp => ?_, fun y hy => ?_, fun s hs => ?_, fun m hm => ?_, R16, R19⟩
  · obtain ⟨z1, z2, _⟩ := p4 p (by omega)
    rw [q4, q5]; omega
  · obtain ⟨z1, z2, z3, z4, z5⟩ := w4 y (by omega)
    rw [q6, q7, q8, q9, e0]; omega
  · obtain ⟨z1, z2, _⟩ := s4 s (by omega)
    rw [q11, q11]; omega
  · obtain ⟨z1, z2, z3, _⟩ := m4 m (by omega)
    rw [q13, q14]
    refine ⟨by omega, by omega, fun i hi => ?_⟩
    rw [q15]
    have := z3 i hi
    omega
  · rw [r7, q16, q19, iwc (by omega) (by omega)]
  · obtain ⟨z1, z2, _⟩ := p4 p (by omega)
    rw [q4, q5]; exact ⟨z1.1, z2.1⟩
  · obtain ⟨z1, z2, z3, z4, z5⟩ := w4 y (by omega)
    rw [q6, q7, q8, q9]; exact ⟨z1.1, z2.1, z4.1, z5.1⟩
  · obtain ⟨z1, z2, _⟩ := s4 s (by omega)
    rw [q11, q11]; exact ⟨z1.1, z2.1⟩
  · obtain ⟨z1, z2, z3, _⟩ := m4 m (by omega)
    rw [q13, q14]
    refine ⟨z1.1, z2.1, fun i hi => ?_⟩
    rw [q15]
    exact (z3 i hi).1
theorem x_clearM (hb : b < 2) (h41 : gi τ 86 41 = b) : f_Mo_clearBank τ = some (0, si (si (si (si (si (si (si (si (si (si τ 89 b 0) 90 b 0) 91 b 0) 92 b 0) 93 b 0) 94 b 0) 108 b 0) 109 (2 * b) 0) 109 (2 * b + 1) 0) 86 42 ((560 * b : Nat) : Int)) := by
  have i0 : iw (2 * (b : Int)) = ((2 * b : Nat) : Int) := by rw [iwc (by omega) (by omega)]; omega
  have i1 : iw (((2 * b : Nat) : Int) + 1) = ((2 * b + 1 : Nat) : Int) := by rw [iwc (by omega) (by omega)]; omega
  have i5 : iw (560 * (b : Int)) = ((560 * b : Nat) : Int) := by rw [iwc (by omega) (by omega)]; omega
  have e : ∀ s : SS, gi s 86 41 = b → ∀ r k v, r ≠ 86 → gi (si s r k v) 86 41 = b := fun s hs r k v hr => by rw [gi_ne_r _ _ _ _ (fun z => hr z.symm)]; exact hs
  unfold f_Mo_clearBank
  have a1 := e τ h41 89 b 0 (by omega)
  have a2 := e _ a1 90 b 0 (by omega)
  have a3 := e _ a2 91 b 0 (by omega)
  have a4 := e _ a3 92 b 0 (by omega)
  have a5 := e _ a4 93 b 0 (by omega)
  have a6 := e _ a5 94 b 0 (by omega)
  have a7 := e _ a6 108 b 0 (by omega)
  have a8 := e _ a7 109 (2 * b) 0 (by omega)
  have a9 := e _ a8 109 (2 * b + 1) 0 (by omega)
  rw [h41, oc_pos (by omega), os_eq, Int.toNat_natCast, a1, oc_pos (by omega), os_eq, Int.toNat_natCast, a2, oc_pos (by omega), os_eq, Int.toNat_natCast, a3, oc_pos (by omega), os_eq, Int.toNat_natCast, a4, oc_pos (by omega), os_eq, Int.toNat_natCast, a5, oc_pos (by omega), os_eq, Int.toNat_natCast, a6, oc_pos (by omega), os_eq, Int.toNat_natCast, a7, i0, oc_pos (by omega), os_eq, Int.toNat_natCast, a8, i0, i1, oc_pos (by omega), os_eq, Int.toNat_natCast, a9, i5, os_eq]
noncomputable def rsL (τ : SS) : OO := os (si τ 86 2 0) fun s2 => os (si s2 86 7 0) fun s3 => os (si s3 86 41 (iw (1 - (gi s3 86 40)))) fun s4 => ob (f_Mo_clearBank s4) fun r5 s5 => ob (f_Mo_goOn s5) fun r6 s6 => l_Mo_land_74 FU s6
theorem x_copyM (hN : N ≤ 1600) (τ0 : SS) : ∀ (r i fu : Nat) (τ : SS), i + r = N → r < fu → gi τ 86 3 = N → (∀ j, j < N → gi τ 87 j = B j ∧ -128 ≤ B j ∧ B j < 128) → (∀ j, j < i → gi τ 88 j = B j) → EqP (fun r _ => r = 88) τ0 τ → ∃ τ', l_Mo_land_20 fu (i : Int) τ = rsL τ' ∧ EqP (fun r _ => r = 88) τ0 τ' ∧ ∀ j, j < N → gi τ' 88 j = B j := by
  intro r
  induction r with
  | zero =>
    intro i fu τ hi hfu h3 _ hr hE
    obtain ⟨fu, rfl⟩ : ∃ f, fu = f + 1 := ⟨fu - 1, by omega⟩
    refine ⟨τ, ?_, hE, fun j hj => hr j (by omega)⟩
    rw [l_Mo_land_20, if_pos (by omega)]
    rfl
  | succ r ih =>
    intro i fu τ hi hfu h3 hB hr hE
    obtain ⟨fu, rfl⟩ : ∃ f, fu = f + 1 := ⟨fu - 1, by omega⟩
    obtain ⟨z1, z2⟩ := hB i (by omega)
    rw [l_Mo_land_20, if_neg (by omega), oc_pos (by omega), oc_pos (by omega), os_eq, Int.toNat_natCast, z1, zi2b_id _ z2, iwc (by omega) (by omega), show (i : Int) + 1 = ((i + 1 : Nat) : Int) by omega]
    refine ih (i + 1) fu _ (by omega) (by omega) (by rw [gi_ne_r _ _ _ _ (by omega)]; exact h3) (fun j hj => by rw [gi_ne_r _ _ _ _ (by omega)]; exact hB j hj) (fun j hj => ?_) (EqP.si hE _ _ _ rfl)
    by_cases e : j = i
    · rw [e, gi_same]
    · rw [gi_ne_k _ _ _ _ e]; exact hr j (by omega)
theorem x_clearC (u : Nat) (σ : SS) : f_La_clear u σ = some (0, si (si (si (si (si (si (si (si (si σ u 0 0) u 4 0) u 9 0) u 12 0) u 17 0) (u + 14) 2 0) (u + 14) 3 0) (u + 17) 2 0) (u + 17) 3 0) := rfl
abbrev PCx (u : Nat) : Nat → Nat → Prop := fun r k => (r = 42 ∨ r = 43 ∨ r = 44) ∧ 1 ≤ k ∨ r = 45 ∨ u ≤ r ∧ r ≤ u + 18
abbrev PMx (b : Nat) : Nat → Nat → Prop := fun r k => PM b r k ∨ r = 88 ∨ r = 86 ∧ (k = 2 ∨ k = 3 ∨ k = 41)
/-- behind startAnew -/
def SAf (ld τ : SS) : Prop := gi τ 118 0 = gi ld 2 17 ∧ (∀ j : Nat, j < 12 → gi τ 118 (1 + j) = if (j : Int) < 2 * gi ld 2 9 then gi ld 11 j else 0) ∧ gi τ 118 13 = -1 ∧ gi τ 86 56 = 0 ∧ gi τ 86 57 = 0 ∧ gi τ 86 60 = -1 ∧ gi τ 86 61 = 0 ∧ gi τ 86 62 = 0 ∧ gi τ 86 79 = 0 ∧ (∀ x, x < 3 → gi τ 137 x = 0)
set_option maxHeartbeats 4000000 in
theorem g_land {bk : Nat} (hu : u = 2 ∨ u = 22) (hbk : bk < 2) (hN : N ≤ 1600) (h2 : gi τ 86 2 = N) (h40 : gi τ 86 40 = bk) (hB : ∀ i, i < N → gi σ 1 i = B i ∧ gi τ 87 i = B i ∧ -128 ≤ B i ∧ B i < 128) : W2 (f_Re_readLand u (N : Int) σ) (f_Mo_land τ) fun r σ' r' τ' => EqP (PCx u) σ σ' ∧ ((r = 1 ∧ r' = gi σ' u 0 ∧ 0 ≤ r' ∧ gi σ' 42 2 = 0 ∧ gi σ' 42 3 = -1 ∧ LdOK (ldU u σ') ∧ ∃ τ2, LM (ldU u σ') τ2 (1 - bk) ∧ gi τ2 86 4 = 0 ∧ gi τ2 86 5 = -1 ∧ gi τ2 86 2 = 0 ∧ EqP (fun r k => PMx (1 - bk) r k ∨ r = 86 ∧ k = 40) τ τ2 ∧ SAf (ldU u σ') τ' ∧ EqP PSA τ2 τ') ∨ (r = 0 ∧ r' = -1 ∧ gi σ' 42 2 = gi τ' 86 4 ∧ gi σ' 42 3 = gi τ' 86 5 ∧ gi τ' 86 2 = 0 ∧ EqP (PMx (1 - bk)) τ τ')) := by
  have hb : 1 - bk < 2 := by omega
  unfold f_Re_readLand f_Mo_land f_To_open
  rw [x_clearC, ob_eq, os_eq, os_eq, os_eq]
  have hE1 : EqP (fun r k => r = u ∧ (k = 0 ∨ k = 4 ∨ k = 9 ∨ k = 12 ∨ k = 17) ∨ (r = u + 14 ∨ r = u + 17) ∧ (k = 2 ∨ k = 3)) σ (si (si (si (si (si (si (si (si (si σ u 0 0) u 4 0) u 9 0) u 12 0) u 17 0) (u + 14) 2 0) (u + 14) 3 0) (u + 17) 2 0) (u + 17) 3 0) := EqP.si (EqP.si (EqP.si (EqP.si (EqP.si (EqP.si (EqP.si (EqP.si (EqP.si (EqP.rf _ _) _ _ _ (by omega)) _ _ _ (by omega)) _ _ _ (by omega)) _ _ _ (by omega)) _ _ _ (by omega)) _ _ _ (by omega)) _ _ _ (by omega)) _ _ _ (by omega)) _ _ _ (by omega)
  have z : (gi (si (si (si (si (si (si (si (si (si σ u 0 0) u 4 0) u 9 0) u 12 0) u 17 0) (u + 14) 2 0) (u + 14) 3 0) (u + 17) 2 0) (u + 17) 3 0) u 0 = 0 ∧ gi (si (si (si (si (si (si (si (si (si σ u 0 0) u 4 0) u 9 0) u 12 0) u 17 0) (u + 14) 2 0) (u + 14) 3 0) (u + 17) 2 0) (u + 17) 3 0) u 4 = 0 ∧ gi (si (si (si (si (si (si (si (si (si σ u 0 0) u 4 0) u 9 0) u 12 0) u 17 0) (u + 14) 2 0) (u + 14) 3 0) (u + 17) 2 0) (u + 17) 3 0) u 9 = 0) ∧ (gi (si (si (si (si (si (si (si (si (si σ u 0 0) u 4 0) u 9 0) u 12 0) u 17 0) (u + 14) 2 0) (u + 14) 3 0) (u + 17) 2 0) (u + 17) 3 0) u 12 = 0 ∧ gi (si (si (si (si (si (si (si (si (si σ u 0 0) u 4 0) u 9 0) u 12 0) u 17 0) (u + 14) 2 0) (u + 14) 3 0) (u + 17) 2 0) (u + 17) 3 0) u 17 = 0) ∧ (gi (si (si (si (si (si (si (si (si (si σ u 0 0) u 4 0) u 9 0) u 12 0) u 17 0) (u + 14) 2 0) (u + 14) 3 0) (u + 17) 2 0) (u + 17) 3 0) (u + 14) 2 = 0 ∧ gi (si (si (si (si (si (si (si (si (si σ u 0 0) u 4 0) u 9 0) u 12 0) u 17 0) (u + 14) 2 0) (u + 14) 3 0) (u + 17) 2 0) (u + 17) 3 0) (u + 14) 3 = 0 ∧ gi (si (si (si (si (si (si (si (si (si σ u 0 0) u 4 0) u 9 0) u 12 0) u 17 0) (u + 14) 2 0) (u + 14) 3 0) (u + 17) 2 0) (u + 17) 3 0) (u + 17) 2 = 0 ∧ gi (si (si (si (si (si (si (si (si (si σ u 0 0) u 4 0) u 9 0) u 12 0) u 17 0) (u + 14) 2 0) (u + 14) 3 0) (u + 17) 2 0) (u + 17) 3 0) (u + 17) 3 = 0) := by
    refine ⟨⟨?_, ?_, ?_⟩, ⟨?_, ?_⟩, ?_, ?_, ?_, ?_⟩ <;> simp (disch := omega) only [gi_same, gi_ne_r, gi_ne_k, gi_sr_same, gi_sr_ne, gj_sj_same, gj_sj_ne_r, gj_sj_ne_k, gj_si, gi_sj, gj_sr, iwc, jwc, Int.toNat_natCast, tdn, tmn, b0, b1, yc0, yc1]
  generalize si (si (si (si (si (si (si (si (si σ u 0 0) u 4 0) u 9 0) u 12 0) u 17 0) (u + 14) 2 0) (u + 14) 3 0) (u + 17) 2 0) (u + 17) 3 0 = σ1 at hE1 z ⊢
  have hE2 : EqP (fun r k => r = 42 ∧ (k = 2 ∨ k = 3 ∨ k = 5)) σ1 (si (si (si σ1 42 2 0) 42 3 (-1)) 42 5 0) := EqP.si (EqP.si (EqP.si (EqP.rf _ _) _ _ _ (by omega)) _ _ _ (by omega)) _ _ _ (by omega)
  have y : gi (si (si (si σ1 42 2 0) 42 3 (-1)) 42 5 0) 42 2 = 0 ∧ gi (si (si (si σ1 42 2 0) 42 3 (-1)) 42 5 0) 42 3 = -1 ∧ gi (si (si (si σ1 42 2 0) 42 3 (-1)) 42 5 0) 42 5 = 0 := by
    refine ⟨?_, ?_, ?_⟩ <;> simp (disch := omega) only [gi_same, gi_ne_r, gi_ne_k, gi_sr_same, gi_sr_ne, gj_sj_same, gj_sj_ne_r, gj_sj_ne_k, gj_si, gi_sj, gj_sr, iwc, jwc, Int.toNat_natCast, tdn, tmn, b0, b1, yc0, yc1]
  generalize si (si (si σ1 42 2 0) 42 3 (-1)) 42 5 0 = σ2 at hE2 y ⊢
  have ecl : cl 0 (N : Int) 1600 = N := by unfold cl; rw [if_neg (by omega), if_neg (by omega)]
  rw [x_within, ob_eq, ecl, os_eq, os_eq, ob_as]
  have hE3 : EqP (fun r k => r = 43 ∧ (k = 1 ∨ k = 2)) σ2 (si (si σ2 43 1 (N : Int)) 43 2 0) := EqP.si (EqP.si (EqP.rf _ _) _ _ _ (by omega)) _ _ _ (by omega)
  have x1 : gi (si (si σ2 43 1 (N : Int)) 43 2 0) 43 1 = N ∧ gi (si (si σ2 43 1 (N : Int)) 43 2 0) 43 2 = ((0 : Nat) : Int) := by
    refine ⟨?_, ?_⟩ <;> simp (disch := omega) only [gi_same, gi_ne_r, gi_ne_k, gi_sr_same, gi_sr_ne, gj_sj_same, gj_sj_ne_r, gj_sj_ne_k, gj_si, gi_sj, gj_sr, iwc, jwc, Int.toNat_natCast, tdn, tmn, b0, b1, yc0, yc1]
    rfl
  generalize si (si σ2 43 1 (N : Int)) 43 2 0 = σ3 at hE3 x1 ⊢
  have hEc : EqP (PCx u) σ σ3 := ((hE1.mo (fun r k w => by omega)).tr (hE2.mo (fun r k w => by omega))).tr (hE3.mo (fun r k w => by omega))
  -- the reference
  rw [os_eq, os_eq, os_eq]
  have f2 : gi (si (si τ 86 4 0) 86 5 (-1)) 86 2 = N := by simp (disch := omega) only [gi_same, gi_ne_r, gi_ne_k, gi_sr_same, gi_sr_ne, gj_sj_same, gj_sj_ne_r, gj_sj_ne_k, gj_si, gi_sj, gj_sr, iwc, jwc, Int.toNat_natCast, tdn, tmn, b0, b1, yc0, yc1]; exact h2
  rw [f2]
  have hEm1 : EqP (fun r k => r = 86 ∧ (k = 3 ∨ k = 4 ∨ k = 5)) τ (si (si (si τ 86 4 0) 86 5 (-1)) 86 3 (N : Int)) := EqP.si (EqP.si (EqP.si (EqP.rf _ _) _ _ _ (by omega)) _ _ _ (by omega)) _ _ _ (by omega)
  have m1 : gi (si (si (si τ 86 4 0) 86 5 (-1)) 86 3 (N : Int)) 86 3 = N ∧ gi (si (si (si τ 86 4 0) 86 5 (-1)) 86 3 (N : Int)) 86 4 = 0 ∧ gi (si (si (si τ 86 4 0) 86 5 (-1)) 86 3 (N : Int)) 86 5 = -1 := by
    refine ⟨?_, ?_, ?_⟩ <;> simp (disch := omega) only [gi_same, gi_ne_r, gi_ne_k, gi_sr_same, gi_sr_ne, gj_sj_same, gj_sj_ne_r, gj_sj_ne_k, gj_si, gi_sj, gj_sr, iwc, jwc, Int.toNat_natCast, tdn, tmn, b0, b1, yc0, yc1]
  generalize si (si (si τ 86 4 0) 86 5 (-1)) 86 3 (N : Int) = τ1 at hEm1 m1 ⊢
  obtain ⟨τ2, e2, hEm2, m2⟩ := x_copyM hN τ1 N 0 FU τ1 (by omega) (by unfold FU; omega) m1.1 (fun j hj => ⟨by rw [hEm1.i _ _ (by omega)]; exact (hB j hj).2.1, (hB j hj).2.2⟩) (fun j hj => absurd hj (Nat.not_lt_zero _)) (EqP.rf _ _)
  have e2' : l_Mo_land_20 FU 0 τ1 = rsL τ2 := e2
  rw [e2']
  unfold rsL
  rw [os_eq, os_eq, os_eq]
  have n40 : gi (si (si τ2 86 2 0) 86 7 0) 86 40 = bk := by simp (disch := omega) only [gi_same, gi_ne_r, gi_ne_k, gi_sr_same, gi_sr_ne, gj_sj_same, gj_sj_ne_r, gj_sj_ne_k, gj_si, gi_sj, gj_sr, iwc, jwc, Int.toNat_natCast, tdn, tmn, b0, b1, yc0, yc1]; rw [hEm2.i _ _ (by omega), hEm1.i _ _ (by omega)]; exact h40
  rw [n40, show iw (1 - (bk : Int)) = ((1 - bk : Nat) : Int) by rw [iwc (by omega) (by omega)]; omega]
  have hEm3 : EqP (fun r k => r = 86 ∧ (k = 2 ∨ k = 7 ∨ k = 41)) τ2 (si (si (si τ2 86 2 0) 86 7 0) 86 41 ((1 - bk : Nat) : Int)) := EqP.si (EqP.si (EqP.si (EqP.rf _ _) _ _ _ (by omega)) _ _ _ (by omega)) _ _ _ (by omega)
  have m3 : gi (si (si (si τ2 86 2 0) 86 7 0) 86 41 ((1 - bk : Nat) : Int)) 86 2 = 0 ∧ gi (si (si (si τ2 86 2 0) 86 7 0) 86 41 ((1 - bk : Nat) : Int)) 86 7 = ((0 : Nat) : Int) ∧ gi (si (si (si τ2 86 2 0) 86 7 0) 86 41 ((1 - bk : Nat) : Int)) 86 41 = ((1 - bk : Nat) : Int) := by
    refine ⟨?_, ?_, ?_⟩ <;> simp (disch := omega) only [gi_same, gi_ne_r, gi_ne_k, gi_sr_same, gi_sr_ne, gj_sj_same, gj_sj_ne_r, gj_sj_ne_k, gj_si, gi_sj, gj_sr, iwc, jwc, Int.toNat_natCast, tdn, tmn, b0, b1, yc0, yc1]
    rfl
  generalize si (si (si τ2 86 2 0) 86 7 0) 86 41 ((1 - bk : Nat) : Int) = τ3 at hEm3 m3 ⊢
  generalize 1 - bk = b at hb m3 ⊢
  rw [x_clearM hb m3.2.2, ob_eq]
  have hEm4 : EqP (PM b) τ3 (si (si (si (si (si (si (si (si (si (si τ3 89 b 0) 90 b 0) 91 b 0) 92 b 0) 93 b 0) 94 b 0) 108 b 0) 109 (2 * b) 0) 109 (2 * b + 1) 0) 86 42 ((560 * b : Nat) : Int)) := EqP.si (EqP.si (EqP.si (EqP.si (EqP.si (EqP.si (EqP.si (EqP.si (EqP.si (EqP.si (EqP.rf _ _) _ _ _ (pmB (by omega))) _ _ _ (pmB (by omega))) _ _ _ (pmB (by omega))) _ _ _ (pmB (by omega))) _ _ _ (pmB (by omega))) _ _ _ (pmB (by omega))) _ _ _ (pmB (by omega))) _ _ _ (pmG (by omega))) _ _ _ (pmG (by omega))) _ _ _ (pmA (by omega))
  have hEm4' : EqP (fun r k => (89 ≤ r ∧ r ≤ 94 ∨ r = 108 ∨ r = 109) ∨ r = 86 ∧ k = 42) τ3 (si (si (si (si (si (si (si (si (si (si τ3 89 b 0) 90 b 0) 91 b 0) 92 b 0) 93 b 0) 94 b 0) 108 b 0) 109 (2 * b) 0) 109 (2 * b + 1) 0) 86 42 ((560 * b : Nat) : Int)) := by repeat (first | exact EqP.rf _ _ | (refine EqP.si ?_ _ _ _ (by omega)) | (refine EqP.sj ?_ _ _ _ (by omega)) | (refine EqP.sr ?_ _ _ (fun k => by omega)))
  have m4 : ∀ s, s = si (si (si (si (si (si (si (si (si (si τ3 89 b 0) 90 b 0) 91 b 0) 92 b 0) 93 b 0) 94 b 0) 108 b 0) 109 (2 * b) 0) 109 (2 * b + 1) 0) 86 42 ((560 * b : Nat) : Int) → (gi s 89 b = 0 ∧ gi s 90 b = 0 ∧ gi s 91 b = 0 ∧ gi s 92 b = 0 ∧ gi s 93 b = 0) ∧ (gi s 94 b = 0 ∧ gi s 108 b = 0) ∧ gi s 109 (2 * b + 0) = 0 ∧ gi s 109 (2 * b + 1) = 0 ∧ gi s 86 42 = ((560 * b + 0 : Nat) : Int) := by
    rintro s rfl
    refine ⟨⟨?_, ?_, ?_, ?_, ?_⟩, ⟨?_, ?_⟩, ?_, ?_, ?_⟩
    · simp (disch := omega) only [gi_same, gi_ne_r, gi_ne_k, gi_sr_same, gi_sr_ne, gj_sj_same, gj_sj_ne_r, gj_sj_ne_k, gj_si, gi_sj, gj_sr, iwc, jwc, Int.toNat_natCast, tdn, tmn, b0, b1, yc0, yc1]
    · simp (disch := omega) only [gi_same, gi_ne_r, gi_ne_k, gi_sr_same, gi_sr_ne, gj_sj_same, gj_sj_ne_r, gj_sj_ne_k, gj_si, gi_sj, gj_sr, iwc, jwc, Int.toNat_natCast, tdn, tmn, b0, b1, yc0, yc1]
    · simp (disch := omega) only [gi_same, gi_ne_r, gi_ne_k, gi_sr_same, gi_sr_ne, gj_sj_same, gj_sj_ne_r, gj_sj_ne_k, gj_si, gi_sj, gj_sr, iwc, jwc, Int.toNat_natCast, tdn, tmn, b0, b1, yc0, yc1]
    · simp (disch := omega) only [gi_same, gi_ne_r, gi_ne_k, gi_sr_same, gi_sr_ne, gj_sj_same, gj_sj_ne_r, gj_sj_ne_k, gj_si, gi_sj, gj_sr, iwc, jwc, Int.toNat_natCast, tdn, tmn, b0, b1, yc0, yc1]
    · simp (disch := omega) only [gi_same, gi_ne_r, gi_ne_k, gi_sr_same, gi_sr_ne, gj_sj_same, gj_sj_ne_r, gj_sj_ne_k, gj_si, gi_sj, gj_sr, iwc, jwc, Int.toNat_natCast, tdn, tmn, b0, b1, yc0, yc1]
    · simp (disch := omega) only [gi_same, gi_ne_r, gi_ne_k, gi_sr_same, gi_sr_ne, gj_sj_same, gj_sj_ne_r, gj_sj_ne_k, gj_si, gi_sj, gj_sr, iwc, jwc, Int.toNat_natCast, tdn, tmn, b0, b1, yc0, yc1]
    · simp (disch := omega) only [gi_same, gi_ne_r, gi_ne_k, gi_sr_same, gi_sr_ne, gj_sj_same, gj_sj_ne_r, gj_sj_ne_k, gj_si, gi_sj, gj_sr, iwc, jwc, Int.toNat_natCast, tdn, tmn, b0, b1, yc0, yc1]
    · simp only [Nat.add_zero]; simp (disch := omega) only [gi_same, gi_ne_r, gi_ne_k, gi_sr_same, gi_sr_ne, gj_sj_same, gj_sj_ne_r, gj_sj_ne_k, gj_si, gi_sj, gj_sr, iwc, jwc, Int.toNat_natCast, tdn, tmn, b0, b1, yc0, yc1]
    · simp (disch := omega) only [gi_same, gi_ne_r, gi_ne_k, gi_sr_same, gi_sr_ne, gj_sj_same, gj_sj_ne_r, gj_sj_ne_k, gj_si, gi_sj, gj_sr, iwc, jwc, Int.toNat_natCast, tdn, tmn, b0, b1, yc0, yc1]
    · simp only [Nat.add_zero]; simp (disch := omega) only [gi_same, gi_ne_r, gi_ne_k, gi_sr_same, gi_sr_ne, gj_sj_same, gj_sj_ne_r, gj_sj_ne_k, gj_si, gi_sj, gj_sr, iwc, jwc, Int.toNat_natCast, tdn, tmn, b0, b1, yc0, yc1]
  have m4 := m4 _ rfl
  generalize si (si (si (si (si (si (si (si (si (si τ3 89 b 0) 90 b 0) 91 b 0) 92 b 0) 93 b 0) 94 b 0) 108 b 0) 109 (2 * b) 0) 109 (2 * b + 1) 0) 86 42 ((560 * b : Nat) : Int) = τ4 at hEm4 hEm4' m4 ⊢
  have hEmm : EqP (PMx b) τ τ4 := (((hEm1.mo (fun r k w => by rcases w with ⟨w1, w2 | w2 | w2⟩; exact Or.inr (Or.inr ⟨w1, Or.inr (Or.inl w2)⟩); exact Or.inl (pmA ⟨w1, by omega⟩); exact Or.inl (pmA ⟨w1, by omega⟩))).tr (hEm2.mo (fun r k w => Or.inr (Or.inl w)))).tr (hEm3.mo (fun r k w => by rcases w with ⟨w1, w2 | w2 | w2⟩; exact Or.inr (Or.inr ⟨w1, Or.inl w2⟩); exact Or.inl (pmA ⟨w1, by omega⟩); exact Or.inr (Or.inr ⟨w1, Or.inr (Or.inr w2)⟩)))).tr (hEm4.mo (fun r k w => Or.inl w))
  have hTC : TXC B N σ3 := ⟨x1.1, hN, fun i hi => ⟨by rw [hE3.i _ _ (by omega), hE2.i _ _ (by omega), hE1.i _ _ (by omega)]; exact (hB i hi).1, (hB i hi).2.2⟩⟩
  have hTM : TXM B N τ4 := ⟨by rw [hEm4'.i _ _ (by omega), hEm3.i _ _ (by omega), hEm2.i _ _ (by omega)]; exact m1.1, hN, fun i hi => ⟨by rw [hEm4'.i _ _ (by omega), hEm3.i _ _ (by omega)]; exact m2 i hi, (hB i hi).2.2⟩⟩
  refine w2_call (t_move hTC hTM x1.2 (by rw [hEm4'.i _ _ (by omega)]; exact m3.2.1) (Nat.zero_le _)) ?_
  rintro _ σ5 _ τ5 ⟨k5, p5, n5, hT5, _, hE5, hE5'⟩
  rw [ob_eq]
  have c86 : ∀ j, (j = 4 ∨ j = 5) → gi τ5 86 j = gi τ1 86 j := fun j hj => by rw [hE5'.i _ _ (by omega), hEm4'.i _ _ (by omega), hEm3.i _ _ (by omega), hEm2.i _ _ (by omega)]
  have c42 : ∀ j, gi σ5 42 j = gi σ2 42 j := fun j => by rw [hE5.i _ _ (by omega), hE3.i _ _ (by omega)]
  have cu : ∀ r j, r ≠ 42 → r ≠ 43 → gi σ5 r j = gi σ1 r j := fun r j h1 h2 => by rw [hE5.i _ _ (by omega), hE3.i _ _ (by omega), hE2.i _ _ (by omega)]
  have cm : ∀ r j, r ≠ 86 → gi τ5 r j = gi τ4 r j := fun r j h1 => hE5'.i _ _ (by omega)
  have hG5 : GS u b B N σ3 τ4 σ5 τ5 k5 p5 n5 := ⟨hT5, ⟨by rw [c86 4 (by omega)]; exact m1.2.1, by rw [c86 5 (by omega)]; exact m1.2.2, by rw [c42]; exact y.1, by rw [c42]; exact y.2.1⟩, hE5.mo (fun r k w => by omega), hE5'.mo (fun r k w => pmA (by omega)), by rw [hE5'.i _ _ (by omega), hEm4'.i _ _ (by omega)]; exact m3.2.2⟩
  have hL5 : LR u b σ5 τ5 0 0 0 0 0 0 0 := by
    obtain ⟨⟨a1, a2, a3⟩, ⟨a4, a5⟩, a6, a7, a8, a9⟩ := z
    obtain ⟨⟨b1', b2', b3', b4', b5'⟩, ⟨b6', b7'⟩, b8', b9', b10'⟩ := m4
    refine ⟨⟨by omega, by rw [cu _ _ (by omega) (by omega)]; exact a1, by rw [cm _ _ (by omega)]; exact b1', fun i hi => absurd hi (Nat.not_lt_zero _)⟩, ⟨by omega, by rw [cu _ _ (by omega) (by omega)]; exact a2, by rw [cm _ _ (by omega)]; exact b2', fun i hi => absurd hi (Nat.not_lt_zero _)⟩, ⟨by omega, by rw [cu _ _ (by omega) (by omega)]; exact a3, by rw [cm _ _ (by omega)]; exact b3', fun i hi => absurd hi (Nat.not_lt_zero _)⟩, ⟨by omega, by rw [cu _ _ (by omega) (by omega)]; exact a4, by rw [cm _ _ (by omega)]; exact b4', fun i hi => absurd hi (Nat.not_lt_zero _)⟩, ⟨?_, ?_, ?_, ?_, ?_⟩, ⟨by omega, by omega, by omega, ?_, ⟨?_, ?_, ?_, Or.inl ⟨rfl, ?_, ?_⟩⟩, ⟨?_, ?_, ?_, Or.inl ⟨rfl, ?_, ?_⟩⟩, ?_⟩⟩
    · rw [cu _ _ (by omega) (by omega), cm _ _ (by omega), a5, b6']
    · rw [cu _ _ (by omega) (by omega), a5]; decide
    · rw [cu _ _ (by omega) (by omega), a5]; decide
    · rw [c42, cm _ _ (by omega), b7']; exact y.2.2
    · rw [cm _ _ (by omega)]; exact Or.inl b7'
    · rw [hE5'.i _ _ (by omega)]; exact b10'
    · rw [cm _ _ (by omega)]; exact b8'
    · rw [cu _ _ (by omega) (by omega), a7]; decide
    · rw [cu _ _ (by omega) (by omega), a7]; decide
    · rw [cu _ _ (by omega) (by omega)]; exact a6
    · rw [cu _ _ (by omega) (by omega)]; exact a7
    · rw [cm _ _ (by omega)]; exact b9'
    · rw [cu _ _ (by omega) (by omega), a9]; decide
    · rw [cu _ _ (by omega) (by omega), a9]; decide
    · rw [cu _ _ (by omega) (by omega)]; exact a8
    · rw [cu _ _ (by omega) (by omega)]; exact a9
    · rw [cm _ _ (by omega), cu _ _ (by omega) (by omega), cu _ _ (by omega) (by omega), b5', a7, a9]; decide
  have n2 : ∀ τ', EqP (PM b) τ4 τ' → gi τ' 86 2 = 0 := fun τ' hE => by
    rw [hE.i _ _ (fun w => by unfold PM at w; omega), hEm4'.i _ _ (by omega)]; exact m3.1
  refine g_lines hu hb _ ?_ ?_ N FU FU 0 σ5 τ5 k5 p5 n5 0 0 0 0 0 0 0 (by omega) (by unfold FU; omega) (by unfold FU; omega) hG5 hL5 (Nat.zero_le _)
  · intro σ' τ' p' n' P' W' S' M' t0' t1' c' hG' hL'
    have h41 := hG'.2.2.2.2
    unfold j_Mo_land_95
    rw [x_isGoodG hG'.2.1.1, ob_eq, if_neg (show ¬ (1 : Int) = 0 by decide), os_eq, h41]
    have hEz : EqP (fun r k => r = 86 ∧ k = 40) τ' (si τ' 86 40 (b : Int)) := EqP.si (EqP.rf _ _) _ _ _ (by omega)
    have hLz : LR u b σ' (si τ' 86 40 (b : Int)) P' W' S' M' t0' t1' c' := hL'.cg (fun r k w => ⟨rfl, rfl⟩) (fun r k w => hEz r k (by omega))
    obtain ⟨hok, hLM⟩ := hLz.ld hu hb (gi_same _ _ _ _)
    refine w2_dl (wp_call (x_startAnewM hok hLM) ?_)
    rintro _ τ8 ⟨s0, sr', s13, s56, s57, s60, s61, s62, s79, s137, hE8⟩
    have e40 : gi τ8 86 40 = b := by rw [hE8.i _ _ (by omega), gi_same]
    have e89 : gi τ8 89 b = P' := by rw [hE8.i _ _ (by omega), hEz.i _ _ (by omega)]; exact hL'.1.2.2.1
    rw [e40]
    refine wp_oc (by omega) (wp_some ?_)
    rw [Int.toNat_natCast, e89]
    refine ⟨hEc.tr (hG'.2.2.1.mo (fun r k w => by omega)), Or.inl ⟨rfl, hL'.1.2.1.symm, by omega, hG'.2.1.2.2.1, hG'.2.1.2.2.2, hok, _, hLM, by rw [hEz.i _ _ (by omega)]; exact hG'.2.1.1, by rw [hEz.i _ _ (by omega)]; exact hG'.2.1.2.1, by rw [hEz.i _ _ (by omega)]; exact n2 τ' hG'.2.2.2.1, ?_, ⟨s0, sr', s13, s56, s57, s60, s61, s62, s79, s137⟩, hE8⟩⟩
    exact ((hEmm.mo (fun r k w => Or.inl w)).tr (hG'.2.2.2.1.mo (fun r k w => Or.inl (Or.inl w)))).tr (hEz.mo (fun r k w => Or.inr w))
  · intro σ' τ' hB'
    unfold j_Mo_land_95
    rw [x_isGoodB hB'.1.1, ob_eq, if_pos rfl]
    exact w2_d ⟨hEc.tr (hB'.2.1.mo (fun r k w => by omega)), Or.inr ⟨rfl, rfl, hB'.1.2.1.symm, hB'.1.2.2.symm, n2 τ' hB'.2.2.1, hEmm.tr (hB'.2.2.1.mo (fun r k w => Or.inl w))⟩⟩
end
