/-! other tempers: both sides -/
section
variable {ld : SS} {nw : Nat → Int} {a b m mi : Nat}
/-- what isn't asked for stays as it is: no more changes, and as long -/
theorem prj (hnw : ∀ i, i < 4 → 0 ≤ nw i ∧ nw i ≤ 9) (hab : a ≠ b) {y0 y1 y2 y3 : Int} (h0 : 0 ≤ y0 ∧ y0 ≤ 9) (h1 : 0 ≤ y1 ∧ y1 ≤ 9) (h2 : 0 ≤ y2 ∧ y2 ≤ 9) (h3 : 0 ≤ y3 ∧ y3 ≤ 9) (hg : gd ld a b m mi y0 y1 y2 y3) : ∃ z0 z1 z2 z3, bx ld nw z0 z1 z2 z3 ∧ gd ld a b m mi z0 z1 z2 z3 ∧ ds nw z0 z1 z2 z3 ≤ ds nw y0 y1 y2 y3 ∧ (ds nw z0 z1 z2 z3 = ds nw y0 y1 y2 y3 → z0 = y0 ∧ z1 = y1 ∧ z2 = y2 ∧ z3 = y3) := by
  have n0 := hnw 0 (by omega)
  have n1 := hnw 1 (by omega)
  have n2 := hnw 2 (by omega)
  have n3 := hnw 3 (by omega)
  have a0 := ab_v (y0 - nw 0)
  have a1 := ab_v (y1 - nw 1)
  have a2 := ab_v (y2 - nw 2)
  have a3 := ab_v (y3 - nw 3)
  have z0 : ab (nw 0 - nw 0) = 0 := by rw [Int.sub_self]; rfl
  have z1 : ab (nw 1 - nw 1) = 0 := by rw [Int.sub_self]; rfl
  have z2 : ab (nw 2 - nw 2) = 0 := by rw [Int.sub_self]; rfl
  have z3 : ab (nw 3 - nw 3) = 0 := by rw [Int.sub_self]; rfl
  have u0 : ¬ askB ld 2 → loF ld nw 0 = nw 0 ∧ hiF ld nw 0 = nw 0 := fun z => lohi_un 0 z
  have u1 : ¬ askB ld 3 → loF ld nw 1 = nw 1 ∧ hiF ld nw 1 = nw 1 := fun z => lohi_un 1 z
  have u2 : ¬ askB ld 2 → loF ld nw 2 = nw 2 ∧ hiF ld nw 2 = nw 2 := fun z => lohi_un 2 z
  have u3 : ¬ askB ld 3 → loF ld nw 3 = nw 3 ∧ hiF ld nw 3 = nw 3 := fun z => lohi_un 3 z
  have s0 : askB ld 2 → loF ld nw 0 = 0 ∧ hiF ld nw 0 = 9 := fun z => lohi_as 0 z
  have s1 : askB ld 3 → loF ld nw 1 = 0 ∧ hiF ld nw 1 = 9 := fun z => lohi_as 1 z
  have s2 : askB ld 2 → loF ld nw 2 = 0 ∧ hiF ld nw 2 = 9 := fun z => lohi_as 2 z
  have s3 : askB ld 3 → loF ld nw 3 = 0 ∧ hiF ld nw 3 = 9 := fun z => lohi_as 3 z
  unfold bx ds
  by_cases k2 : askB ld 2
  · have s0 := s0 k2
    have s2 := s2 k2
    by_cases k3 : askB ld 3
    · have s1 := s1 k3
      have s3 := s3 k3
      exact ⟨y0, y1, y2, y3, ⟨by omega, by omega, by omega, by omega⟩, hg, Int.le_refl _, fun _ => ⟨rfl, rfl, rfl, rfl⟩⟩
    · have u1 := u1 k3
      have u3 := u3 k3
      exact ⟨y0, nw 1, y2, nw 3, ⟨by omega, by omega, by omega, by omega⟩, (gd_ask hab (fun _ => ⟨rfl, rfl⟩) (fun z => absurd z k3)).mp hg, by omega, fun z => ⟨rfl, by omega, rfl, by omega⟩⟩
  · have u0 := u0 k2
    have u2 := u2 k2
    by_cases k3 : askB ld 3
    · have s1 := s1 k3
      have s3 := s3 k3
      exact ⟨nw 0, y1, nw 2, y3, ⟨by omega, by omega, by omega, by omega⟩, (gd_ask hab (fun z => absurd z k2) (fun _ => ⟨rfl, rfl⟩)).mp hg, by omega, fun z => ⟨by omega, rfl, by omega, rfl⟩⟩
    · have u1 := u1 k3
      have u3 := u3 k3
      exact ⟨nw 0, nw 1, nw 2, nw 3, ⟨by omega, by omega, by omega, by omega⟩, (gd_ask hab (fun z => absurd z k2) (fun z => absurd z k3)).mp hg, by omega, fun z => ⟨by omega, by omega, by omega, by omega⟩⟩
theorem dgV_of (x0 x1 x2 x3 : Nat) (h0 : x0 < 10) (h1 : x1 < 10) (h2 : x2 < 10) (h3 : x3 < 10) : dgV (1000 * x0 + 100 * x1 + 10 * x2 + x3) 0 = x0 ∧ dgV (1000 * x0 + 100 * x1 + 10 * x2 + x3) 1 = x1 ∧ dgV (1000 * x0 + 100 * x1 + 10 * x2 + x3) 2 = x2 ∧ dgV (1000 * x0 + 100 * x1 + 10 * x2 + x3) 3 = x3 := by
  refine ⟨?_, ?_, ?_, ?_⟩
  · show (1000 * x0 + 100 * x1 + 10 * x2 + x3) / 1000 % 10 = x0; omega
  · show (1000 * x0 + 100 * x1 + 10 * x2 + x3) / 100 % 10 = x1; omega
  · show (1000 * x0 + 100 * x1 + 10 * x2 + x3) / 10 % 10 = x2; omega
  · show (1000 * x0 + 100 * x1 + 10 * x2 + x3) % 10 = x3; omega
theorem dgV_lt (v i : Nat) : dgV v i < 10 := by
  unfold dgV
  split
  · omega
  · split
    · omega
    · split <;> omega
theorem lx_lt (v w : Nat) (hw : w < 10000) (h : v < w) : lx (dgV v 0) (dgV v 1) (dgV v 2) (dgV v 3) (dgV w 0) (dgV w 1) (dgV w 2) (dgV w 3) := by
  have a0 : dgV v 0 = v / 1000 % 10 := rfl
  have a1 : dgV v 1 = v / 100 % 10 := rfl
  have a2 : dgV v 2 = v / 10 % 10 := rfl
  have a3 : dgV v 3 = v % 10 := rfl
  have b0' : dgV w 0 = w / 1000 % 10 := rfl
  have b1' : dgV w 1 = w / 100 % 10 := rfl
  have b2' : dgV w 2 = w / 10 % 10 := rfl
  have b3' : dgV w 3 = w % 10 := rfl
  have hv : v = 1000 * dgV v 0 + 100 * dgV v 1 + 10 * dgV v 2 + dgV v 3 := by rw [a0, a1, a2, a3]; omega
  have hw' : w = 1000 * dgV w 0 + 100 * dgV w 1 + 10 * dgV w 2 + dgV w 3 := by rw [b0', b1', b2', b3']; omega
  have t0 := dgV_lt v 0
  have t1 := dgV_lt v 1
  have t2 := dgV_lt v 2
  have t3 := dgV_lt v 3
  have u0 := dgV_lt w 0
  have u1 := dgV_lt w 1
  have u2 := dgV_lt w 2
  have u3 := dgV_lt w 3
  clear a0 a1 a2 a3 b0' b1' b2' b3'
  generalize dgV v 0 = p0 at *
  generalize dgV v 1 = p1 at *
  generalize dgV v 2 = p2 at *
  generalize dgV v 3 = p3 at *
  generalize dgV w 0 = r0 at *
  generalize dgV w 1 = r1 at *
  generalize dgV w 2 = r2 at *
  generalize dgV w 3 = r3 at *
  unfold lx
  omega
/-- the class's find and the reference's best are one -/
theorem fnd_bst (hnw : ∀ i, i < 4 → 0 ≤ nw i ∧ nw i ≤ 9) (hab : a ≠ b) {C x0 x1 x2 x3 : Int} (hf : Fnd ld nw a b m mi C x0 x1 x2 x3) (hmin : ∀ y0 y1 y2 y3, bx ld nw y0 y1 y2 y3 → ds nw y0 y1 y2 y3 < C → ¬ gd ld a b m mi y0 y1 y2 y3) {τ : SS} {r : Int} (hB : Bst ld nw a b m mi τ 10000 r) : r = C ∧ gi τ 129 0 = x0 ∧ gi τ 129 1 = x1 ∧ gi τ 129 2 = x2 ∧ gi τ 129 3 = x3 := by
  obtain ⟨⟨f0, f1, f2, f3⟩, fd, fg, fl⟩ := hf
  have l0 := lohi (ld := ld) hnw 0 (by omega)
  have l1 := lohi (ld := ld) hnw 1 (by omega)
  have l2 := lohi (ld := ld) hnw 2 (by omega)
  have l3 := lohi (ld := ld) hnw 3 (by omega)
  obtain ⟨X0, rfl⟩ : ∃ X : Nat, x0 = X := ⟨x0.toNat, by omega⟩
  obtain ⟨X1, rfl⟩ : ∃ X : Nat, x1 = X := ⟨x1.toNat, by omega⟩
  obtain ⟨X2, rfl⟩ : ∃ X : Nat, x2 = X := ⟨x2.toNat, by omega⟩
  obtain ⟨X3, rfl⟩ : ∃ X : Nat, x3 = X := ⟨x3.toNat, by omega⟩
  obtain ⟨d0, d1, d2, d3⟩ := dgV_of X0 X1 X2 X3 (by omega) (by omega) (by omega) (by omega)
  have hV : 1000 * X0 + 100 * X1 + 10 * X2 + X3 < 10000 := by omega
  generalize 1000 * X0 + 100 * X1 + 10 * X2 + X3 = V at d0 d1 d2 d3 hV
  have gV : gdV ld a b m mi V := by unfold gdV; rw [d0, d1, d2, d3]; exact fg
  have dV : dsV nw V = C := by unfold dsV; rw [d0, d1, d2, d3]; exact fd
  rcases hB with ⟨_, hno⟩ | ⟨hr0, v0, hv0, hg0, hd0, h129, hall⟩
  · exact absurd gV (hno V hV)
  · have hle := hall V hV gV
    have t0 := dgV_lt v0 0
    have t1 := dgV_lt v0 1
    have t2 := dgV_lt v0 2
    have t3 := dgV_lt v0 3
    obtain ⟨z0, z1, z2, z3, zb, zg, zd, ze⟩ := prj (nw := nw) hnw hab (y0 := dgV v0 0) (y1 := dgV v0 1) (y2 := dgV v0 2) (y3 := dgV v0 3) (by omega) (by omega) (by omega) (by omega) hg0
    have hzC : ¬ ds nw z0 z1 z2 z3 < C := fun w => hmin z0 z1 z2 z3 zb w zg
    have hd0' : ds nw (dgV v0 0) (dgV v0 1) (dgV v0 2) (dgV v0 3) = r := hd0
    have hrC : r = C := by omega
    obtain ⟨w0, w1, w2, w3⟩ := ze (by omega)
    have hb0 : bx ld nw (dgV v0 0) (dgV v0 1) (dgV v0 2) (dgV v0 3) := by rw [← w0, ← w1, ← w2, ← w3]; exact zb
    have hv : v0 = V := by
      by_cases e : v0 < V
      · exfalso
        have hl := lx_lt v0 V hV e
        rw [d0, d1, d2, d3] at hl
        exact fl _ _ _ _ hb0 (by omega) hl hg0
      · omega
    rw [h129 0 (by omega), h129 1 (by omega), h129 2 (by omega), h129 3 (by omega), hv, d0, d1, d2, d3]
    exact ⟨hrC, rfl, rfl, rfl, rfl⟩
theorem none_bst (hnw : ∀ i, i < 4 → 0 ≤ nw i ∧ nw i ≤ 9) (hab : a ≠ b) (hno : ∀ y0 y1 y2 y3, bx ld nw y0 y1 y2 y3 → ¬ gd ld a b m mi y0 y1 y2 y3) {τ : SS} {r : Int} (hB : Bst ld nw a b m mi τ 10000 r) : r = -1 := by
  rcases hB with ⟨h, _⟩ | ⟨hr0, v0, hv0, hg0, hd0, h129, hall⟩
  · exact h
  · exfalso
    have t0 := dgV_lt v0 0
    have t1 := dgV_lt v0 1
    have t2 := dgV_lt v0 2
    have t3 := dgV_lt v0 3
    obtain ⟨z0, z1, z2, z3, zb, zg, _⟩ := prj (nw := nw) hnw hab (y0 := dgV v0 0) (y1 := dgV v0 1) (y2 := dgV v0 2) (y3 := dgV v0 3) (by omega) (by omega) (by omega) (by omega) hg0
    exact hno z0 z1 z2 z3 zb zg
end
theorem y_temper (a b c d : Int) : MP (f_Qu_temper a b c d) (f_Mo_temper a b c d) := by
  rintro σ ⟨ld, bk, hok, hL, hM, hEA, hRO, hLY, hRP, hTA⟩
  have hI : Inv σ := ⟨ld, bk, hok, hL, hM, hEA, hRO, hLY, hRP, hTA⟩
  unfold f_Qu_temper f_Fi_layTempers
  have hxc := x_couple hok hL a b c
  -- nothing that can be
  have none : ∀ s1, EqP (fun r k => r = 61 ∧ k = 5) σ s1 → gi s1 61 5 = 0 → (¬ cplB ld a b c ∨ ¬ (1 ≤ d ∧ d ≤ 60)) → Wp (f_Mo_temper a b c d s1) fun r' σ2 => -2 = r' ∧ Inv σ2 := by
    intro s1 hE h5 hcd
    unfold f_Mo_temper
    refine wp_os ?_
    have hE2 : EqP SCl σ (si s1 86 62 0) := EqP.si (hE.mo (fun r k z => by omega)) _ _ _ (by omega)
    have h62 : gi (si s1 86 62 0) 86 62 = 0 := gi_same _ _ _ _
    have h52 : gi (si s1 86 62 0) 61 5 = 0 := by rw [gi_ne_r _ _ _ _ (by omega)]; exact h5
    generalize si s1 86 62 0 = s2 at hE2 h62 h52 ⊢
    have hI2 : Inv s2 := hI.ly hE2 ⟨0, by omega, h52, h62, fun i hi => absurd hi (Nat.not_lt_zero _)⟩
    have hM2 := hM.of hE2 (fun r k z => by omega)
    have hic := x_isCoupleM hok hM2 a b c
    by_cases hcp : cplB ld a b c
    · refine wp_eq (hic.1 hcp) (wp_f (by decide) ?_)
      exact wp_b0 (x_isIn d 1 60 s2) (hcd.resolve_left (fun z => z hcp)) (wp_t rfl (wp_some ⟨rfl, hI2⟩))
    · exact wp_eq (hic.2 hcp) (wp_t rfl (wp_some ⟨rfl, hI2⟩))
  have hE5 : EqP (fun r k => r = 61 ∧ k = 5) σ (si σ 61 5 0) := EqP.si (EqP.rf _ _) _ _ _ (by omega)
  have h5 : gi (si σ 61 5 0) 61 5 = 0 := gi_same _ _ _ _
  by_cases hcp : cplB ld a b c
  · refine wp_eq (hxc.1 hcp) (wp_ob ?_)
    obtain ⟨A, B, m, rfl, rfl, rfl, hc⟩ := cplB_nat hok hcp
    refine wp_eq (x_layNothing σ) (wp_f (by omega) ?_)
    generalize si σ 61 5 0 = s1 at hE5 h5 ⊢
    by_cases hd1 : d < 1
    · exact wp_t hd1 (wp_some (wp_some (none s1 hE5 h5 (Or.inr (by omega)))))
    refine wp_f hd1 ?_
    by_cases hd2 : d ≤ 60
    · obtain ⟨mi, rfl⟩ : ∃ n : Nat, d = n := ⟨d.toNat, by omega⟩
      have hmi : 1 ≤ mi ∧ mi ≤ 60 := by omega
      obtain ⟨q1, q2, q3⟩ : A < 6 ∧ B < 6 ∧ m < 6 := ⟨by have := hc.1; have := hok.2.2.1; omega, by have := hc.2.1; have := hok.2.2.1; omega, by have := hc.2.2.2.1; have := hok.2.2.2.1; omega⟩
      have hab : A ≠ B := hc.2.2.1
      have hEA1 := hEA.1.1.1
      have ea : ∀ j, j < 12 → gi σ 47 j = gi σ 118 (1 + j) ∧ 0 ≤ gi σ 47 j ∧ gi σ 47 j ≤ 9 := fun j hj => by
        have := hEA1 j hj
        unfold cv at this
        rw [if_pos hj] at this
        exact this
      obtain ⟨nw, hnwd⟩ : ∃ nw : Nat → Int, nw = fun i => gi σ 47 (tiF A B i) := ⟨_, rfl⟩
      have hti : ∀ i, i < 4 → tiF A B i < 12 := fun i hi => by unfold tiF; split <;> omega
      have hnw : ∀ i, i < 4 → 0 ≤ nw i ∧ nw i ≤ 9 := fun i hi => by rw [hnwd]; exact (ea _ (hti i hi)).2
      obtain ⟨v0, v1, v2, v3⟩ := tiF_v A B
      refine wp_t hd2 (wp_os ?_)
      have hE2 : EqP (fun r k => r = 61 ∧ (k = 5 ∨ k = 13)) σ (si s1 61 13 (mi : Int)) := EqP.si (hE5.mo (fun r k z => by omega)) _ _ _ (by omega)
      have g13 : gi (si s1 61 13 (mi : Int)) 61 13 = mi := gi_same _ _ _ _
      have g5 : gi (si s1 61 13 (mi : Int)) 61 5 = 0 := by rw [gi_ne_k _ _ _ _ (by omega)]; exact h5
      generalize si s1 61 13 (mi : Int) = s2 at hE2 g13 g5 ⊢
      have hL2 := hL.of hE2 (fun r k z => by omega)
      refine wp_call (x_setBounds hok hL2 hc (nw := nw) (fun i hi => by rw [hE2.i _ _ (by omega), hnwd])) ?_
      rintro _ s3 ⟨hE3, h70⟩
      have hS3 : StT ld nw A B mi s3 := ⟨hL2.of hE3 (fun r k z => by omega), fun i hi => by rw [hE3.i _ _ (by omega), hE2.i _ _ (by omega), hnwd], h70, by rw [hE3.i _ _ (by omega)]; exact g13, by rw [hE3.i _ _ (by omega)]; exact g5⟩
      have hlt := x_lt35 hok hc hmi hnw s3 37 0 FU s3 (by omega) (by omega) (by unfold FU; omega) hS3 (EqP.rf _ _) (fun y0 y1 y2 y3 _ hd => by
        exfalso
        unfold ds at hd
        have := ab_v (y0 - nw 0)
        have := ab_v (y1 - nw 1)
        have := ab_v (y2 - nw 2)
        have := ab_v (y3 - nw 3)
        omega)
      refine wp_mono hlt ?_
      rintro r s4 ⟨hE4, hres⟩
      refine wp_some ?_
      have hEc : EqP (fun r k => r = 61 ∧ (k = 5 ∨ k = 13) ∨ r = 65 ∨ 69 ≤ r ∧ r ≤ 71 ∨ 76 ≤ r ∧ r ≤ 78 ∨ r = 18 ∨ r = 21) σ s4 := ((hE2.mo (fun r k z => by omega)).tr (hE3.mo (fun r k z => by omega))).tr (hE4.mo (fun r k z => by omega))
      -- the reference
      unfold f_Mo_temper
      refine wp_os ?_
      have hE5' : EqP (fun r k => r = 86 ∧ k = 62) s4 (si s4 86 62 0) := EqP.si (EqP.rf _ _) _ _ _ (by omega)
      have h62 : gi (si s4 86 62 0) 86 62 = 0 := gi_same _ _ _ _
      generalize si s4 86 62 0 = s5 at hE5' h62 ⊢
      have hM5 := (hM.of hEc (fun r k z => by omega)).of hE5' (fun r k z => by omega)
      refine wp_eq ((x_isCoupleM hok hM5 _ _ _).1 hcp) (wp_f (by decide) ?_)
      refine wp_b1 (x_isIn (mi : Int) 1 60 s5) ⟨by omega, by omega⟩ (wp_f (by decide) ?_)
      have i1 : iw (1 + iw (2 * (A : Int))) = ((1 + 2 * A : Nat) : Int) := by rw [iwc (x := 2 * (A : Int)) (by omega) (by omega), iwc (by omega) (by omega)]; omega
      have i2 : iw (((1 + 2 * A : Nat) : Int) + 1) = ((1 + 2 * A + 1 : Nat) : Int) := by rw [iwc (by omega) (by omega)]; omega
      have i3 : iw (1 + iw (2 * (B : Int))) = ((1 + 2 * B : Nat) : Int) := by rw [iwc (x := 2 * (B : Int)) (by omega) (by omega), iwc (by omega) (by omega)]; omega
      have i4 : iw (((1 + 2 * B : Nat) : Int) + 1) = ((1 + 2 * B + 1 : Nat) : Int) := by rw [iwc (by omega) (by omega)]; omega
      simp only [i1, i2, i3, i4, Int.toNat_natCast]
      refine wp_oc (by omega) (wp_os (wp_oc (by omega) (wp_os (wp_oc (by omega) (wp_os (wp_oc (by omega) (wp_os ?_)))))))
      have e118 : ∀ j, j < 12 → gi s5 118 (1 + j) = gi σ 47 j := fun j hj => by rw [hE5'.i _ _ (by omega), hEc.i _ _ (by omega)]; exact (ea j hj).1.symm
      have n128 : ∀ (s : SS) k v j, gi (si s 128 k v) 118 j = gi s 118 j := fun s k v j => gi_ne_r _ _ _ _ (by omega)
      rw [n128, n128, n128, n128, n128, n128, show 1 + 2 * A + 1 = 1 + (2 * A + 1) by omega, show 1 + 2 * B + 1 = 1 + (2 * B + 1) by omega, e118 (2 * A) (by omega), e118 (2 * A + 1) (by omega), e118 (2 * B) (by omega), e118 (2 * B + 1) (by omega)]
      have hE6 : EqP (fun r _ => r = 128) s5 (si (si (si (si s5 128 0 (gi σ 47 (2 * A))) 128 1 (gi σ 47 (2 * A + 1))) 128 2 (gi σ 47 (2 * B))) 128 3 (gi σ 47 (2 * B + 1))) := EqP.si (P := fun r _ => r = 128) (EqP.si (P := fun r _ => r = 128) (EqP.si (P := fun r _ => r = 128) (EqP.si (P := fun r _ => r = 128) (EqP.rf _ _) _ _ _ rfl) _ _ _ rfl) _ _ _ rfl) _ _ _ rfl
      have h128 : ∀ i, i < 4 → gi (si (si (si (si s5 128 0 (gi σ 47 (2 * A))) 128 1 (gi σ 47 (2 * A + 1))) 128 2 (gi σ 47 (2 * B))) 128 3 (gi σ 47 (2 * B + 1))) 128 i = nw i := by
        intro i hi
        have h4 : i = 0 ∨ i = 1 ∨ i = 2 ∨ i = 3 := by omega
        rcases h4 with rfl | rfl | rfl | rfl
        · rw [gi_ne_k _ _ _ _ (by omega), gi_ne_k _ _ _ _ (by omega), gi_ne_k _ _ _ _ (by omega), gi_same, hnwd]
          show _ = gi σ 47 (tiF A B 0)
          rw [v0]
        · rw [gi_ne_k _ _ _ _ (by omega), gi_ne_k _ _ _ _ (by omega), gi_same, hnwd]
          show _ = gi σ 47 (tiF A B 1)
          rw [v1]
        · rw [gi_ne_k _ _ _ _ (by omega), gi_same, hnwd]
          show _ = gi σ 47 (tiF A B 2)
          rw [v2]
        · rw [gi_same, hnwd]
          show _ = gi σ 47 (tiF A B 3)
          rw [v3]
      generalize si (si (si (si s5 128 0 (gi σ 47 (2 * A))) 128 1 (gi σ 47 (2 * A + 1))) 128 2 (gi σ 47 (2 * B))) 128 3 (gi σ 47 (2 * B + 1)) = s6 at hE6 h128 ⊢
      have hM6 := hM5.of hE6 (fun r k z => by omega)
      have h54 : gi s6 86 54 = 0 := by rw [hE6.i _ _ (by omega), hE5'.i _ _ (by omega), hEc.i _ _ (by omega)]; exact hTA.2.2.2.2.2.2
      refine wp_call (x_changes hok hc hmi hnw s6 10000 0 FU (-1) s6 (by omega) (by unfold FU; omega) hM6 h54 h128 (EqP.rf _ _) (Or.inl ⟨rfl, fun w hw => absurd hw (Nat.not_lt_zero _)⟩)) ?_
      rintro R s7 ⟨hE7, hB7⟩
      have h1287 : ∀ i, i < 4 → gi s7 128 i = nw i := fun i hi => by rw [hE7.i _ _ (by omega)]; exact h128 i hi
      refine wp_eq (x_layTempersM ⟨q1, q2, hab⟩ 128 (Or.inl rfl) s7) ?_
      rw [h1287 0 (by omega), h1287 1 (by omega), h1287 2 (by omega), h1287 3 (by omega)]
      have hE8 : EqP (fun r k => r = 118 ∧ (k = 1 + 2 * A ∨ k = 1 + 2 * A + 1 ∨ k = 1 + 2 * B ∨ k = 1 + 2 * B + 1)) s7 (si (si (si (si s7 118 (1 + 2 * A) (nw 0)) 118 (1 + 2 * A + 1) (nw 1)) 118 (1 + 2 * B) (nw 2)) 118 (1 + 2 * B + 1) (nw 3)) := EqP.si (EqP.si (EqP.si (EqP.si (EqP.rf _ _) _ _ _ (by omega)) _ _ _ (by omega)) _ _ _ (by omega)) _ _ _ (by omega)
      have w0 : gi (si (si (si (si s7 118 (1 + 2 * A) (nw 0)) 118 (1 + 2 * A + 1) (nw 1)) 118 (1 + 2 * B) (nw 2)) 118 (1 + 2 * B + 1) (nw 3)) 118 (1 + 2 * A) = nw 0 := by rw [gi_ne_k _ _ _ _ (by omega), gi_ne_k _ _ _ _ (by omega), gi_ne_k _ _ _ _ (by omega), gi_same]
      have w1 : gi (si (si (si (si s7 118 (1 + 2 * A) (nw 0)) 118 (1 + 2 * A + 1) (nw 1)) 118 (1 + 2 * B) (nw 2)) 118 (1 + 2 * B + 1) (nw 3)) 118 (1 + 2 * A + 1) = nw 1 := by rw [gi_ne_k _ _ _ _ (by omega), gi_ne_k _ _ _ _ (by omega), gi_same]
      have w2 : gi (si (si (si (si s7 118 (1 + 2 * A) (nw 0)) 118 (1 + 2 * A + 1) (nw 1)) 118 (1 + 2 * B) (nw 2)) 118 (1 + 2 * B + 1) (nw 3)) 118 (1 + 2 * B) = nw 2 := by rw [gi_ne_k _ _ _ _ (by omega), gi_same]
      have w3 : gi (si (si (si (si s7 118 (1 + 2 * A) (nw 0)) 118 (1 + 2 * A + 1) (nw 1)) 118 (1 + 2 * B) (nw 2)) 118 (1 + 2 * B + 1) (nw 3)) 118 (1 + 2 * B + 1) = nw 3 := gi_same _ _ _ _
      generalize si (si (si (si s7 118 (1 + 2 * A) (nw 0)) 118 (1 + 2 * A + 1) (nw 1)) 118 (1 + 2 * B) (nw 2)) 118 (1 + 2 * B + 1) (nw 3) = s8 at hE8 w0 w1 w2 w3 ⊢
      -- all tempers are as they were
      have hE58 : EqP (fun r k => r = 118 ∧ (k = 1 + 2 * A ∨ k = 1 + 2 * A + 1 ∨ k = 1 + 2 * B ∨ k = 1 + 2 * B + 1) ∨ 128 ≤ r ∧ r ≤ 130 ∨ PMk 119 r k) s5 s8 := ((hE6.mo (fun r k z => by omega)).tr (hE7.mo (fun r k z => by omega))).tr (hE8.mo (fun r k z => by omega))
      have hEs : EqP (fun r k => SCl r k ∨ r = 118) σ s8 := ((hEc.mo (fun r k z => by omega)).tr (hE5'.mo (fun r k z => by omega))).tr (hE58.mo (fun r k z => by omega))
      have g118 : ∀ k, gi s8 118 k = gi σ 118 k := by
        intro k
        by_cases e : k = 1 + 2 * A ∨ k = 1 + 2 * A + 1 ∨ k = 1 + 2 * B ∨ k = 1 + 2 * B + 1
        · have n0 : nw 0 = gi σ 118 (1 + 2 * A) := by rw [hnwd]; show gi σ 47 (tiF A B 0) = _; rw [v0, (ea _ (by omega)).1]
          have n1 : nw 1 = gi σ 118 (1 + 2 * A + 1) := by rw [hnwd]; show gi σ 47 (tiF A B 1) = _; rw [v1, (ea _ (by omega)).1, show 1 + (2 * A + 1) = 1 + 2 * A + 1 by omega]
          have n2 : nw 2 = gi σ 118 (1 + 2 * B) := by rw [hnwd]; show gi σ 47 (tiF A B 2) = _; rw [v2, (ea _ (by omega)).1]
          have n3 : nw 3 = gi σ 118 (1 + 2 * B + 1) := by rw [hnwd]; show gi σ 47 (tiF A B 3) = _; rw [v3, (ea _ (by omega)).1, show 1 + (2 * B + 1) = 1 + 2 * B + 1 by omega]
          rcases e with rfl | rfl | rfl | rfl
          · rw [w0, n0]
          · rw [w1, n1]
          · rw [w2, n2]
          · rw [w3, n3]
        · rw [hE58.i _ _ (by omega), hE5'.i _ _ (by omega), hEc.i _ _ (by omega)]
      have mk : ∀ τ, EqP (fun r k => r = 122 ∨ r = 86 ∧ k = 62) s8 τ → LY τ → Inv τ := by
        intro τ hEt hly
        have hT : EqP (fun r k => SCl r k ∨ r = 118) σ τ := hEs.tr (hEt.mo (fun r k z => by omega))
        refine ⟨ld, bk, hok, hL.of hT (fun r k z => by omega), hM.of hT (fun r k z => by omega), hEA.of (fun r k z => ?_), hRO.of (fun r k z => hT.i r k (by omega)), hly, hRP.of (fun r k z => hT r k (by omega)), hTA.of (fun r k z => hT.i r k (by omega))⟩
        by_cases e : r = 118
        · rw [e, hEt.i _ _ (by omega)]; exact g118 k
        · exact hT.i r k (by omega)
      have k62 : gi s8 86 62 = 0 := by rw [hE58.i _ _ (by omega)]; exact h62
      have k129 : ∀ i, gi s8 129 i = gi s7 129 i := fun i => hE8.i _ _ (by omega)
      have kc : ∀ r k, r = 61 ∨ r = 65 → gi s8 r k = gi s4 r k := fun r k h => by rw [hE58.i _ _ (by omega), hE5'.i _ _ (by omega)]
      rcases hres with ⟨rfl, hr5, hno⟩ | ⟨hr0, ⟨x0, x1, x2, x3, hl, hf⟩, hmin⟩
      · have hR := none_bst hnw hab hno hB7
        refine wp_f (by omega) (wp_some ⟨rfl, mk s8 (EqP.rf _ _) ⟨0, by omega, by rw [kc _ _ (Or.inl rfl)]; exact hr5, k62, fun i hi => absurd hi (Nat.not_lt_zero _)⟩⟩)
      · obtain ⟨hR, b0', b1', b2', b3'⟩ := fnd_bst hnw hab hf hmin hB7
        refine wp_t (by omega) ?_
        have z := cp_loop (fun f i s => l_Mo_temper_128 R f i s) (fun τ => some (R, si τ 86 62 4)) 122 129 4 0 0 (by omega) (fun _ => True) (fun _ _ _ _ => trivial) (fun f i s _ hi => by
          show l_Mo_temper_128 R (f + 1) (i : Int) s = _
          rw [l_Mo_temper_128, if_neg (by omega), oc_pos (by omega), oc_pos (by omega), os_eq, Int.toNat_natCast, Nat.zero_add, show iw ((i : Int) + 1) = ((i + 1 : Nat) : Int) by rw [iwc (by omega) (by omega)]; omega]) (fun f s _ => by
          show l_Mo_temper_128 R (f + 1) ((4 : Nat) : Int) s = _
          rw [l_Mo_temper_128, if_pos (by omega), os_eq]) 4 0 FU s8 (by omega) (by unfold FU; omega) trivial
        refine wp_eqe z ⟨by omega, ?_⟩
        obtain ⟨l5, l0, l1, l2, l3⟩ := hl
        refine mk _ (EqP.si (EqP.sr (EqP.rf _ _) _ _ (fun k => by omega)) _ _ _ (by omega)) ⟨4, by omega, ?_, gi_same _ _ _ _, fun i hi => ?_⟩
        · rw [gi_ne_r _ _ _ _ (by omega), gi_sr_ne _ _ _ (by omega), kc _ _ (Or.inl rfl)]; exact l5
        · rw [gi_ne_r _ _ _ _ (show 65 ≠ 86 by omega), gi_sr_ne _ _ _ (show 65 ≠ 122 by omega), kc _ _ (Or.inr rfl), gi_ne_r _ _ _ _ (show 122 ≠ 86 by omega), gi_sr_same, if_pos (by omega), show 0 + (i - 0) = i by omega, k129]
          have h4 : i = 0 ∨ i = 1 ∨ i = 2 ∨ i = 3 := by omega
          rcases h4 with rfl | rfl | rfl | rfl
          · rw [l0, b0']
          · rw [l1, b1']
          · rw [l2, b2']
          · rw [l3, b3']
    · exact wp_f hd2 (wp_some (wp_some (none s1 hE5 h5 (Or.inr (by omega)))))
  · refine wp_eq (hxc.2 hcp) (wp_ob ?_)
    refine wp_eq (x_layNothing σ) (wp_t rfl (wp_some (wp_some (none _ hE5 h5 (Or.inl hcp)))))
