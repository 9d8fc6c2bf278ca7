/-! other tempers: the class's search -/
def ab (z : Int) : Int := if 0 ≤ z then z else -z
theorem ab_v (z : Int) : 0 ≤ ab z ∧ (ab z = z ∨ ab z = -z) ∧ (z ≤ ab z ∧ -z ≤ ab z) := by
  unfold ab
  by_cases h : 0 ≤ z
  · rw [if_pos h]; omega
  · rw [if_neg h]; omega
theorem zabs_s (z : Int) (h : -1000 ≤ z ∧ z ≤ 1000) : zabs z = ab z := by
  unfold zabs ab
  by_cases h0 : 0 ≤ z
  · rw [if_pos h0, if_pos h0]
  · rw [if_neg h0, if_neg h0, iwc (by omega) (by omega)]; omega
def ds (nw : Nat → Int) (x0 x1 x2 x3 : Int) : Int := ab (x0 - nw 0) + ab (x1 - nw 1) + ab (x2 - nw 2) + ab (x3 - nw 3)
def bx (ld : SS) (nw : Nat → Int) (x0 x1 x2 x3 : Int) : Prop := (loF ld nw 0 ≤ x0 ∧ x0 ≤ hiF ld nw 0) ∧ (loF ld nw 1 ≤ x1 ∧ x1 ≤ hiF ld nw 1) ∧ (loF ld nw 2 ≤ x2 ∧ x2 ≤ hiF ld nw 2) ∧ (loF ld nw 3 ≤ x3 ∧ x3 ≤ hiF ld nw 3)
def lx (y0 y1 y2 y3 x0 x1 x2 x3 : Int) : Prop := y0 < x0 ∨ y0 = x0 ∧ (y1 < x1 ∨ y1 = x1 ∧ (y2 < x2 ∨ y2 = x2 ∧ y3 < x3))
/-- all with that sum ahead of these three are tried in vain -/
def Tst (ld : SS) (nw : Nat → Int) (a b m mi : Nat) (C A B D : Int) : Prop := ∀ y0 y1 y2 y3, bx ld nw y0 y1 y2 y3 → ds nw y0 y1 y2 y3 = C → (y0 < A ∨ y0 = A ∧ (y1 < B ∨ y1 = B ∧ y2 < D)) → ¬ gd ld a b m mi y0 y1 y2 y3
def Fnd (ld : SS) (nw : Nat → Int) (a b m mi : Nat) (C x0 x1 x2 x3 : Int) : Prop := bx ld nw x0 x1 x2 x3 ∧ ds nw x0 x1 x2 x3 = C ∧ gd ld a b m mi x0 x1 x2 x3 ∧ ∀ y0 y1 y2 y3, bx ld nw y0 y1 y2 y3 → ds nw y0 y1 y2 y3 = C → lx y0 y1 y2 y3 x0 x1 x2 x3 → ¬ gd ld a b m mi y0 y1 y2 y3
def lie4 (τ : SS) (x0 x1 x2 x3 : Int) : Prop := gi τ 61 5 = 4 ∧ gi τ 65 0 = x0 ∧ gi τ 65 1 = x1 ∧ gi τ 65 2 = x2 ∧ gi τ 65 3 = x3
def StT (ld : SS) (nw : Nat → Int) (a b mi : Nat) (σ : SS) : Prop := LC ld σ ∧ (∀ i, i < 4 → gi σ 47 (tiF a b i) = nw i) ∧ (∀ i, i < 4 → gi σ 70 i = loF ld nw i ∧ gi σ 71 i = hiF ld nw i) ∧ gi σ 61 13 = mi ∧ gi σ 61 5 = 0
theorem StT.of {ld : SS} {nw : Nat → Int} {a b mi : Nat} {σ τ : SS} (h : StT ld nw a b mi σ) (he : EqP PTe σ τ) (h5 : gi τ 61 5 = 0) : StT ld nw a b mi τ := by
  obtain ⟨h1, h2, h3, h4, _⟩ := h
  exact ⟨h1.of he (fun r k z => by omega), fun i hi => by rw [he.i _ _ (by omega)]; exact h2 i hi, fun i hi => by rw [he.i 70 _ (by omega), he.i 71 _ (by omega)]; exact h3 i hi, by rw [he.i _ _ (by omega)]; exact h4, h5⟩
section
variable {ld : SS} {nw : Nat → Int} {a b m mi : Nat} {C : Int}
theorem c81 (hok : LdOK ld) (hc : CPL ld a b m) (hmi : 1 ≤ mi ∧ mi ≤ 60) (hnw : ∀ i, i < 4 → 0 ≤ nw i ∧ nw i ≤ 9) (hC : 0 ≤ C ∧ C ≤ 36) {A B : Int} (hA : loF ld nw 0 ≤ A ∧ A ≤ hiF ld nw 0) (hB : loF ld nw 1 ≤ B ∧ B ≤ hiF ld nw 1) (y4 : Int) (self7 self40 : Int → SS → OO) (σ0 : SS) (Q : Int → SS → Prop)
    (found : ∀ (τ : SS) (x0 x1 x2 x3 : Int), EqP PTe σ0 τ → lie4 τ x0 x1 x2 x3 → Fnd ld nw a b m mi C x0 x1 x2 x3 → Q 1 τ)
    (none : ∀ (τ : SS), StT ld nw a b mi τ → EqP PTe σ0 τ → Tst ld nw a b m mi C A (B + 1) (loF ld nw 2) → Wp (self40 (iw (B + 1)) τ) Q) :
    ∀ (d : Nat) (x7 : Int) (fu : Nat) (σ : SS), x7 + d = hiF ld nw 2 + 1 → loF ld nw 2 ≤ x7 → d < fu → StT ld nw a b mi σ → EqP PTe σ0 σ → Tst ld nw a b m mi C A B x7 → Wp (l_Fi_layChanged_81 self7 self40 (100 * (a : Int) + 10 * (b : Int) + (m : Int)) C A y4 B (C - ab (A - nw 0) - ab (B - nw 1)) fu x7 σ) Q := by
  obtain ⟨q1, q2, q3⟩ : a < 6 ∧ b < 6 ∧ m < 6 := ⟨by have := hc.1; have := hok.2.2.1; omega, by have := hc.2.1; have := hok.2.2.1; omega, by have := hc.2.2.2.1; have := hok.2.2.2.1; omega⟩
  have hab : a ≠ b := hc.2.2.1
  obtain ⟨v0, v1, v2, v3⟩ := tiF_v a b
  have l0 := lohi (ld := ld) hnw 0 (by omega)
  have l1 := lohi (ld := ld) hnw 1 (by omega)
  have l2 := lohi (ld := ld) hnw 2 (by omega)
  have l3 := lohi (ld := ld) hnw 3 (by omega)
  have aA := ab_v (A - nw 0)
  have aB := ab_v (B - nw 1)
  have n0 := hnw 0 (by omega)
  have n1 := hnw 1 (by omega)
  have n2 := hnw 2 (by omega)
  have n3 := hnw 3 (by omega)
  intro d
  induction d with
  | zero =>
    intro x7 fu σ hx hlo hfu hS hE hT
    obtain ⟨fu, rfl⟩ : ∃ f, fu = f + 1 := ⟨fu - 1, by omega⟩
    have h71 := (hS.2.2.1 2 (by omega)).2
    rw [l_Fi_layChanged_81]
    refine wp_t (by omega) (none σ hS hE ?_)
    intro y0 y1 y2 y3 hy hd hl
    obtain ⟨b0, b1, b2, b3⟩ := id hy
    exact hT y0 y1 y2 y3 hy hd (by omega)
  | succ d ih =>
    intro x7 fu σ hx hlo hfu hS hE hT
    obtain ⟨fu, rfl⟩ : ∃ f, fu = f + 1 := ⟨fu - 1, by omega⟩
    obtain ⟨hL, h47, h70, h13, h5⟩ := id hS
    have h71 := (h70 2 (by omega)).2
    rw [l_Fi_layChanged_81]
    refine wp_f (by omega) ?_
    by_cases hneg : C - ab (A - nw 0) - ab (B - nw 1) < 0
    · refine wp_t hneg (none σ hS hE ?_)
      intro y0 y1 y2 y3 hy hd hl
      obtain ⟨b0, b1, b2, b3⟩ := id hy
      by_cases hAB : y0 = A ∧ y1 = B
      · exfalso
        obtain ⟨rfl, rfl⟩ := hAB
        unfold ds at hd
        have := ab_v (y2 - nw 2)
        have := ab_v (y3 - nw 3)
        omega
      · exact hT y0 y1 y2 y3 hy hd (by omega)
    · refine wp_f hneg ?_
      have a2 := ab_v (x7 - nw 2)
      refine wp_eq (x_temperNow a b m q1 q2 q3 2 (by omega) σ) (wp_ol ?_)
      rw [h47 2 (by omega), iwc (x := x7 - nw 2) (by omega) (by omega), zabs_s _ (by omega), iwc (x := C - ab (A - nw 0) - ab (B - nw 1) - ab (x7 - nw 2)) (by omega) (by omega), show iw (x7 + 1) = x7 + 1 by rw [iwc (by omega) (by omega)]]
      refine wp_eq (x_temperNow a b m q1 q2 q3 3 (by omega) σ) ?_
      rw [h47 3 (by omega)]
      refine wp_eq (x_tryTemper a b m q1 q2 q3 0 (by omega) A σ) ?_
      refine wp_eq (x_tryTemper a b m q1 q2 q3 1 (by omega) B _) ?_
      refine wp_eq (x_tryTemper a b m q1 q2 q3 2 (by omega) x7 _) ?_
      rw [v0, v1, v2]
      have hE1 : EqP PTe σ (si (si (si σ 69 (2 * a) A) 69 (2 * a + 1) B) 69 (2 * b) x7) := EqP.si (EqP.si (EqP.si (EqP.rf _ _) _ _ _ (by omega)) _ _ _ (by omega)) _ _ _ (by omega)
      have k0 : gi (si (si (si σ 69 (2 * a) A) 69 (2 * a + 1) B) 69 (2 * b) x7) 69 (2 * a) = A := by rw [gi_ne_k _ _ _ _ (by omega), gi_ne_k _ _ _ _ (by omega), gi_same]
      have k1 : gi (si (si (si σ 69 (2 * a) A) 69 (2 * a + 1) B) 69 (2 * b) x7) 69 (2 * a + 1) = B := by rw [gi_ne_k _ _ _ _ (by omega), gi_same]
      have k2 : gi (si (si (si σ 69 (2 * a) A) 69 (2 * a + 1) B) 69 (2 * b) x7) 69 (2 * b) = x7 := gi_same _ _ _ _
      have k5 : gi (si (si (si σ 69 (2 * a) A) 69 (2 * a + 1) B) 69 (2 * b) x7) 61 5 = 0 := by rw [gi_ne_r _ _ _ _ (by omega), gi_ne_r _ _ _ _ (by omega), gi_ne_r _ _ _ _ (by omega)]; exact h5
      generalize si (si (si σ 69 (2 * a) A) 69 (2 * a + 1) B) 69 (2 * b) x7 = σ1 at hE1 k0 k1 k2 k5 ⊢
      have hS1 := hS.of hE1 k5
      -- no other last one has that sum
      have last : ∀ y3, ds nw A B x7 y3 = C → y3 = nw 3 - (C - ab (A - nw 0) - ab (B - nw 1) - ab (x7 - nw 2)) ∨ y3 = nw 3 + (C - ab (A - nw 0) - ab (B - nw 1) - ab (x7 - nw 2)) := by
        intro y3 hd
        unfold ds at hd
        have := ab_v (y3 - nw 3)
        omega
      have nextT : (∀ y3, bx ld nw A B x7 y3 → ds nw A B x7 y3 = C → ¬ gd ld a b m mi A B x7 y3) → Tst ld nw a b m mi C A B (x7 + 1) := by
        intro hno y0 y1 y2 y3 hy hd hl
        by_cases e : y0 = A ∧ y1 = B ∧ y2 = x7
        · obtain ⟨rfl, rfl, rfl⟩ := e
          exact hno y3 hy hd
        · exact hT y0 y1 y2 y3 hy hd (by omega)
      by_cases hrest : C - ab (A - nw 0) - ab (B - nw 1) - ab (x7 - nw 2) < 0
      · refine wp_t hrest (ih (x7 + 1) fu σ1 (by omega) (by omega) (by omega) hS1 (hE.tr hE1) (nextT (fun y3 _ hd => ?_)))
        exfalso
        unfold ds at hd
        have := ab_v (y3 - nw 3)
        omega
      · refine wp_f hrest ?_
        generalize hRe : C - ab (A - nw 0) - ab (B - nw 1) - ab (x7 - nw 2) = Re at last hrest ⊢
        have hRe36 : 0 ≤ Re ∧ Re ≤ 36 := by omega
        have hds : ∀ y3, (y3 = nw 3 - Re ∨ y3 = nw 3 + Re) → ds nw A B x7 y3 = C := by
          intro y3 hy3
          unfold ds
          have : ab (y3 - nw 3) = Re := by
            unfold ab
            by_cases z : 0 ≤ y3 - nw 3
            · rw [if_pos z]; omega
            · rw [if_neg z]; omega
          omega
        rw [iwc (x := nw 3 - Re) (by omega) (by omega), show iw (nw 3 + Re) = nw 3 + Re by rw [iwc (by omega) (by omega)]]
        obtain ⟨hL1, h471, h701, h131, h51⟩ := id hS1
        refine wp_call (x_layIfLong hok hL1 hc hmi (h701 3 (by omega)).1 (h701 3 (by omega)).2 h131 h51 k0 k1 k2 (nw 3 - Re)) ?_
        rintro r2 σ2 ⟨hE2, ⟨j0, j1, j2⟩, ⟨rfl, j5, hn1⟩ | ⟨rfl, ⟨f1, f2, f3⟩, f5, f6⟩⟩
        · refine wp_t rfl ?_
          have hS2 := hS1.of hE2 j5
          obtain ⟨hL2, h472, h702, h132, h52⟩ := id hS2
          refine wp_call (x_layIfLong hok hL2 hc hmi (h702 3 (by omega)).1 (h702 3 (by omega)).2 h132 h52 j0 j1 j2 (nw 3 + Re)) ?_
          rintro r3 σ3 ⟨hE3, ⟨i0, i1, i2⟩, ⟨rfl, i5, hn2⟩ | ⟨rfl, ⟨f1, f2, f3⟩, f5, f6⟩⟩
          · refine wp_t rfl ?_
            refine ih (x7 + 1) fu σ3 (by omega) (by omega) (by omega) (hS2.of hE3 i5) (((hE.tr hE1).tr hE2).tr hE3) (nextT (fun y3 hy hd hg => ?_))
            have hy3 := hy.2.2.2
            rcases last y3 hd with e | e
            · rw [e] at hg hy3; exact hn1 ⟨hy3.1, hy3.2, hg⟩
            · rw [e] at hg hy3; exact hn2 ⟨hy3.1, hy3.2, hg⟩
          · refine wp_f (by decide) (wp_some ?_)
            refine found σ3 A B x7 (nw 3 + Re) (((hE.tr hE1).tr hE2).tr hE3) ⟨f5, f6⟩ ⟨⟨hA, hB, ⟨hlo, by omega⟩, f1, f2⟩, hds _ (Or.inr rfl), f3, fun y0 y1 y2 y3 hy hd hl hg => ?_⟩
            by_cases e : y0 = A ∧ y1 = B ∧ y2 = x7
            · obtain ⟨rfl, rfl, rfl⟩ := e
              have hy3 := hy.2.2.2
              rcases last y3 hd with e | e
              · rw [e] at hg hy3; exact hn1 ⟨hy3.1, hy3.2, hg⟩
              · unfold lx at hl; omega
            · exact hT y0 y1 y2 y3 hy hd (by unfold lx at hl; omega) hg
        · refine wp_f (by decide) (wp_some ?_)
          refine found σ2 A B x7 (nw 3 - Re) ((hE.tr hE1).tr hE2) ⟨f5, f6⟩ ⟨⟨hA, hB, ⟨hlo, by omega⟩, f1, f2⟩, hds _ (Or.inl rfl), f3, fun y0 y1 y2 y3 hy hd hl hg => ?_⟩
          by_cases e : y0 = A ∧ y1 = B ∧ y2 = x7
          · obtain ⟨rfl, rfl, rfl⟩ := e
            rcases last y3 hd with e | e
            · unfold lx at hl; omega
            · unfold lx at hl; omega
          · exact hT y0 y1 y2 y3 hy hd (by unfold lx at hl; omega) hg
theorem c40 (hok : LdOK ld) (hc : CPL ld a b m) (hmi : 1 ≤ mi ∧ mi ≤ 60) (hnw : ∀ i, i < 4 → 0 ≤ nw i ∧ nw i ≤ 9) (hC : 0 ≤ C ∧ C ≤ 36) {A : Int} (hA : loF ld nw 0 ≤ A ∧ A ≤ hiF ld nw 0) (self7 : Int → SS → OO) (σ0 : SS) (Q : Int → SS → Prop)
    (found : ∀ (τ : SS) (x0 x1 x2 x3 : Int), EqP PTe σ0 τ → lie4 τ x0 x1 x2 x3 → Fnd ld nw a b m mi C x0 x1 x2 x3 → Q 1 τ)
    (none : ∀ (τ : SS), StT ld nw a b mi τ → EqP PTe σ0 τ → Tst ld nw a b m mi C (A + 1) (loF ld nw 1) (loF ld nw 2) → Wp (self7 (iw (A + 1)) τ) Q) :
    ∀ (d : Nat) (x5 : Int) (fu : Nat) (σ : SS), x5 + d = hiF ld nw 1 + 1 → loF ld nw 1 ≤ x5 → d < fu → StT ld nw a b mi σ → EqP PTe σ0 σ → Tst ld nw a b m mi C A x5 (loF ld nw 2) → Wp (l_Fi_layChanged_40 self7 (100 * (a : Int) + 10 * (b : Int) + (m : Int)) C A (C - ab (A - nw 0)) fu x5 σ) Q := by
  obtain ⟨q1, q2, q3⟩ : a < 6 ∧ b < 6 ∧ m < 6 := ⟨by have := hc.1; have := hok.2.2.1; omega, by have := hc.2.1; have := hok.2.2.1; omega, by have := hc.2.2.2.1; have := hok.2.2.2.1; omega⟩
  have l0 := lohi (ld := ld) hnw 0 (by omega)
  have l1 := lohi (ld := ld) hnw 1 (by omega)
  have l2 := lohi (ld := ld) hnw 2 (by omega)
  have aA := ab_v (A - nw 0)
  have n0 := hnw 0 (by omega)
  have n1 := hnw 1 (by omega)
  intro d
  induction d with
  | zero =>
    intro x5 fu σ hx hlo hfu hS hE hT
    obtain ⟨fu, rfl⟩ : ∃ f, fu = f + 1 := ⟨fu - 1, by omega⟩
    have h71 := (hS.2.2.1 1 (by omega)).2
    rw [l_Fi_layChanged_40]
    refine wp_t (by omega) (none σ hS hE ?_)
    intro y0 y1 y2 y3 hy hd hl
    obtain ⟨b0, b1, b2, b3⟩ := id hy
    exact hT y0 y1 y2 y3 hy hd (by omega)
  | succ d ih =>
    intro x5 fu σ hx hlo hfu hS hE hT
    obtain ⟨fu, rfl⟩ : ∃ f, fu = f + 1 := ⟨fu - 1, by omega⟩
    obtain ⟨hL, h47, h70, h13, h5⟩ := id hS
    have h71 := (h70 1 (by omega)).2
    rw [l_Fi_layChanged_40]
    refine wp_f (by omega) ?_
    by_cases hneg : C - ab (A - nw 0) < 0
    · refine wp_t hneg (none σ hS hE ?_)
      intro y0 y1 y2 y3 hy hd hl
      obtain ⟨b0, b1, b2, b3⟩ := id hy
      by_cases hAB : y0 = A
      · exfalso
        obtain rfl := hAB
        unfold ds at hd
        have := ab_v (y1 - nw 1)
        have := ab_v (y2 - nw 2)
        have := ab_v (y3 - nw 3)
        omega
      · exact hT y0 y1 y2 y3 hy hd (by omega)
    · refine wp_f hneg ?_
      have a1 := ab_v (x5 - nw 1)
      refine wp_eq (x_temperNow a b m q1 q2 q3 1 (by omega) σ) (wp_ol (wp_ol ?_))
      rw [h47 1 (by omega), iwc (x := x5 - nw 1) (by omega) (by omega), zabs_s _ (by omega), iwc (x := C - ab (A - nw 0) - ab (x5 - nw 1)) (by omega) (by omega), (h70 2 (by omega)).1]
      refine c81 hok hc hmi hnw hC hA (B := x5) ⟨hlo, by omega⟩ _ self7 _ σ0 Q found ?_ (hiF ld nw 2 + 1 - loF ld nw 2).toNat (loF ld nw 2) FU σ (by omega) (Int.le_refl _) (by unfold FU; omega) hS hE ?_
      · intro τ hSτ hEτ hTτ
        rw [iwc (by omega) (by omega)]
        exact ih (x5 + 1) fu τ (by omega) (by omega) (by omega) hSτ hEτ hTτ
      · exact hT
theorem x_layChanged (hok : LdOK ld) (hc : CPL ld a b m) (hmi : 1 ≤ mi ∧ mi ≤ 60) (hnw : ∀ i, i < 4 → 0 ≤ nw i ∧ nw i ≤ 9) (hC : 0 ≤ C ∧ C ≤ 36) {σ : SS} (hS : StT ld nw a b mi σ) : Wp (f_Fi_layChanged (100 * (a : Int) + 10 * (b : Int) + (m : Int)) C σ) fun r τ => EqP PTe σ τ ∧ ((r = 0 ∧ StT ld nw a b mi τ ∧ ∀ y0 y1 y2 y3, bx ld nw y0 y1 y2 y3 → ds nw y0 y1 y2 y3 = C → ¬ gd ld a b m mi y0 y1 y2 y3) ∨ (r = 1 ∧ ∃ x0 x1 x2 x3, lie4 τ x0 x1 x2 x3 ∧ Fnd ld nw a b m mi C x0 x1 x2 x3)) := by
  obtain ⟨q1, q2, q3⟩ : a < 6 ∧ b < 6 ∧ m < 6 := ⟨by have := hc.1; have := hok.2.2.1; omega, by have := hc.2.1; have := hok.2.2.1; omega, by have := hc.2.2.2.1; have := hok.2.2.2.1; omega⟩
  have l0 := lohi (ld := ld) hnw 0 (by omega)
  have l1 := lohi (ld := ld) hnw 1 (by omega)
  have l2 := lohi (ld := ld) hnw 2 (by omega)
  have n0 := hnw 0 (by omega)
  have loop : ∀ (d : Nat) (x3 : Int) (fu : Nat) (τ : SS), x3 + d = hiF ld nw 0 + 1 → loF ld nw 0 ≤ x3 → d < fu → StT ld nw a b mi τ → EqP PTe σ τ → Tst ld nw a b m mi C x3 (loF ld nw 1) (loF ld nw 2) → Wp (l_Fi_layChanged_7 (100 * (a : Int) + 10 * (b : Int) + (m : Int)) C fu x3 τ) fun r τ => EqP PTe σ τ ∧ ((r = 0 ∧ StT ld nw a b mi τ ∧ ∀ y0 y1 y2 y3, bx ld nw y0 y1 y2 y3 → ds nw y0 y1 y2 y3 = C → ¬ gd ld a b m mi y0 y1 y2 y3) ∨ (r = 1 ∧ ∃ x0 x1 x2 x3, lie4 τ x0 x1 x2 x3 ∧ Fnd ld nw a b m mi C x0 x1 x2 x3)) := by
    intro d
    induction d with
    | zero =>
      intro x3 fu τ hx hlo hfu hSτ hE hT
      obtain ⟨fu, rfl⟩ : ∃ f, fu = f + 1 := ⟨fu - 1, by omega⟩
      have h71 := (hSτ.2.2.1 0 (by omega)).2
      rw [l_Fi_layChanged_7]
      refine wp_t (by omega) (wp_some ⟨hE, Or.inl ⟨rfl, hSτ, fun y0 y1 y2 y3 hy hd => ?_⟩⟩)
      have := hy.1
      exact hT y0 y1 y2 y3 hy hd (by omega)
    | succ d ih =>
      intro x3 fu τ hx hlo hfu hSτ hE hT
      obtain ⟨fu, rfl⟩ : ∃ f, fu = f + 1 := ⟨fu - 1, by omega⟩
      obtain ⟨hL, h47, h70, h13, h5⟩ := id hSτ
      have h71 := (h70 0 (by omega)).2
      have a0 := ab_v (x3 - nw 0)
      rw [l_Fi_layChanged_7]
      refine wp_f (by omega) ?_
      refine wp_eq (x_temperNow a b m q1 q2 q3 0 (by omega) τ) (wp_ol (wp_ol ?_))
      rw [h47 0 (by omega), iwc (x := x3 - nw 0) (by omega) (by omega), zabs_s _ (by omega), iwc (x := C - ab (x3 - nw 0)) (by omega) (by omega), (h70 1 (by omega)).1]
      refine c40 hok hc hmi hnw hC (A := x3) ⟨hlo, by omega⟩ _ σ _ ?_ ?_ (hiF ld nw 1 + 1 - loF ld nw 1).toNat (loF ld nw 1) FU τ (by omega) (Int.le_refl _) (by unfold FU; omega) hSτ hE hT
      · intro τ' x0 x1 x2 x3' hE' hl hf
        exact ⟨hE', Or.inr ⟨rfl, x0, x1, x2, x3', hl, hf⟩⟩
      · intro τ' hSτ' hE' hT'
        rw [iwc (by omega) (by omega)]
        exact ih (x3 + 1) fu τ' (by omega) (by omega) (by omega) hSτ' hE' hT'
  unfold f_Fi_layChanged
  refine wp_ol ?_
  rw [(hS.2.2.1 0 (by omega)).1]
  refine loop (hiF ld nw 0 + 1 - loF ld nw 0).toNat (loF ld nw 0) FU σ (by omega) (Int.le_refl _) (by unfold FU; omega) hS (EqP.rf _ _) ?_
  intro y0 y1 y2 y3 hy hd hl
  obtain ⟨b0, b1, b2, b3⟩ := id hy
  omega
theorem x_lt35 (hok : LdOK ld) (hc : CPL ld a b m) (hmi : 1 ≤ mi ∧ mi ≤ 60) (hnw : ∀ i, i < 4 → 0 ≤ nw i ∧ nw i ≤ 9) (σ0 : SS) : ∀ (d : Nat) (C : Int) (fu : Nat) (σ : SS), C + d = 37 → 0 ≤ C → d < fu → StT ld nw a b mi σ → EqP PTe σ0 σ → (∀ y0 y1 y2 y3, bx ld nw y0 y1 y2 y3 → ds nw y0 y1 y2 y3 < C → ¬ gd ld a b m mi y0 y1 y2 y3) → Wp (l_Fi_layTempers_35 (100 * (a : Int) + 10 * (b : Int) + (m : Int)) fu C σ) fun r τ => EqP PTe σ0 τ ∧ ((r = -1 ∧ gi τ 61 5 = 0 ∧ ∀ y0 y1 y2 y3, bx ld nw y0 y1 y2 y3 → ¬ gd ld a b m mi y0 y1 y2 y3) ∨ (0 ≤ r ∧ (∃ x0 x1 x2 x3, lie4 τ x0 x1 x2 x3 ∧ Fnd ld nw a b m mi r x0 x1 x2 x3) ∧ ∀ y0 y1 y2 y3, bx ld nw y0 y1 y2 y3 → ds nw y0 y1 y2 y3 < r → ¬ gd ld a b m mi y0 y1 y2 y3)) := by
  intro d
  induction d with
  | zero =>
    intro C fu σ hCd h0 hfu hS hE hT
    obtain ⟨fu, rfl⟩ : ∃ f, fu = f + 1 := ⟨fu - 1, by omega⟩
    rw [l_Fi_layTempers_35]
    refine wp_t (by omega) (wp_some ⟨hE, Or.inl ⟨rfl, hS.2.2.2.2, fun y0 y1 y2 y3 hy => hT y0 y1 y2 y3 hy ?_⟩⟩)
    have l0 := lohi (ld := ld) hnw 0 (by omega)
    have l1 := lohi (ld := ld) hnw 1 (by omega)
    have l2 := lohi (ld := ld) hnw 2 (by omega)
    have l3 := lohi (ld := ld) hnw 3 (by omega)
    have n0 := hnw 0 (by omega)
    have n1 := hnw 1 (by omega)
    have n2 := hnw 2 (by omega)
    have n3 := hnw 3 (by omega)
    obtain ⟨b0, b1, b2, b3⟩ := hy
    unfold ds
    have := ab_v (y0 - nw 0)
    have := ab_v (y1 - nw 1)
    have := ab_v (y2 - nw 2)
    have := ab_v (y3 - nw 3)
    omega
  | succ d ih =>
    intro C fu σ hCd h0 hfu hS hE hT
    obtain ⟨fu, rfl⟩ : ∃ f, fu = f + 1 := ⟨fu - 1, by omega⟩
    rw [l_Fi_layTempers_35]
    refine wp_f (by omega) ?_
    refine wp_call (x_layChanged hok hc hmi hnw (C := C) (by omega) hS) ?_
    rintro r τ ⟨hE2, ⟨rfl, hS2, hno⟩ | ⟨rfl, hx⟩⟩
    · refine wp_t rfl ?_
      rw [iwc (by omega) (by omega)]
      refine ih (C + 1) fu τ (by omega) (by omega) (by omega) hS2 (hE.tr hE2) (fun y0 y1 y2 y3 hy hd => ?_)
      by_cases e : ds nw y0 y1 y2 y3 = C
      · exact hno y0 y1 y2 y3 hy e
      · exact hT y0 y1 y2 y3 hy (by omega)
    · exact wp_f (by decide) (wp_some ⟨hE.tr hE2, Or.inr ⟨h0, hx, hT⟩⟩)
end
