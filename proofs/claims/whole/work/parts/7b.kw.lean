/-! the keywords -/
def kwW (j : Nat) : List Int := [[5, 3, 1, 12, 16], [13, 12, 1, 3], [15, 8, 3, 5], [25, 1, 23], [15, 20], [20, 8, 7, 9, 19], [12, 21, 15, 19], [14, 18, 15, 2, 2, 21, 20, 19], [20, 18, 15, 8, 19], [18, 5, 20, 20, 1, 13], [19, 14, 18, 21, 2], [6, 15], [20, 1, 5, 8], [11, 3, 1, 2], [23, 1, 18, 4], [18, 15], [4, 14, 1], [20, 15, 14], [6, 5, 9, 18, 7], [5, 12, 9, 13], [20, 6, 5, 12]].getD j []
def kwC (j : Nat) : Int := [17171557, 99725, 167183, 23609, 655, 20225300, 638636, 675016687182, 20201044, 437932210, 2804179, 486, 267316, 66667, 149559, 498, 1476, 14836, 7939238, 435589, 398548].getD j 0
def kwM (j : Nat) : Int := [482854658917, 1667329133, 1701013615, 7823737, 29807, 495689623668, 1936684396, 8319403477078864494, 495673373300, 120265333040498, 422877228659, 28518, 1751474548, 1650549611, 1685217655, 28530, 6385252, 7237492, 444301141350, 1835625573, 1818584692].getD j 0
def kwS (j : Nat) : Nat := [0, 6, 11, 16, 20, 23, 29, 34, 43, 49, 56, 62, 65, 70, 75, 80, 83, 87, 91, 97, 102, 107].getD j 0
def kwN (j : Nat) : Nat := [5, 4, 4, 3, 2, 5, 4, 8, 5, 6, 5, 2, 4, 4, 4, 2, 3, 3, 5, 4, 4].getD j 0
theorem kw_NR (j : Nat) (h : j < 21) : NR (kwC j) (kwM j) := by
  have key : ∀ j, j < 21 → (∀ x ∈ kwW j, 1 ≤ x ∧ x ≤ 26) ∧ kwC j = r32 (kwW j) ∧ kwM j = r256 (kwW j) := by decide +kernel
  exact ⟨kwW j, (key j h).1, (key j h).2.1, (key j h).2.2⟩
theorem kw_inj : ∀ i, i < 21 → ∀ j, j < 21 → kwM i = kwM j → i = j := by decide +kernel
def okK : Nat → Nat → Int → Bool
  | 0, _, _ => true
  | l + 1, s, x => decide (s < 107) && decide (kwc s ≠ 32) && decide (0 ≤ x) && decide (x < 1125899906842624) && okK l (s + 1) (32 * x + (kwc s - 96))
def acK : Nat → Nat → Int → Int
  | 0, _, x => x
  | l + 1, s, x => acK l (s + 1) (32 * x + (kwc s - 96))
theorem kw_tab : ∀ j, j < 21 → okK (kwN j) (kwS j) 0 = true ∧ acK (kwN j) (kwS j) 0 = kwC j ∧ kwS j + kwN j < 107 ∧ kwc (kwS j + kwN j) = 32 ∧ kwS (j + 1) = kwS j + kwN j + 1 := by decide +kernel
theorem kw_run (x1 : Int) (σ : SS) (h3 : gi σ 43 3 = 3) : ∀ (l s : Nat) (x : Int) (fu : Nat), okK l s x = true → l_To_takeWord_102 (fu + l) x1 x (s : Int) σ = l_To_takeWord_102 fu x1 (acK l s x) ((s + l : Nat) : Int) σ := by
  intro l
  induction l with
  | zero => intro s x fu _; rfl
  | succ l ih =>
    intro s x fu h
    rw [okK, Bool.and_eq_true, Bool.and_eq_true, Bool.and_eq_true, Bool.and_eq_true] at h
    obtain ⟨⟨⟨⟨h1, h2⟩, h4⟩, h5⟩, h6⟩ := h
    have h1 := of_decide_eq_true h1
    have h2 := of_decide_eq_true h2
    have h4 := of_decide_eq_true h4
    have h5 := of_decide_eq_true h5
    obtain ⟨b1', b2', -⟩ := kwc_b s h1
    rw [acK, ← show ((s + 1 + l : Nat) : Int) = ((s + (l + 1) : Nat) : Int) by omega, ← ih (s + 1) _ fu h6]
    show l_To_takeWord_102 ((fu + l) + 1) x1 x (s : Int) σ = _
    rw [l_To_takeWord_102, if_neg (by omega), if_pos h3, oc_pos (by omega), ol_eq, Int.toNat_natCast, if_neg h2, ol_eq, iwc (x := kwc s - 97) (by omega) (by omega), iwc (x := kwc s - 97 + 1) (by omega) (by omega), jwc (x := 32 * x) (by omega) (by omega), jwc (by omega) (by omega), iwc (x := (s : Int) + 1) (by omega) (by omega), show 32 * x + (kwc s - 97 + 1) = 32 * x + (kwc s - 96) by omega, show (s : Int) + 1 = ((s + 1 : Nat) : Int) by omega]
theorem kw_all (σ : SS) (h3 : gi σ 43 3 = 3) : ∀ (r j fu : Nat), j + r = 21 → 200 < fu + kwS j → (∀ i, i < j → gj σ 43 6 ≠ kwC i) → Wp (l_To_takeWord_102 fu ((256 + j : Nat) : Int) 0 (kwS j : Nat) σ) fun _ τ => EqP (fun r k => r = 43 ∧ k = 3) σ τ ∧ (gi τ 43 3 = 3 ∧ (∀ i, i < 21 → gj σ 43 6 ≠ kwC i) ∨ ∃ i, i < 21 ∧ gi τ 43 3 = ((256 + i : Nat) : Int) ∧ gj σ 43 6 = kwC i) := by
  intro r
  induction r with
  | zero =>
    intro j fu hj hfu hne
    obtain rfl : j = 21 := by omega
    have e : kwS 21 = 107 := rfl
    rw [e] at hfu ⊢
    obtain ⟨fu, rfl⟩ : ∃ f, fu = f + 1 := ⟨fu - 1, by omega⟩
    rw [l_To_takeWord_102]
    exact wp_t (by omega) (wp_some ⟨EqP.rf _ _, Or.inl ⟨h3, hne⟩⟩)
  | succ r ih =>
    intro j fu hj hfu hne
    obtain ⟨t1, t2, t3, t4, t5⟩ := kw_tab j (by omega)
    obtain ⟨f, rfl⟩ : ∃ f, fu = (f + 1 + 1) + kwN j := ⟨fu - kwN j - 2, by omega⟩
    rw [kw_run _ σ h3 (kwN j) (kwS j) 0 _ t1, t2, l_To_takeWord_102]
    refine wp_f (by omega) (wp_t h3 (wp_oc (by omega) (wp_ol ?_)))
    rw [Int.toNat_natCast, t4]
    refine wp_t rfl ?_
    rw [show iw (((kwS j + kwN j : Nat) : Int) + 1) = ((kwS (j + 1) : Nat) : Int) by rw [iwc (by omega) (by omega), t5]; omega]
    by_cases h : kwC j = gj σ 43 6
    · refine wp_t (by rw [yc0]; exact h) (wp_os ?_)
      rw [l_To_takeWord_102]
      have hE : EqP (fun r k => r = 43 ∧ k = 3) σ (si σ 43 3 ((256 + j : Nat) : Int)) := EqP.si (EqP.rf _ _) _ _ _ (by omega)
      have hP : EqP (fun r k => r = 43 ∧ k = 3) σ (si σ 43 3 ((256 + j : Nat) : Int)) ∧ (gi (si σ 43 3 ((256 + j : Nat) : Int)) 43 3 = 3 ∧ (∀ i, i < 21 → gj σ 43 6 ≠ kwC i) ∨ ∃ i, i < 21 ∧ gi (si σ 43 3 ((256 + j : Nat) : Int)) 43 3 = ((256 + i : Nat) : Int) ∧ gj σ 43 6 = kwC i) := ⟨hE, Or.inr ⟨j, by omega, gi_same _ _ _ _, h.symm⟩⟩
      by_cases h7 : (107 : Int) ≤ ((kwS (j + 1) : Nat) : Int)
      · exact wp_t h7 (wp_some hP)
      · refine wp_f h7 (wp_f ?_ (wp_some hP))
        rw [gi_same]
        omega
    · refine wp_f (by rw [yc0]; exact h) ?_
      rw [show iw (((256 + j : Nat) : Int) + 1) = ((256 + (j + 1) : Nat) : Int) by rw [iwc (by omega) (by omega)]; omega]
      exact ih (j + 1) (f + 1) (by omega) (by omega) (fun i hi => by
        by_cases hij : i = j
        · rw [hij]; exact fun z => h z.symm
        · exact hne i (by omega))
