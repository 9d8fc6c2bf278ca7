/-! ask: both sides -/
noncomputable def lsR (k : Int) : Option ((Nat × Nat × Nat) × Int) → Int
  | none => -1
  | some (t, n) => if k = 0 then 100 * (t.1 : Int) + 10 * (t.2.1 : Int) + (t.2.2 : Int) else n
theorem x_askC {ld σ : SS} (hok : LdOK ld) (hL : LC ld σ) (k : Int) {P : Nat → Bool} {N : Nat} (hN : N < 2 ^ 60) (hP : ∀ i, i < 60 → N.testBit i = P i) : Wp (l_Rp_findQuestion_33 k (N : Int) FU (-1) 61 0 σ) fun r τ => r = lsR k ((cps ld).foldl (fun s t => lsG ld P t s) none) ∧ EqP (PTk 83) σ τ := by
  refine loopN (β := Option ((Nat × Nat × Nat) × Int)) 600 (fun fu c st s => l_Rp_findQuestion_33 k (N : Int) fu (eC st).1 (eC st).2 c s) (fun c st => if cpB ld (dC c) = true then lsG ld P (dC c) st else st) (fun _ st s => EqP (PTk 83) σ s) _ ?_ 600 0 FU none σ (by omega) (by unfold FU; omega) (EqP.rf _ _) ?_
  · rintro fu c st s hc hE hk
    have hi : iw ((c : Int) + 1) = ((c + 1 : Nat) : Int) := by rw [iwc (by omega) (by omega)]; omega
    have hLs := hL.of hE (fun r k z => by omega)
    show Wp (l_Rp_findQuestion_33 k (N : Int) (fu + 1) (eC st).1 (eC st).2 (c : Int) s) _
    rw [l_Rp_findQuestion_33]
    refine wp_f (by omega) ?_
    unfold j_Rp_findQuestion_65
    rw [hi]
    by_cases hcp : cpB ld (dC c) = true
    · refine wp_b1 (x_isCoupleC hok hLs c hc) hcp (wp_f (by decide) ?_)
      rw [if_pos hcp] at hk
      have hC := (cpB_iff hok _ _ _).mp hcp
      have hcode : (c : Int) = 100 * ((c / 100 : Nat) : Int) + 10 * ((c / 10 % 10 : Nat) : Int) + ((c % 10 : Nat) : Int) := by omega
      refine wp_call (x_mostLC hok hLs hN hP hC hcode) ?_
      rintro r7 s7 ⟨hr7, hE7⟩
      have hr : r7 = mlT ld P (dC c) := hr7
      rw [hr]
      have hk' := hk s7 (hE.tr hE7)
      rw [eC_g] at hk'
      by_cases h : (eC st).2 ≤ mlT ld P (dC c)
      · rw [if_pos h] at hk'
        exact wp_t h hk'
      · rw [if_neg h] at hk'
        exact wp_f h hk'
    · refine wp_b0 (x_isCoupleC hok hLs c hc) hcp (wp_t rfl (wp_t (Int.le_refl _) ?_))
      rw [if_neg hcp] at hk
      exact hk s hE
  · rintro fu s hE
    rw [foldC hok (lsG ld P) none]
    generalize (cps ld).foldl (fun s t => lsG ld P t s) none = st
    show Wp (l_Rp_findQuestion_33 k (N : Int) (fu + 1) (eC st).1 (eC st).2 ((600 : Nat) : Int) s) _
    rw [l_Rp_findQuestion_33]
    refine wp_t (by omega) ?_
    cases st with
    | none => exact wp_t rfl (wp_some ⟨rfl, hE⟩)
    | some x =>
      obtain ⟨t, n⟩ := x
      show Wp (if 100 * (t.1 : Int) + 10 * (t.2.1 : Int) + (t.2.2 : Int) = -1 then _ else if k = 0 then some (100 * (t.1 : Int) + 10 * (t.2.1 : Int) + (t.2.2 : Int), s) else some (n, s)) _
      refine wp_f (by omega) ?_
      rw [lsR]
      by_cases h : k = 0
      · exact wp_t h (wp_some ⟨by rw [if_pos h], hE⟩)
      · exact wp_f h (wp_some ⟨by rw [if_neg h], hE⟩)
theorem cps6 {ld : SS} (hok : LdOK ld) : ∀ t, t ∈ cps ld → t.1 < 6 ∧ t.2.1 < 6 ∧ t.2.2 < 6 := by
  intro t ht
  have s6 := hok.2.2.1
  have m6 := hok.2.2.2.1
  unfold cps at ht
  obtain ⟨a, b, m⟩ := t
  have hC := (cpB_iff hok a b m).mp (List.mem_filter.mp ht).2
  unfold CPL at hC
  dsimp only
  omega
theorem x_askM {ld σ : SS} (hok : LdOK ld) {bk : Nat} (hM : LM ld σ bk) (h54 : gi σ 86 54 = 0) (k : Int) {P : Nat → Bool} {N : Nat} (hN : N < 2 ^ 60) (hP : ∀ i, i < 60 → N.testBit i = P i) : Wp (l_Mo_ask_32 k (N : Int) FU (-1) 0 0 σ) fun r τ => r = lsR k ((cps ld).foldl (fun s t => lsG ld P t s) none) ∧ gi τ 86 54 = 0 ∧ EqP PAk σ τ := by
  refine loopN (β := Option ((Nat × Nat × Nat) × Int)) 216 (fun fu c st s => l_Mo_ask_32 k (N : Int) fu (eM st).1 (eM st).2 c s) (fun c st => if cpB ld (dM c) = true then lsG ld P (dM c) st else st) (fun _ st s => gi s 86 54 = 0 ∧ EqP PAk σ s) _ ?_ 216 0 FU none σ (by omega) (by unfold FU; omega) ⟨h54, EqP.rf _ _⟩ ?_
  · rintro fu c st s hc ⟨h5, hE⟩ hk
    have hi : iw ((c : Int) + 1) = ((c + 1 : Nat) : Int) := by rw [iwc (by omega) (by omega)]; omega
    have hMs := hM.of hE (fun r k z => by omega)
    show Wp (l_Mo_ask_32 k (N : Int) (fu + 1) (eM st).1 (eM st).2 (c : Int) s) _
    rw [l_Mo_ask_32]
    unfold f_Mo_coupleMany j_Mo_ask_77
    refine wp_eq rfl (wp_f (by omega) ?_)
    rw [hi]
    by_cases hcp : cpB ld (dM c) = true
    · refine wp_b1 (x_canBe hok hMs c hc) hcp (wp_f (by decide) ?_)
      rw [if_pos hcp] at hk
      have hC := (cpB_iff hok _ _ _).mp hcp
      refine wp_call (x_mostLM hok hMs h5 hN hP c hC) ?_
      rintro r7 s7 ⟨hr7, h57, hE7⟩
      have hr : r7 = mlT ld P (dM c) := hr7
      rw [hr]
      have hk' := hk s7 ⟨h57, hE.tr hE7⟩
      rw [eM_g] at hk'
      by_cases h : (eM st).1 < 0
      · rw [if_pos (Or.inl h)] at hk'
        exact wp_t h hk'
      · refine wp_f h ?_
        by_cases h2 : mlT ld P (dM c) < (eM st).2
        · rw [if_pos (Or.inr h2)] at hk'
          exact wp_t h2 hk'
        · rw [if_neg (by rintro (z | z); exact h z; exact h2 z)] at hk'
          exact wp_f h2 hk'
    · refine wp_b0 (x_canBe hok hMs c hc) hcp (wp_t rfl ?_)
      rw [if_neg hcp] at hk
      exact hk s ⟨h5, hE⟩
  · rintro fu s ⟨h5, hE⟩
    rw [foldM (ld := ld) (lsG ld P) none]
    have hb := ls_mem (ld := ld) (P := P) (cps ld) none (fun t n h => by cases h) (cps6 hok)
    generalize (cps ld).foldl (fun s t => lsG ld P t s) none = st at hb ⊢
    show Wp (l_Mo_ask_32 k (N : Int) (fu + 1) (eM st).1 (eM st).2 ((216 : Nat) : Int) s) _
    rw [l_Mo_ask_32]
    unfold f_Mo_coupleMany f_Mo_firstOf f_Mo_otherOf f_Mo_matterOf
    refine wp_eq rfl (wp_t (by omega) ?_)
    cases st with
    | none => exact wp_f (by show ¬ (0 : Int) ≤ -1; omega) (wp_some ⟨rfl, h5, hE⟩)
    | some x =>
      obtain ⟨t, n⟩ := x
      have h6 := hb t n rfl
      obtain ⟨i, hi⟩ : ∃ i : Nat, i = 36 * t.1 + 6 * t.2.1 + t.2.2 := ⟨_, rfl⟩
      have e1 : (eM (some (t, n))).1 = (i : Int) := by show 36 * (t.1 : Int) + 6 * (t.2.1 : Int) + (t.2.2 : Int) = _; omega
      have e2 : (eM (some (t, n))).2 = n := rfl
      rw [e1, e2]
      refine wp_t (by omega) ?_
      rw [lsR]
      by_cases h : k = 0
      · refine wp_t h (wp_eq rfl (wp_eq rfl (wp_eq rfl (wp_some ⟨?_, h5, hE⟩))))
        rw [if_pos h, tdn _ (by omega), tdn _ (by omega), tmn _ (by omega), tmn _ (by omega)]
        have f1 : (i : Int) / 36 = t.1 := by omega
        have f2 : (i : Int) / 6 % 6 = t.2.1 := by omega
        have f3 : (i : Int) % 6 = t.2.2 := by omega
        rw [f1, f2, f3, iwc (x := 100 * (t.1 : Int)) (by omega) (by omega), iwc (x := 10 * (t.2.1 : Int)) (by omega) (by omega), iwc (x := 100 * (t.1 : Int) + 10 * (t.2.1 : Int)) (by omega) (by omega), iwc (by omega) (by omega)]
      · exact wp_f h (wp_some ⟨by rw [if_neg h], h5, hE⟩)
theorem RP.kn2 {σ : SS} (h : RP σ) (k : Int) : ∃ v P, bset v P ∧ f_Rp_roadsKnownAt k σ = some (v, σ) ∧ ∀ s, (∀ r k, URp r k → gi s r k = gi σ r k) → f_Mo_miles k s = some (v, s) := by
  obtain ⟨n, p1, p2, p3, p4, p5, p6, p7⟩ := h
  obtain ⟨v, h1, h2⟩ := x_knownAt k p1 p2 (fun i hi => ⟨(p7 i hi).2.1.2, (p7 i hi).2.2.2.2⟩)
  refine ⟨v, _, h2, h1, fun s g => ?_⟩
  obtain ⟨w, h3, h4⟩ := x_milesM (σ := s) k p1 (by rw [g 86 79 (by omega)]; exact p3) (fun i hi => by
    rw [g 80 i (by omega), g 81 i (by omega), g 133 i (by omega), g 134 i (by omega)]
    exact ⟨(p7 i hi).1.1, (p7 i hi).2.1.1, (p7 i hi).2.1.2⟩)
  have e := bset_eq h2 h4 (fun x _ => by
    unfold soB knB
    congr 1
    funext i
    rw [g 80 i (by omega), g 81 i (by omega), g 131 i (by omega), g 132 i (by omega)])
  rw [e]
  exact h3
theorem y_ask (k d : Int) : MP (f_Qu_ask k d) (f_Mo_ask k d) := by
  rintro σ ⟨ld, bk, hok, hL, hM, hEA, hRO, hLY, hRP, hTA⟩
  have hI : Inv σ := ⟨ld, bk, hok, hL, hM, hEA, hRO, hLY, hRP, hTA⟩
  obtain ⟨v, P, hb, h1, h2⟩ := hRP.kn2 d
  obtain ⟨N, rfl, hN, hP⟩ := bset_nat hb
  unfold f_Qu_ask f_Mo_ask f_Rp_findQuestion
  refine wp_ob (wp_eq h1 ?_)
  have nope : ¬ (0 ≤ k ∧ k ≤ 1) ∨ (N : Int) = 0 → Wp (ob (f_Mo_miles d σ) fun r1 s1 => ob (f_Mo_isIn k 0 1 s1) fun r2 s2 => if r2 = 0 then some (-1, s2) else if ycmp r1 0 = 0 then some (-1, s2) else l_Mo_ask_32 k r1 FU (-1) 0 0 s2) fun r' σ2 => (-1 : Int) = r' ∧ Inv σ2 := by
    intro h
    refine wp_eq (h2 σ (fun _ _ _ => rfl)) ?_
    by_cases hk : 0 ≤ k ∧ k ≤ 1
    · refine wp_b1 (x_isIn _ _ _ _) hk (wp_f (by decide) (wp_t (by rw [yc0]; rcases h with h | h; exact absurd hk h; exact h) (wp_some ⟨rfl, hI⟩)))
    · exact wp_b0 (x_isIn _ _ _ _) hk (wp_t rfl (wp_some ⟨rfl, hI⟩))
  by_cases hk0 : k < 0
  · exact wp_t hk0 (wp_some (wp_some (nope (Or.inl (by omega)))))
  · refine wp_f hk0 ?_
    by_cases hk1 : 1 < k
    · exact wp_t hk1 (wp_some (wp_some (nope (Or.inl (by omega)))))
    · refine wp_f hk1 ?_
      by_cases hz : (N : Int) = 0
      · exact wp_t (by rw [yc0]; exact hz) (wp_some (wp_some (nope (Or.inr hz))))
      · refine wp_f (by rw [yc0]; exact hz) ?_
        refine wp_mono (x_askC hok hL k hN hP) ?_
        rintro r s ⟨hr, hE⟩
        refine wp_some ?_
        have h3 := h2 s (fun r k z => hE.i r k (by omega))
        refine wp_eq h3 (wp_b1 (x_isIn _ _ _ _) (by omega) (wp_f (by decide) (wp_f (by rw [yc0]; exact hz) ?_)))
        refine wp_mono (x_askM hok (hM.of hE (fun r k z => by omega)) (by rw [hE.i _ _ (by omega)]; exact hTA.2.2.2.2.2.2) k hN hP) ?_
        rintro r' τ ⟨hr', h5, hEm⟩
        refine ⟨by rw [hr, hr'], ?_⟩
        have hEt : EqP (fun r k => PTk 83 r k ∨ PAk r k) σ τ := (hE.mo (fun r k h => Or.inl h)).tr (hEm.mo (fun r k h => Or.inr h))
        refine ⟨ld, bk, hok, hL.of hEt (fun r k z => by omega), hM.of hEt (fun r k z => by omega), hEA.of (fun r k z => hEt.i r k (by omega)), hRO.of (fun r k z => hEt.i r k (by omega)), hLY.of (fun r k z => hEt.i r k (by omega)), hRP.of (fun r k z => hEt r k (by omega)), ?_⟩
        obtain ⟨q1, q2, q3, q4, q5, q6, q7⟩ := hTA
        refine ⟨?_, ?_, ?_, fun i hi => ?_, ?_, ?_, h5⟩
        · rw [hEt.i 0 1 (by omega), hEt.i 86 2 (by omega)]; exact q1
        · rw [hEt.i 0 1 (by omega)]; exact q2
        · rw [hEt.i 0 1 (by omega)]; exact q3
        · rw [hEt.i 1 i (by omega), hEt.i 87 i (by omega)]; exact q4 i hi
        · rw [hEt.i 42 2 (by omega), hEt.i 86 4 (by omega)]; exact q5
        · rw [hEt.i 42 3 (by omega), hEt.i 86 5 (by omega)]; exact q6
