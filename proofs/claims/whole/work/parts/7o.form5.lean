/-! formulas: behind a unit -/
theorem wp_bo {x : OO} {k : Int → SS → OO} {Q : Int → SS → Prop} (h : Wp (ob x k) Q) : Wp x fun r τ => Wp (k r τ) Q := by
  cases x with
  | none => obtain ⟨r, τ, e, _⟩ := h; cases e
  | some a => exact ⟨a.1, a.2, rfl, h⟩
theorem w2_sw {x y : OO} {Q : Int → SS → Int → SS → Prop} (h : Wp y fun r' τ => Wp x fun r σ => Q r σ r' τ) : W2 x y Q := by
  obtain ⟨r', τ, e, r, σ, e2, h⟩ := h
  exact ⟨r, σ, e2, r', τ, e, h⟩
theorem w2_ws {x y : OO} {Q : Int → SS → Int → SS → Prop} (h : W2 x y Q) : Wp y fun r' τ => Wp x fun r σ => Q r σ r' τ := by
  obtain ⟨r, σ, e2, r', τ, e, h⟩ := h
  exact ⟨r', τ, e, r, σ, e2, h⟩
theorem w2_rx {x y : OO} {y' : SS → OO} {F : SS → Prop} {K : Int → SS → OO} {Q : Int → SS → Int → SS → Prop} (h : ∀ Q', (∀ τ', F τ' → Wp (y' τ') Q') → Wp y Q') (hk : ∀ τ', F τ' → W2 x (ob (y' τ') K) Q) : W2 x (ob y K) Q :=
  w2_sw (wp_ob (h _ (fun τ' f => wp_bo (w2_ws (hk τ' f)))))
section
variable {u b : Nat} {B : Nat → Int} {N : Nat} {σ0 τ0 σ τ : SS} {k : Int} {p n : Nat}
theorem bd_cases (k : Int) : wOK k ∧ k ≠ 40 ∧ k ≠ 273 ∧ (bd k = 1 ∨ bd k = 2 ∨ bd k = 4 ∨ bd k = 5 ∨ bd k = 6) ∧ rnk k = bd k ∧ (k = 271 ∧ bd k = 1 ∨ k = 272 ∧ bd k = 2 ∨ isSg k ∧ 4 ≤ bd k ∧ sgE k = k) ∨ (bd k = 0 ∨ bd k = 3) ∧ rnk k = 0 := by
  unfold rnk
  by_cases h1 : k = 37
  · subst h1; exact Or.inl ⟨by unfold wOK; omega, by decide⟩
  by_cases h2 : k = 42
  · subst h2; exact Or.inl ⟨by unfold wOK; omega, by decide⟩
  by_cases h3 : k = 47
  · subst h3; exact Or.inl ⟨by unfold wOK; omega, by decide⟩
  by_cases h4 : k = 43
  · subst h4; exact Or.inl ⟨by unfold wOK; omega, by decide⟩
  by_cases h5 : k = 45
  · subst h5; exact Or.inl ⟨by unfold wOK; omega, by decide⟩
  by_cases h6 : k = 60
  · subst h6; exact Or.inl ⟨by unfold wOK; omega, by decide⟩
  by_cases h7 : k = 61
  · subst h7; exact Or.inl ⟨by unfold wOK; omega, by decide⟩
  by_cases h8 : k = 62
  · subst h8; exact Or.inl ⟨by unfold wOK; omega, by decide⟩
  by_cases h9 : k = 271
  · subst h9; exact Or.inl ⟨by unfold wOK; omega, by decide⟩
  by_cases h10 : k = 272
  · subst h10; exact Or.inl ⟨by unfold wOK; omega, by decide⟩
  refine Or.inr ?_
  by_cases h11 : k = 273
  · subst h11; decide
  · rw [if_neg h11]
    have : bd k = 0 := by
      unfold bd
      rw [if_neg (by omega), if_neg (by omega), if_neg (by omega), if_neg (by omega), if_neg (by omega), if_neg (by omega)]
    exact ⟨Or.inl this, this⟩
/-- what has both sides of it goes, on both sides -/
theorem g_pops {c U r un m : Nat} {ps qs : List Int} (hb : b < 2) (hr : 16 ≤ r ∧ r ≤ 39) (hc : c ≤ 280) (hF : FI b c U r 3 (ps ++ qs) un m σ τ) (y2 y1 : Int) (hy : 1 ≤ y2) (hps : ∀ x ∈ ps, y2 ≤ bd x ∧ y1 ≤ rkE x) (hqc : ∀ y ∈ qs.head?, bd y < y2) (hqm : ∀ y ∈ qs.head?, 6 < rkE y ∨ rkE y < y1) (kc : Int → SS → OO) (K : Int → SS → OO) (Q : Int → SS → Int → SS → Prop)
    (next : ∀ r1 σ' τ', FI b c U r 3 qs un (m + ps.length) σ' τ' → EqP (PSe r) σ σ' → EqP (PPo (560 * b + c + m) ps.length) τ τ' → m + ps.length ≤ 277 → W2 (kc r1 σ') (ob (j_Mo_behindUnit_104 y1 τ') K) Q) : W2 (ob (f_FR_settle r y2 σ) kc) (ob (l_Mo_behindUnit_23 y1 FU τ) K) Q := by
  obtain ⟨hC, ⟨hM, h43⟩, hD, hN, hP⟩ := hF
  obtain ⟨hn277, hl47⟩ := hP.n277
  have h7 := hP.2.1
  obtain ⟨hSq, hw⟩ := SH_app ps qs hP.1
  have h40 : ∀ x ∈ ps, x ≠ 40 := fun x hx z => by
    have := (hps x hx).1
    rw [z, show bd 40 = 0 by decide] at this
    omega
  obtain ⟨c1, c2, c3, c4⟩ := id hC
  obtain ⟨d1, d2, d3, d4⟩ := id hD
  obtain ⟨a1, a2, a3, a4⟩ := na_app ps qs
  obtain ⟨o1, o2⟩ := no40 ps h40
  have hPq := hP.pops h40
  have hm2 : m + ps.length ≤ 277 := hPq.n277.1
  have hlen : ps.length ≤ 47 := by rw [List.length_append] at hl47; omega
  unfold f_FR_settle
  obtain ⟨r1, σ', e1, hE, f2, f4, fr, fo, fn⟩ := x_settleC r (by omega) y2 hy qs hqc ps FU σ m (by unfold FU; omega) (fun x hx => ⟨hw x hx, h40 x hx, (hps x hx).1⟩) c1 (by omega) c2 d1 (by omega) c4 (by omega)
  rw [e1, ob_eq]
  refine w2_rx (y' := fun τ' => j_Mo_behindUnit_104 y1 τ') (F := fun τ' => EqP (PPo (560 * b + c + m) ps.length) τ τ' ∧ MSt τ' qs ∧ gi τ' 86 43 = ((naL qs : Nat) : Int) ∧ gi τ' 86 42 = ((560 * b + c + m + ps.length : Nat) : Int) ∧ ∀ j, j < ps.length → gi τ' 113 (560 * b + c + m + j) = sgE (ps.getD j 0)) (fun Q' hQ' => x_popM y1 qs hqm Q' τ ps FU (560 * b + c + m) τ (by unfold FU; omega) (fun x hx => ⟨hw x hx, h40 x hx, (hps x hx).2⟩) hM (by omega) d2 (by omega) h43 (by omega) (fun τ' z1 z2 z3 z4 z5 => hQ' τ' ⟨z1, z2, z3, z4, z5⟩)) ?_
  rintro τ' ⟨hE', hM', h43', h42', h113'⟩
  obtain ⟨hD', hst⟩ := hD.pops ps (fun x hx => ⟨hw x hx, h40 x hx⟩) fr fo fn h42' (fun j hj => ⟨hE'.i _ _ (by omega), hE'.i _ _ (by omega)⟩) h113'
  refine next r1 σ' τ' ⟨⟨f2, ?_, ?_, f4⟩, ⟨hM', h43'⟩, hD', hN.of hE hE' (fun r' k z => by omega) (fun r' k z => by omega), by rw [hst]; exact hPq⟩ hE hE' hm2
  · have e : rowl (gi σ' 45) qs.length = rowl (gi σ 45) qs.length := rowl_congr (fun i _ => hE.i _ _ (by omega))
    rw [e]
    exact rowl_drop _ ps qs c2
  · rw [hE.i _ _ (by omega), c3, a2, o1, Nat.zero_add]
theorem nb0 : ∀ rs : List Int, (∀ x ∈ rs, 1 ≤ bd x) → nbL rs = 0 := by
  intro rs h
  refine (no40 rs (fun x hx z => ?_)).1
  have := h x hx
  rw [z, show bd 40 = 0 by decide] at this
  omega
/-- down to a bracket, or to the bottom -/
theorem spl1 (rs : List Int) (hS : SH rs) : ∃ ps qs, rs = ps ++ qs ∧ (∀ x ∈ ps, 1 ≤ bd x ∧ 0 ≤ rkE x) ∧ (nbL rs = 0 ∧ qs = [] ∨ nbL rs ≠ 0 ∧ ∃ qs', qs = 40 :: qs') := by
  obtain ⟨ps, qs, e, h1, h2⟩ := spl (fun x => decide (1 ≤ bd x)) rs
  have hw := SH_app ps qs (by rw [← e]; exact hS)
  refine ⟨ps, qs, e, fun x hx => ?_, ?_⟩
  · have h3 := of_decide_eq_true (h1 x hx)
    have h4 := wOK_bd (hw.2 x hx)
    exact ⟨h3, by omega⟩
  · have hps : nbL ps = 0 := nb0 ps (fun x hx => of_decide_eq_true (h1 x hx))
    cases qs with
    | nil =>
      refine Or.inl ⟨?_, rfl⟩
      rw [e, List.append_nil]
      exact hps
    | cons y qs =>
      have h5 := of_decide_eq_false (h2 y rfl)
      have h6 := wOK_bd hw.1.1
      have hy : y = 40 := by omega
      subst hy
      refine Or.inr ⟨?_, qs, rfl⟩
      rw [e, (na_app ps (40 :: qs)).2.1, nbL, if_pos rfl]
      omega
theorem g_op {c U r un m : Nat} {rs : List Int} (hu : u = 2 ∨ u = 22) (hb : b < 2) (hr : r = u + 14 ∨ r = u + 17) (hc : c ≤ 280) (h : GS u b B N σ0 τ0 σ τ k p n) (hF : FI b c U r 3 rs un m σ τ) (hk59 : ¬ (k = 59 ∧ nbL rs = 0)) (selfC : Int → SS → OO) (selfM : Int → SS → OO) (kF KM : Int → SS → OO) (Q : Int → SS → Int → SS → Prop)
    (next : ∀ (w' x1 : Int) (rs' : List Int) (un' m' : Nat) (σ' τ' : SS) (k' : Int) (p' n' : Nat), GS u b B N σ0 τ0 σ' τ' k' p' n' → n ≤ p' → p < n → FI b c U r w' rs' un' m' σ' τ' → EqP (PF r) σ σ' → EqP (PFr b c) τ τ' → (x1 = 0 ∧ w' = 3 ∨ x1 ≠ 0 ∧ w' ≠ 3) → W2 (ob (selfC w' σ') kF) (ob (selfM x1 τ') KM) Q)
    (bad : ∀ (x1 : Int) (σ' τ' : SS) (K' : Int → SS → OO), GS u b B N σ0 τ0 σ' τ' k p n → (∀ z s, gi s 86 4 ≠ 0 → K' z s = ob (selfM x1 s) KM) → W2 (kF 0 σ') (ob (f_Mo_misplaced τ') K') Q)
    (stop : ∀ (σ' τ' : SS), GS u b B N σ0 τ0 σ' τ' k p n → k ≠ 59 → gi τ' 86 44 = 0 → W2 (kF 0 σ') (ob (selfM 0 τ') KM) Q) :
    W2 (ob (ob (f_FR_readBehindUnit r σ) fun r2 s2 => if r2 = (-1) then (some (0, s2)) else (ob (f_To_move s2) fun _ s3 => selfC r2 s3)) kF) (ob (ob (f_Mo_behindUnit τ) fun r6 s6 => selfM r6 s6) KM) Q := by
  have hF' := hF
  obtain ⟨hC, ⟨hM, h43⟩, hD, hN, hP⟩ := hF
  obtain ⟨hn277, hl47⟩ := hP.n277
  have hP1 := hP.1
  have hP2 := hP.2.1
  have hr16 : 16 ≤ r ∧ r ≤ 39 ∧ u + 14 ≤ r ∧ r ≤ u + 17 := by omega
  obtain ⟨e3, e4, e6, en, eN, epn⟩ := h.k2
  have hg := h.2.1.1
  obtain ⟨c1, c2, c3, c4⟩ := id hC
  have d2 := hD.2.1
  have tok : k ≠ 0 → p < n := by
    intro h0
    rcases h.1.2.2.2.2.2.2.2.2 with ⟨z, _⟩ | ⟨z, _⟩
    · exact absurd z h0
    · exact z
  have cbad : ∀ (σ' : SS), f_FR_readBehindUnit r σ = some (-1, σ') → (ob (ob (f_FR_readBehindUnit r σ) fun r2 s2 => if r2 = (-1) then (some (0, s2)) else (ob (f_To_move s2) fun _ s3 => selfC r2 s3)) kF) = kF 0 σ' := by
    intro σ' e
    rw [e, ob_eq, if_pos rfl, ob_eq]
  have er := x_rankHere h.1
  unfold f_Mo_behindUnit
  rw [er, ob_eq]
  -- nothing that can stand between units
  have nil : rnk k = 0 → f_FR_readBehindUnit r σ = some (-1, σ) → ¬ (k = 41 ∧ nbL rs ≠ 0) → W2 (ob (ob (f_FR_readBehindUnit r σ) fun r2 s2 => if r2 = (-1) then (some (0, s2)) else (ob (f_To_move s2) fun _ s3 => selfC r2 s3)) kF) (ob (ob (if rnk k = 4 then (ob (f_Mo_isCompared τ) fun r3 s3 => if r3 = 0 then (l_Mo_behindUnit_23 (rnk k) FU s3) else (ob (f_Mo_misplaced s3) fun r5 s5 => some (1, s5))) else (l_Mo_behindUnit_23 (rnk k) FU τ)) fun r6 s6 => selfM r6 s6) KM) Q := by
    intro h0 e hk
    rw [cbad σ e, if_neg (show ¬ rnk k = 4 by omega), h0, ob_as]
    obtain ⟨ps, qs, erq, hps, hq⟩ := spl1 rs hP1
    have hw := SH_app ps qs (by rw [← erq]; exact hP1)
    have hlen : ps.length ≤ 47 := by rw [erq, List.length_append] at hl47; omega
    have h40 : ∀ x ∈ ps, x ≠ 40 := fun x hx z => by
      have := (hps x hx).1
      rw [z, show bd 40 = 0 by decide] at this
      omega
    have hPq : PIv 3 qs (stL σ r ++ ps.map fun x => -x) un (m + ps.length) := by
      rw [erq] at hP
      exact hP.pops h40
    have hm2 : m + ps.length ≤ 277 := hPq.n277.1
    have hqm : ∀ y ∈ qs.head?, 6 < rkE y ∨ rkE y < 0 := by
      intro y hy
      rcases hq with ⟨_, rfl⟩ | ⟨_, qs', rfl⟩
      · simp at hy
      · simp at hy
        rw [← hy]
        exact Or.inl (by decide)
    refine w2_rx (y' := fun τ' => j_Mo_behindUnit_104 0 τ') (F := fun τ' => EqP (PPo (560 * b + c + m) ps.length) τ τ' ∧ MSt τ' qs ∧ gi τ' 86 43 = ((naL qs : Nat) : Int)) (fun Q' hQ' => x_popM 0 qs hqm Q' τ ps FU (560 * b + c + m) τ (by unfold FU; omega) (fun x hx => ⟨hw.2 x hx, h40 x hx, (hps x hx).2⟩) (by rw [← erq]; exact hM) (by rw [← erq]; omega) d2 (by omega) (by rw [← erq]; exact h43) (by rw [← erq]; omega) (fun τ' z1 z2 z3 _ _ => hQ' τ' ⟨z1, z2, z3⟩)) ?_
    rintro τ' ⟨hE', hM', h43'⟩
    have hG' : GS u b B N σ0 τ0 σ τ' k p n := h.wr (P := fun _ _ => False) (EqP.rf _ _) hE' (fun r k z => z.elim) (fun r k z => ⟨by first | exact pmA (by omega) | exact pmB (by omega) | exact pmC (by omega) | exact pmD (by omega) | exact pmE (by omega) | exact pmF (by omega) | exact pmG (by omega) | exact pmH (by omega) | exact pmI (by omega) | (rcases z with z | z <;> first | exact pmA (by omega) | exact pmB (by omega) | exact pmC (by omega) | exact pmD (by omega) | exact pmE (by omega) | exact pmF (by omega) | exact pmG (by omega) | exact pmH (by omega) | exact pmI (by omega)) | (rcases z with z | z | z <;> first | exact pmA (by omega) | exact pmB (by omega) | exact pmC (by omega) | exact pmD (by omega) | exact pmE (by omega) | exact pmF (by omega) | exact pmG (by omega) | exact pmH (by omega) | exact pmI (by omega)), by omega⟩)
    have hql : qs.length ≤ 47 := by rw [erq, List.length_append] at hl47; omega
    unfold j_Mo_behindUnit_104
    rw [if_pos (show (0 : Int) ≤ 0 by decide), hM'.1, iwc (by omega) (by omega), os_eq, show ((qs.length + 1 : Nat) : Int) - 1 = (qs.length : Int) by omega]
    have hE2 : EqP (fun r k => r = 86 ∧ k = 44) τ' (si τ' 86 44 (qs.length : Int)) := EqP.si (EqP.rf _ _) _ _ _ (by omega)
    have g44 : gi (si τ' 86 44 (qs.length : Int)) 86 44 = (qs.length : Int) := gi_same _ _ _ _
    have hG2 : GS u b B N σ0 τ0 σ (si τ' 86 44 (qs.length : Int)) k p n := hG'.wr (P := fun _ _ => False) (EqP.rf _ _) hE2 (fun r k z => z.elim) (fun r k z => ⟨by first | exact pmA (by omega) | exact pmB (by omega) | exact pmC (by omega) | exact pmD (by omega) | exact pmE (by omega) | exact pmF (by omega) | exact pmG (by omega) | exact pmH (by omega) | exact pmI (by omega) | (rcases z with z | z <;> first | exact pmA (by omega) | exact pmB (by omega) | exact pmC (by omega) | exact pmD (by omega) | exact pmE (by omega) | exact pmF (by omega) | exact pmG (by omega) | exact pmH (by omega) | exact pmI (by omega)) | (rcases z with z | z | z <;> first | exact pmA (by omega) | exact pmB (by omega) | exact pmC (by omega) | exact pmD (by omega) | exact pmE (by omega) | exact pmF (by omega) | exact pmG (by omega) | exact pmH (by omega) | exact pmI (by omega)), by omega⟩)
    rcases hq with ⟨hnb, rfl⟩ | ⟨hnb, qs', rfl⟩
    · have g8 : gi (si τ' 86 44 ((([] : List Int).length : Nat) : Int)) 115 0 = 8 := by rw [hE2.i _ _ (by omega)]; exact hM'.2.1
      generalize si τ' 86 44 ((([] : List Int).length : Nat) : Int) = τ2 at hE2 g44 hG2 g8 ⊢
      have g44 : gi τ2 86 44 = 0 := g44
      rw [g44, oc_pos (show (0 : Int) ≤ 0 ∧ (0 : Int) < 90 by decide), show ((0 : Int)).toNat = 0 from rfl, g8, if_neg (show ¬ (8 : Int) = 7 by decide), ob_eq]
      exact stop σ τ2 hG2 (fun z => hk59 ⟨z, hnb⟩) g44
    · have ht := hM'.top.1
      have g7 : gi (si τ' 86 44 (((40 :: qs').length : Nat) : Int)) 115 (qs'.length + 1) = 7 := by rw [hE2.i _ _ (by omega), ht]; decide
      have g43 : gi (si τ' 86 44 (((40 :: qs').length : Nat) : Int)) 86 43 = ((naL (40 :: qs') : Nat) : Int) := by rw [hE2.i _ _ (by omega)]; exact h43'
      generalize si τ' 86 44 (((40 :: qs').length : Nat) : Int) = τ2 at hE2 g44 hG2 g7 g43 ⊢
      have hna : naL (40 :: qs') ≤ 100 := by
        rw [erq] at hP2
        have := (na_app ps (40 :: qs')).1
        omega
      rw [g44, oc_pos (by omega), Int.toNat_natCast, List.length_cons, g7, if_pos rfl, g43, iwc (by omega) (by omega), os_eq, ob_as]
      have hE3 : EqP (fun r k => r = 86 ∧ k = 43) τ2 (si τ2 86 43 (((naL (40 :: qs') : Nat) : Int) - 1)) := EqP.si (EqP.rf _ _) _ _ _ (by omega)
      have hG3 : GS u b B N σ0 τ0 σ (si τ2 86 43 (((naL (40 :: qs') : Nat) : Int) - 1)) k p n := hG2.wr (P := fun _ _ => False) (EqP.rf _ _) hE3 (fun r k z => z.elim) (fun r k z => ⟨by first | exact pmA (by omega) | exact pmB (by omega) | exact pmC (by omega) | exact pmD (by omega) | exact pmE (by omega) | exact pmF (by omega) | exact pmG (by omega) | exact pmH (by omega) | exact pmI (by omega) | (rcases z with z | z <;> first | exact pmA (by omega) | exact pmB (by omega) | exact pmC (by omega) | exact pmD (by omega) | exact pmE (by omega) | exact pmF (by omega) | exact pmG (by omega) | exact pmH (by omega) | exact pmI (by omega)) | (rcases z with z | z | z <;> first | exact pmA (by omega) | exact pmB (by omega) | exact pmC (by omega) | exact pmD (by omega) | exact pmE (by omega) | exact pmF (by omega) | exact pmG (by omega) | exact pmH (by omega) | exact pmI (by omega)), by omega⟩)
      generalize si τ2 86 43 (((naL (40 :: qs') : Nat) : Int) - 1) = τ3 at hE3 hG3 ⊢
      rw [x_isSignHere hG3.1 41 (by omega), ob_eq, if_neg (show ¬ k = 41 from fun z => hk ⟨z, hnb⟩)]
      unfold f_Mo_must
      rw [x_isGoodG hG3.2.1.1, ob_eq, if_neg (show ¬ (1 : Int) = 0 by decide), if_pos rfl, ob_as, ob_as]
      refine bad 0 σ τ3 _ hG3 (fun z s hs => ?_)
      rw [ob_eq, ob_eq]
  by_cases h41 : k = 41
  · have hrk : rnk k = 0 := by rw [h41]; decide
    by_cases hnb : nbL rs = 0
    · refine nil hrk ?_ (fun z => z.2 hnb)
      unfold f_FR_readBehindUnit
      rw [ol_eq, e3, if_pos h41, c3, hnb, if_pos (show ((0 : Nat) : Int) = 0 from rfl)]
    · -- a bracket that ends
      rw [if_neg (show ¬ rnk k = 4 by omega), hrk]
      obtain ⟨ps, qs, erq, hps, hq⟩ := spl1 rs hP1
      rcases hq with ⟨z, _⟩ | ⟨_, qs', rfl⟩
      · exact absurd z hnb
      rw [erq] at hF'
      have eC : (ob (ob (f_FR_readBehindUnit r σ) fun r2 s2 => if r2 = (-1) then (some (0, s2)) else (ob (f_To_move s2) fun _ s3 => selfC r2 s3)) kF) = ob (f_FR_settle r 1 σ) fun _ s9 => ob (f_To_move (si (si (si s9 44 2 (iw (gi s9 44 2 - 1))) 44 3 (iw (gi (si s9 44 2 (iw (gi s9 44 2 - 1))) 44 3 - 1))) 44 4 (iw (gi (si (si s9 44 2 (iw (gi s9 44 2 - 1))) 44 3 (iw (gi (si s9 44 2 (iw (gi s9 44 2 - 1))) 44 3 - 1))) 44 4 - 1)))) fun _ s3 => ob (selfC 3 s3) kF := by
        unfold f_FR_readBehindUnit
        rw [ol_eq, e3, if_pos h41, c3, if_neg (show ¬ ((nbL rs : Nat) : Int) = 0 by omega), ob_as, ob_as]
        congr 1
        funext _ s9
        rw [os_eq, os_eq, os_eq, ob_eq, if_neg (show ¬ (3 : Int) = -1 by decide), ob_as]
      rw [eC, ob_as]
      refine g_pops hb ⟨by omega, by omega⟩ hc hF' 1 0 (by omega) (fun x hx => hps x hx) (fun y hy => ?_) (fun y hy => ?_) _ _ Q ?_
      · simp at hy; rw [← hy]; decide
      · simp at hy; rw [← hy]; exact Or.inl (by decide)
      intro r1 σ1 τ1 hF1 hE1 hE1' hm2
      obtain ⟨hC1, ⟨hM1, h431⟩, hD1, hN1, hP1'⟩ := hF1
      obtain ⟨k1, k2, k3, k4⟩ := id hC1
      have hPc := hP1'.close
      have hql : (40 :: qs').length ≤ 47 := hP1'.n277.2
      have hn7 := hP1'.2.1
      rw [List.length_cons] at hql
      have hnb1 : nbL (40 :: qs') = nbL qs' + 1 := by rw [nbL, if_pos rfl]; omega
      have hna1 : naL (40 :: qs') = naL qs' + 1 := by rw [naL, if_pos (Or.inl rfl)]; omega
      have hnb2 : nbL qs' ≤ naL qs' := by
        have : ∀ l : List Int, nbL l ≤ naL l := by
          intro l
          induction l with
          | nil => exact Nat.le_refl _
          | cons a l ih =>
            rw [nbL, naL]
            by_cases ha : a = 40
            · rw [if_pos ha, if_pos (Or.inl ha)]; omega
            · rw [if_neg ha]; omega
        exact this qs'
      have hG1 : GS u b B N σ0 τ0 σ1 τ1 k p n := h.wr hE1 hE1' (fun r' k z => by omega) (fun r k z => ⟨by first | exact pmA (by omega) | exact pmB (by omega) | exact pmC (by omega) | exact pmD (by omega) | exact pmE (by omega) | exact pmF (by omega) | exact pmG (by omega) | exact pmH (by omega) | exact pmI (by omega) | (rcases z with z | z <;> first | exact pmA (by omega) | exact pmB (by omega) | exact pmC (by omega) | exact pmD (by omega) | exact pmE (by omega) | exact pmF (by omega) | exact pmG (by omega) | exact pmH (by omega) | exact pmI (by omega)) | (rcases z with z | z | z <;> first | exact pmA (by omega) | exact pmB (by omega) | exact pmC (by omega) | exact pmD (by omega) | exact pmE (by omega) | exact pmF (by omega) | exact pmG (by omega) | exact pmH (by omega) | exact pmI (by omega)), by omega⟩)
      rw [gi_ne_k _ _ _ _ (show 3 ≠ 2 by omega), gi_ne_k _ _ _ _ (show 4 ≠ 3 by omega), gi_ne_k _ _ _ _ (show 4 ≠ 2 by omega), k1, k3, k4, List.length_cons, hnb1, hna1, iwc (x := ((qs'.length + 1 : Nat) : Int) - 1) (by omega) (by omega), iwc (x := ((nbL qs' + 1 : Nat) : Int) - 1) (by omega) (by omega), iwc (x := ((naL qs' + 1 : Nat) : Int) - 1) (by omega) (by omega), show ((qs'.length + 1 : Nat) : Int) - 1 = (qs'.length : Int) by omega, show ((nbL qs' + 1 : Nat) : Int) - 1 = (nbL qs' : Int) by omega, show ((naL qs' + 1 : Nat) : Int) - 1 = (naL qs' : Int) by omega]
      have hEc : EqP (fun r k => r = 44 ∧ 2 ≤ k) σ1 (si (si (si σ1 44 2 (qs'.length : Int)) 44 3 (nbL qs' : Int)) 44 4 (naL qs' : Int)) := EqP.si (EqP.si (EqP.si (EqP.rf _ _) _ _ _ (by omega)) _ _ _ (by omega)) _ _ _ (by omega)
      have hC2 : CSt (si (si (si σ1 44 2 (qs'.length : Int)) 44 3 (nbL qs' : Int)) 44 4 (naL qs' : Int)) qs' := by
        refine ⟨?_, ?_, ?_, gi_same _ _ _ _⟩
        · rw [gi_ne_k _ _ _ _ (by omega), gi_ne_k _ _ _ _ (by omega), gi_same]
        · have e : rowl (gi (si (si (si σ1 44 2 (qs'.length : Int)) 44 3 (nbL qs' : Int)) 44 4 (naL qs' : Int)) 45) qs'.length = rowl (gi σ1 45) qs'.length := rowl_congr (fun i _ => hEc.i _ _ (by omega))
          rw [e]
          exact rowl_drop _ [40] qs' k2
        · rw [gi_ne_k _ _ _ _ (by omega), gi_same]
      generalize si (si (si σ1 44 2 (qs'.length : Int)) 44 3 (nbL qs' : Int)) 44 4 (naL qs' : Int) = σ2 at hEc hC2 ⊢
      unfold j_Mo_behindUnit_104
      have ht := hM1.top.1
      rw [if_pos (show (0 : Int) ≤ 0 by decide), hM1.1, List.length_cons, iwc (by omega) (by omega), os_eq, show ((qs'.length + 1 + 1 : Nat) : Int) - 1 = ((qs'.length + 1 : Nat) : Int) by omega]
      have hE2 : EqP (fun r k => r = 86 ∧ k = 44) τ1 (si τ1 86 44 ((qs'.length + 1 : Nat) : Int)) := EqP.si (EqP.rf _ _) _ _ _ (by omega)
      have g44 : gi (si τ1 86 44 ((qs'.length + 1 : Nat) : Int)) 86 44 = ((qs'.length + 1 : Nat) : Int) := gi_same _ _ _ _
      have g7 : gi (si τ1 86 44 ((qs'.length + 1 : Nat) : Int)) 115 (qs'.length + 1) = 7 := by rw [hE2.i _ _ (by omega), ht]; decide
      have g43 : gi (si τ1 86 44 ((qs'.length + 1 : Nat) : Int)) 86 43 = ((naL qs' + 1 : Nat) : Int) := by rw [hE2.i _ _ (by omega), h431, hna1]
      have hM2 : MSt (si τ1 86 44 ((qs'.length + 1 : Nat) : Int)) qs' := hM1.pop hE2 (fun r k z => by omega) g44
      generalize si τ1 86 44 ((qs'.length + 1 : Nat) : Int) = τ2 at hE2 g44 g7 g43 hM2 ⊢
      rw [g44, oc_pos (by omega), Int.toNat_natCast, g7, if_pos rfl, g43, iwc (by omega) (by omega), os_eq, show ((naL qs' + 1 : Nat) : Int) - 1 = (naL qs' : Int) by omega]
      have hE3 : EqP (fun r k => r = 86 ∧ k = 43) τ2 (si τ2 86 43 (naL qs' : Int)) := EqP.si (EqP.rf _ _) _ _ _ (by omega)
      have g43' : gi (si τ2 86 43 (naL qs' : Int)) 86 43 = (naL qs' : Int) := gi_same _ _ _ _
      have hM3 : MSt (si τ2 86 43 (naL qs' : Int)) qs' := hM2.of hE3 (fun r k z => by omega)
      generalize si τ2 86 43 (naL qs' : Int) = τ3 at hE3 g43' hM3 ⊢
      have hE13 : EqP (fun r k => r = 86 ∧ (k = 43 ∨ k = 44)) τ1 τ3 := (hE2.mo (fun r k z => by omega)).tr (hE3.mo (fun r k z => by omega))
      have hG3 : GS u b B N σ0 τ0 σ2 τ3 k p n := hG1.wr hEc hE13 (fun r k z => by omega) (fun r k z => ⟨by first | exact pmA (by omega) | exact pmB (by omega) | exact pmC (by omega) | exact pmD (by omega) | exact pmE (by omega) | exact pmF (by omega) | exact pmG (by omega) | exact pmH (by omega) | exact pmI (by omega) | (rcases z with z | z <;> first | exact pmA (by omega) | exact pmB (by omega) | exact pmC (by omega) | exact pmD (by omega) | exact pmE (by omega) | exact pmF (by omega) | exact pmG (by omega) | exact pmH (by omega) | exact pmI (by omega)) | (rcases z with z | z | z <;> first | exact pmA (by omega) | exact pmB (by omega) | exact pmC (by omega) | exact pmD (by omega) | exact pmE (by omega) | exact pmF (by omega) | exact pmG (by omega) | exact pmH (by omega) | exact pmI (by omega)), by omega⟩)
      rw [x_isSignHere hG3.1 41 (by omega), ob_as, ob_eq, if_pos h41]
      unfold f_Mo_must
      rw [x_isGoodG hG3.2.1.1, ob_eq, if_neg (show ¬ (1 : Int) = 0 by decide), if_neg (show ¬ (1 : Int) = 0 by decide), ob_as, ob_as]
      refine w2_call (g_move hu hG3) ?_
      rintro _ σ4 _ τ4 ⟨k', p', n', hG4, hp4, hE4, hE4'⟩
      rw [ob_eq, ob_eq]
      refine next 3 0 qs' un (m + ps.length) σ4 τ4 k' p' n' hG4 hp4 (tok (by omega)) ⟨hC2.of hE4 (fun r k z => by omega), ⟨hM3.of hE4' (fun r k z => by omega), ?_⟩, (hD1.of hEc hE13 (fun r' k z => by omega) (fun r' k z => by omega)).of hE4 hE4' (fun r' k z => by omega) (fun r' k z => by omega), (hN1.of hEc hE13 (fun r' k z => by omega) (fun r' k z => by omega)).of hE4 hE4' (fun r' k z => by omega) (fun r' k z => by omega), ?_⟩ ?_ ?_ (Or.inl ⟨rfl, rfl⟩)
      · rw [hE4'.i _ _ (by omega)]; exact g43'
      · have es : stL σ4 r = stL σ1 r := stL_cg (by rw [hE4.i _ _ (by omega), hEc.i _ _ (by omega)]) (fun j => by rw [hE4.i _ _ (by omega), hEc.i _ _ (by omega)])
        rw [es]
        exact hPc
      · exact ((hE1.mo (fun r' k z => by omega)).tr (hEc.mo (fun r' k z => by omega))).tr (hE4.mo (fun r' k z => by omega))
      · exact ((hE1'.mo (fun r' k z => by omega)).tr (hE13.mo (fun r' k z => by omega))).tr (hE4'.mo (fun r' k z => by omega))
  · rcases bd_cases k with ⟨hwk, hk40, hk273, hbk, hrk, hkk⟩ | ⟨hbk, hrk⟩
    · -- an operator
      have hk0 : k ≠ 0 := by
        intro z
        rw [z, show bd 0 = 0 by decide] at hbk
        omega
      obtain ⟨y2, hy2, hy2b⟩ : ∃ y2 : Int, (bd k = 4 ∧ y2 = 5 ∨ bd k ≠ 4 ∧ y2 = bd k) ∧ 1 ≤ y2 := by
        by_cases h4 : bd k = 4
        · exact ⟨5, Or.inl ⟨h4, rfl⟩, by omega⟩
        · exact ⟨bd k, Or.inr ⟨h4, rfl⟩, by omega⟩
      have eC : (ob (ob (f_FR_readBehindUnit r σ) fun r2 s2 => if r2 = (-1) then (some (0, s2)) else (ob (f_To_move s2) fun _ s3 => selfC r2 s3)) kF) = ob (f_FR_settle r y2 σ) fun _ s1 => ob (ob (if bd k = 4 then (ob (f_FR_bindingOnTop s1) fun r3 s3 => if r3 = 4 then (some ((-1), s3)) else (j_FR_readBehindUnit_107 r k (bd k) s3)) else (j_FR_readBehindUnit_107 r k (bd k) s1)) fun r2 s2 => if r2 = (-1) then (some (0, s2)) else (ob (f_To_move s2) fun _ s3 => selfC r2 s3)) kF := by
        unfold f_FR_readBehindUnit j_FR_readBehindUnit_89
        rw [ol_eq, e3, if_neg h41, x_bindingOf, ob_eq, if_neg (show ¬ bd k = 0 by omega), if_neg (show ¬ bd k = 3 by omega)]
        rcases hy2 with ⟨h4, rfl⟩ | ⟨h4, rfl⟩
        · rw [if_pos h4, ob_as, ob_as]
          congr 1
          funext _ s1
          exact (ob_as _ _ _).symm
        · rw [if_neg h4, ob_as, ob_as]
          congr 1
          funext _ s1
          exact (ob_as _ _ _).symm
      rw [eC]
      obtain ⟨ps, qs, erq, h1, h2⟩ := spl (fun x => decide (y2 ≤ bd x)) rs
      have hw := SH_app ps qs (by rw [← erq]; exact hP1)
      have hq2 : ∀ y ∈ qs.head?, bd y < y2 := fun y hy => by have := of_decide_eq_false (h2 y hy); omega
      have hqw : ∀ y ∈ qs.head?, wOK y := by
        intro y hy
        cases qs with
        | nil => simp at hy
        | cons a qs => simp at hy; rw [← hy]; exact hw.1.1
      have hps : ∀ x ∈ ps, y2 ≤ bd x ∧ rnk k ≤ rkE x := fun x hx => by
        have h3 := of_decide_eq_true (h1 x hx)
        have h4 := wOK_bd (hw.2 x hx)
        exact ⟨h3, by omega⟩
      rw [erq] at hF'
      -- what comes when all that binds tighter is gone
      have fin : (∀ y ∈ qs.head?, bd y < bd k) → (bd k = 4 → tpB qs ≠ 4) → W2 (ob (f_FR_settle r y2 σ) fun _ s1 => ob (ob (if bd k = 4 then (ob (f_FR_bindingOnTop s1) fun r3 s3 => if r3 = 4 then (some ((-1), s3)) else (j_FR_readBehindUnit_107 r k (bd k) s3)) else (j_FR_readBehindUnit_107 r k (bd k) s1)) fun r2 s2 => if r2 = (-1) then (some (0, s2)) else (ob (f_To_move s2) fun _ s3 => selfC r2 s3)) kF) (ob (l_Mo_behindUnit_23 (rnk k) FU τ) fun r s => ob (selfM r s) KM) Q := by
        intro hqb hcmp
        refine g_pops hb ⟨by omega, by omega⟩ hc hF' y2 (rnk k) hy2b hps hq2 (fun y hy => ?_) _ _ Q ?_
        · have h3 := hqb y hy
          have h4 := wOK_bd (hqw y hy)
          omega
        intro r1 σ1 τ1 hF1 hE1 hE1' hm2
        obtain ⟨hC1, ⟨hM1, h431⟩, hD1, hN1, hP1'⟩ := hF1
        obtain ⟨k1, k2, k3, k4⟩ := id hC1
        have hql : qs.length ≤ 47 := hP1'.n277.2
        have hPo := hP1'.op k hwk ⟨hk40, hk273⟩ hqb
        have hG1 : GS u b B N σ0 τ0 σ1 τ1 k p n := h.wr hE1 hE1' (fun r' k z => by omega) (fun r k z => ⟨by first | exact pmA (by omega) | exact pmB (by omega) | exact pmC (by omega) | exact pmD (by omega) | exact pmE (by omega) | exact pmF (by omega) | exact pmG (by omega) | exact pmH (by omega) | exact pmI (by omega) | (rcases z with z | z <;> first | exact pmA (by omega) | exact pmB (by omega) | exact pmC (by omega) | exact pmD (by omega) | exact pmE (by omega) | exact pmF (by omega) | exact pmG (by omega) | exact pmH (by omega) | exact pmI (by omega)) | (rcases z with z | z | z <;> first | exact pmA (by omega) | exact pmB (by omega) | exact pmC (by omega) | exact pmD (by omega) | exact pmE (by omega) | exact pmF (by omega) | exact pmG (by omega) | exact pmH (by omega) | exact pmI (by omega)), by omega⟩)
        have e107 : j_FR_readBehindUnit_107 r k (bd k) σ1 = some ((if 3 ≤ bd k then 2 else 1), si (si σ1 45 qs.length k) 44 2 ((qs.length + 1 : Nat) : Int)) := by
          unfold j_FR_readBehindUnit_107
          rw [x_await k1 (by omega), ob_eq, if_neg (show ¬ (1 : Int) = 0 by decide)]
          by_cases h3 : 3 ≤ bd k
          · rw [if_pos h3, if_pos h3]
          · rw [if_neg h3, if_neg h3]
        have eL : (if bd k = 4 then (ob (f_FR_bindingOnTop σ1) fun r3 s3 => if r3 = 4 then (some ((-1), s3)) else (j_FR_readBehindUnit_107 r k (bd k) s3)) else (j_FR_readBehindUnit_107 r k (bd k) σ1)) = some ((if 3 ≤ bd k then 2 else 1), si (si σ1 45 qs.length k) 44 2 ((qs.length + 1 : Nat) : Int)) := by
          by_cases h4 : bd k = 4
          · rw [if_pos h4, x_bindTop k1 (by omega) k2, ob_eq, if_neg (hcmp h4), e107]
          · rw [if_neg h4, e107]
        have hw12 : ¬ (if 3 ≤ bd k then (2 : Int) else 1) = -1 := by
          by_cases h3 : 3 ≤ bd k
          · rw [if_pos h3]; decide
          · rw [if_neg h3]; decide
        rw [eL, ob_eq, if_neg hw12, ob_as]
        have hEc : EqP (fun r k => r = 44 ∧ 2 ≤ k ∨ r = 45) σ1 (si (si σ1 45 qs.length k) 44 2 ((qs.length + 1 : Nat) : Int)) := EqP.si (EqP.si (EqP.rf _ _) _ _ _ (by omega)) _ _ _ (by omega)
        have hC2 : CSt (si (si σ1 45 qs.length k) 44 2 ((qs.length + 1 : Nat) : Int)) (k :: qs) := by
          refine ⟨gi_same _ _ _ _, ?_, ?_, ?_⟩
          · rw [List.length_cons, rowl_s]
            congr 1
            · rw [gi_ne_r _ _ _ _ (by omega), gi_same]
            · conv => rhs; rw [← k2]
              exact rowl_congr (fun i hi => by rw [gi_ne_r _ _ _ _ (by omega), gi_ne_k _ _ _ _ (by omega)])
          · rw [gi_ne_k _ _ _ _ (by omega), gi_ne_r _ _ _ _ (by omega), k3, nbL, if_neg hk40, Nat.zero_add]
          · rw [gi_ne_k _ _ _ _ (by omega), gi_ne_r _ _ _ _ (by omega), k4, naL, if_neg (by omega), Nat.zero_add]
        generalize si (si σ1 45 qs.length k) 44 2 ((qs.length + 1 : Nat) : Int) = σ2 at hEc hC2 ⊢
        have eM : (ob (j_Mo_behindUnit_104 (rnk k) τ1) fun r s => ob (selfM r s) KM) = ob (f_Mo_goOn (si (si (si τ1 115 (qs.length + 1) (rkE k)) 116 (qs.length + 1) (sgE k)) 86 44 ((qs.length + 1 + 1 : Nat) : Int))) fun _ s2 => ob (selfM 1 s2) KM := by
          have e138 : ∀ z1 z2, (ob (j_Mo_behindUnit_138 z1 z2 τ1) fun r s => ob (selfM r s) KM) = ob (f_Mo_goOn (si (si (si τ1 115 (qs.length + 1) z1) 116 (qs.length + 1) z2) 86 44 ((qs.length + 1 + 1 : Nat) : Int))) fun _ s2 => ob (selfM 1 s2) KM := by
            intro z1 z2
            unfold j_Mo_behindUnit_138
            rw [x_pushE hM1.1 (by omega), ob_eq, ob_as]
            rfl
          have hrkE : rkE k = bd k := by rcases wOK_bd hwk with z | z | z <;> omega
          unfold j_Mo_behindUnit_104
          rw [if_neg (show ¬ rnk k ≤ 0 by omega), hrkE]
          rcases hkk with ⟨z1, z2⟩ | ⟨z1, z2⟩ | ⟨z1, z2, z3⟩
          · rw [if_neg (show ¬ rnk k = 2 by omega), if_pos (show rnk k = 1 by omega), e138, hrk, z1]
            rfl
          · rw [if_pos (show rnk k = 2 by omega), e138, hrk, z1]
            rfl
          · have hs : f_Mo_sign (gi τ1 86 6) τ1 = some (k, τ1) := by
              have hT := hG1.1
              obtain ⟨q1, q2, q3, q4, q5, q6, q7, q8, q9⟩ := hT
              rw [q6, x_signM q2 p]
              rcases q9 with ⟨z, _⟩ | ⟨zp, ⟨z, _⟩ | ⟨z, _⟩ | ⟨z, _⟩ | ⟨_, _, z⟩ | ⟨i, hi, z, _⟩⟩
              · omega
              · omega
              · omega
              · omega
              · rw [sgM_eq p (by omega) (by omega), z]
              · omega
            rw [if_neg (show ¬ rnk k = 2 by omega), if_neg (show ¬ rnk k = 1 by omega), hs, ob_eq, e138, hrk, z3]
        rw [eM]
        have hM2 := hM1.push k
        have hEm : EqP (fun r k => r = 115 ∨ r = 116 ∨ r = 86 ∧ k = 44) τ1 (si (si (si τ1 115 (qs.length + 1) (rkE k)) 116 (qs.length + 1) (sgE k)) 86 44 ((qs.length + 1 + 1 : Nat) : Int)) := EqP.si (EqP.si (EqP.si (EqP.rf _ _) _ _ _ (by omega)) _ _ _ (by omega)) _ _ _ (by omega)
        generalize si (si (si τ1 115 (qs.length + 1) (rkE k)) 116 (qs.length + 1) (sgE k)) 86 44 ((qs.length + 1 + 1 : Nat) : Int) = τ2 at hM2 hEm ⊢
        have hG2 : GS u b B N σ0 τ0 σ2 τ2 k p n := hG1.wr hEc hEm (fun r k z => by omega) (fun r k z => ⟨by first | exact pmA (by omega) | exact pmB (by omega) | exact pmC (by omega) | exact pmD (by omega) | exact pmE (by omega) | exact pmF (by omega) | exact pmG (by omega) | exact pmH (by omega) | exact pmI (by omega) | (rcases z with z | z <;> first | exact pmA (by omega) | exact pmB (by omega) | exact pmC (by omega) | exact pmD (by omega) | exact pmE (by omega) | exact pmF (by omega) | exact pmG (by omega) | exact pmH (by omega) | exact pmI (by omega)) | (rcases z with z | z | z <;> first | exact pmA (by omega) | exact pmB (by omega) | exact pmC (by omega) | exact pmD (by omega) | exact pmE (by omega) | exact pmF (by omega) | exact pmG (by omega) | exact pmH (by omega) | exact pmI (by omega)), by omega⟩)
        refine w2_call (g_move hu hG2) ?_
        rintro _ σ4 _ τ4 ⟨k', p', n', hG4, hp4, hE4, hE4'⟩
        refine next (if 3 ≤ bd k then 2 else 1) 1 (k :: qs) un (m + ps.length) σ4 τ4 k' p' n' hG4 hp4 (tok hk0) ⟨hC2.of hE4 (fun r k z => by omega), ⟨hM2.of hE4' (fun r k z => by omega), ?_⟩, (hD1.of hEc hEm (fun r' k z => by omega) (fun r' k z => by omega)).of hE4 hE4' (fun r' k z => by omega) (fun r' k z => by omega), (hN1.of hEc hEm (fun r' k z => by omega) (fun r' k z => by omega)).of hE4 hE4' (fun r' k z => by omega) (fun r' k z => by omega), ?_⟩ ?_ ?_ (Or.inr ⟨by decide, ?_⟩)
        · rw [hE4'.i _ _ (by omega), hEm.i _ _ (by omega), h431, naL, if_neg (show ¬ (k = 40 ∨ k = 273) by omega), Nat.zero_add]
        · have es : stL σ4 r = stL σ1 r := stL_cg (by rw [hE4.i _ _ (by omega), hEc.i _ _ (by omega)]) (fun j => by rw [hE4.i _ _ (by omega), hEc.i _ _ (by omega)])
          rw [es]
          exact hPo
        · exact ((hE1.mo (fun r' k z => by omega)).tr (hEc.mo (fun r' k z => by omega))).tr (hE4.mo (fun r' k z => by omega))
        · exact ((hE1'.mo (fun r' k z => by omega)).tr (hEm.mo (fun r' k z => by omega))).tr (hE4'.mo (fun r' k z => by omega))
        · by_cases h3 : 3 ≤ bd k
          · rw [if_pos h3]; decide
          · rw [if_neg h3]; decide
      by_cases h4 : bd k = 4
      · rw [if_pos (show rnk k = 4 by omega)]
        have hy5 : y2 = 5 := by omega
        have hcm : f_Mo_isCompared τ = some (cmB qs, τ) := by
          unfold f_Mo_isCompared
          have := x_compared qs (fun y hy => by have := hq2 y hy; omega) hqw τ hM.2.1 ps FU (by rw [erq, List.length_append] at hl47; unfold FU; omega) (fun x hx => ⟨hw.2 x hx, by have := (hps x hx).1; omega⟩) (by rw [← erq]; exact hM.2.2.1) (by rw [← erq]; omega)
          rw [ol_eq, hM.1, iwc (by omega) (by omega), show ((rs.length + 1 : Nat) : Int) - 1 = (rs.length : Int) by omega, ← this, ← erq]
        rw [hcm, ob_eq]
        by_cases hc4 : cmB qs = 0
        · rw [if_pos hc4, ob_as]
          have hnot : ∀ y ∈ qs.head?, bd y ≠ 4 := by
            intro y hy z
            cases qs with
            | nil => simp at hy
            | cons a qs =>
              simp at hy
              rw [hy] at hc4
              have : cmB (y :: qs) = 1 := by
                show (if bd y = 4 then (1 : Int) else 0) = 1
                rw [if_pos z]
              omega
          refine fin (fun y hy => ?_) (fun _ z => ?_)
          · have h5 := hq2 y hy
            have h6 := hnot y hy
            omega
          · cases qs with
            | nil => exact absurd z (by decide)
            | cons a qs => exact hnot a rfl z
        · -- compared already
          have htp : tpB qs = 4 := by
            cases qs with
            | nil => exact absurd rfl hc4
            | cons a qs =>
              by_cases z : bd a = 4
              · exact z
              · exact absurd (show (if bd a = 4 then (1 : Int) else 0) = 0 by rw [if_neg z]) hc4
          rw [if_neg hc4, ob_as, ob_as]
          obtain ⟨hC', _, hD', _, _⟩ := hF'
          obtain ⟨hlq, hPq⟩ : qs.length ≤ 47 ∧ m + ps.length ≤ 277 := by
            have h40 : ∀ x ∈ ps, x ≠ 40 := fun x hx z => by
              have := (hps x hx).1
              rw [z, show bd 40 = 0 by decide] at this
              omega
            rw [erq] at hP
            exact ⟨hP.pops h40 |>.n277.2, hP.pops h40 |>.n277.1⟩
          have h40 : ∀ x ∈ ps, x ≠ 40 := fun x hx z => by
            have := (hps x hx).1
            rw [z, show bd 40 = 0 by decide] at this
            omega
          obtain ⟨c1', c2', c3', c4'⟩ := id hC'
          obtain ⟨r1, σ1, e1, hE1, f2, _, _, _, _⟩ := x_settleC r (by omega) y2 hy2b qs hq2 ps FU σ m (by rw [erq, List.length_append] at hl47; unfold FU; omega) (fun x hx => ⟨hw.2 x hx, h40 x hx, (hps x hx).1⟩) c1' (by rw [← erq]; omega) c2' hD'.1 (by omega) c4' (by rw [← erq]; omega)
          have hrow : rowl (gi σ1 45) qs.length = qs := by
            have e : rowl (gi σ1 45) qs.length = rowl (gi σ 45) qs.length := rowl_congr (fun i _ => hE1.i _ _ (by omega))
            rw [e]
            exact rowl_drop _ ps qs c2'
          unfold f_FR_settle
          rw [e1, ob_eq, if_pos h4, x_bindTop f2 (by omega) hrow, ob_eq, if_pos htp, ob_eq, if_pos rfl, ob_eq]
          refine bad 1 σ1 τ _ (h.wr (P' := fun _ _ => False) hE1 (EqP.rf _ _) (fun r' k z => by omega) (fun r k z => z.elim)) (fun z s hs => ?_)
          rw [ob_eq]
      · rw [if_neg (show ¬ rnk k = 4 by omega), ob_as]
        refine fin (fun y hy => ?_) (fun z => absurd z h4)
        have h5 := hq2 y hy
        omega
    · refine nil hrk ?_ (fun z => h41 z.1)
      unfold f_FR_readBehindUnit
      rw [ol_eq, e3, if_neg h41, x_bindingOf, ob_eq]
      rcases hbk with z | z
      · rw [if_pos z]
      · rw [if_neg (show ¬ bd k = 0 by omega), if_pos z]
end
