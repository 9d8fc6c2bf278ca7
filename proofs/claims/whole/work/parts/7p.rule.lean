/-! formulas: the loop, a rule -/
section
variable {u b : Nat} {B : Nat → Int} {N : Nat} {σ0 τ0 σ τ : SS} {k : Int} {p n : Nat}
theorem g_form {c U r : Nat} (hu : u = 2 ∨ u = 22) (hb : b < 2) (hr : r = u + 14 ∨ r = u + 17) (hc : c ≤ 280) (hU : U ≤ 30) (σs τs : SS) (p0 : Nat) (kF KM : Int → SS → OO) (Q : Int → SS → Int → SS → Prop)
    (done : ∀ (σ' τ' : SS) (k' : Int) (p' n' un' m' : Nat), GS u b B N σ0 τ0 σ' τ' k' p' n' → p0 ≤ p' → CDs b c r m' σ' τ' → UNs b U r un' σ' τ' → PIv 3 [] (stL σ' r) un' m' → EqP (PF r) σs σ' → EqP (PFr b c) τs τ' → W2 (kF 1 σ') (KM 0 τ') Q)
    (stop : ∀ (σ' τ' : SS) (k' : Int) (p' n' : Nat), GS u b B N σ0 τ0 σ' τ' k' p' n' → k' ≠ 59 → W2 (kF 0 σ') (KM 0 τ') Q)
    (bad : ∀ (σ' τ' : SS) (k' : Int) (p' n' : Nat) (K' : Int → SS → OO), GS u b B N σ0 τ0 σ' τ' k' p' n' → (∀ z s, gi s 86 4 ≠ 0 → K' z s = KM 0 s) → W2 (kF 0 σ') (ob (f_Mo_misplaced τ') K') Q) :
    ∀ (d fu fu' : Nat) (w x1 : Int) (x3 : Nat) (rs : List Int) (un m : Nat) (σ τ : SS) (k : Int) (p n : Nat), N - p ≤ d → d + 2 ≤ fu → d + 2 ≤ fu' → GS u b B N σ0 τ0 σ τ k p n → p0 ≤ p → FI b c U r w rs un m σ τ → x3 ≤ p → EqP (PF r) σs σ → EqP (PFr b c) τs τ → (x1 = 0 ∧ w = 3 ∨ x1 ≠ 0 ∧ w ≠ 3) → W2 (ob (l_FR_readFormula_23 r fu w (x3 : Int) σ) kF) (ob (l_Mo_e_19 fu' x1 τ) KM) Q := by
  intro d
  induction d using Nat.strongRecOn with
  | ind d ih =>
    intro fu fu' w x1 x3 rs un m σ τ k p n hd hfu hfu' h hp0 hF hx3 hEs hEs' hx1
    obtain ⟨fu, rfl⟩ : ∃ f, fu = f + 1 := ⟨fu - 1, by omega⟩
    obtain ⟨fu', rfl⟩ : ∃ f, fu' = f + 1 := ⟨fu' - 1, by omega⟩
    obtain ⟨e3, e4, e6, en, eN, epn⟩ := h.k2
    have hF' := hF
    obtain ⟨hC, ⟨hM, h43⟩, hD, hN, hP⟩ := hF
    obtain ⟨hn277, hl47⟩ := hP.n277
    have bself : ∀ (x : Int) (s : SS), gi s 86 4 ≠ 0 → ob (l_Mo_e_19 fu' x s) KM = KM 0 s := by
      intro x s hs
      obtain ⟨f, rfl⟩ : ∃ f, fu' = f + 1 := ⟨fu' - 1, by omega⟩
      rw [l_Mo_e_19, x_isGoodB hs, ob_eq, if_pos rfl, ob_eq]
    have next : ∀ (w' x1' : Int) (rs' : List Int) (un' m' : Nat) (σ' τ' : SS) (k' : Int) (p' n' : Nat), GS u b B N σ0 τ0 σ' τ' k' p' n' → n ≤ p' → p < n → FI b c U r w' rs' un' m' σ' τ' → EqP (PF r) σ σ' → EqP (PFr b c) τ τ' → (x1' = 0 ∧ w' = 3 ∨ x1' ≠ 0 ∧ w' ≠ 3) → W2 (ob (l_FR_readFormula_23 r fu w' (iw ((x3 : Int) + 1)) σ') kF) (ob (l_Mo_e_19 fu' x1' τ') KM) Q := by
      intro w' x1' rs' un' m' σ' τ' k' p' n' hG' hnp hpn hFI' hE' hE'' hx1'
      have := hG'.k2
      rw [show iw ((x3 : Int) + 1) = ((x3 + 1 : Nat) : Int) by rw [iwc (by omega) (by omega)]; omega]
      exact ih (N - p') (by omega) fu fu' w' x1' (x3 + 1) rs' un' m' σ' τ' k' p' n' (Nat.le_refl _) (by omega) (by omega) hG' (by omega) hFI' (by omega) (hEs.tr hE') (hEs'.tr hE'') hx1'
    have eM : l_Mo_e_19 (fu' + 1) x1 τ = if x1 = 0 then (ob (f_Mo_behindUnit τ) fun r5 s5 => (l_Mo_e_19 fu') r5 s5) else (ob (f_Mo_unit τ) fun r6 s6 => (l_Mo_e_19 fu') r6 s6) := by
      rw [l_Mo_e_19, x_isGoodG h.2.1.1, ob_eq, if_neg (show ¬ (1 : Int) = 0 by decide), if_neg (show ¬ gi τ 86 44 ≤ 0 by rw [hM.1]; omega)]
    rw [l_FR_readFormula_23, if_neg (show ¬ (1600 : Int) < (x3 : Int) by omega), eM]
    rcases hx1 with ⟨rfl, rfl⟩ | ⟨hx1, hw3⟩
    · rw [if_pos (show (3 : Int) = 3 from rfl), if_pos (show (0 : Int) = 0 from rfl)]
      by_cases hk59 : k = 59 ∧ nbL rs = 0
      · -- the end
        have hnb0 : gi σ 44 3 = 0 := by rw [hC.2.2.1, hk59.2]; rfl
        rw [if_pos (show gi σ 43 3 = 59 by omega), if_pos hnb0, ob_as]
        unfold f_Mo_behindUnit
        have hrk : rnk k = 0 := by rw [hk59.1]; decide
        rw [x_rankHere h.1, ob_eq, if_neg (show ¬ rnk k = 4 by omega), hrk, ob_as]
        obtain ⟨ps, qs, erq, hps, hq⟩ := spl1 rs hP.1
        rcases hq with ⟨_, rfl⟩ | ⟨z, _⟩
        · rw [erq] at hF'
          refine g_pops hb ⟨by omega, by omega⟩ hc hF' 1 0 (by omega) hps (fun y hy => by simp at hy) (fun y hy => by simp at hy) _ _ Q ?_
          intro r1 σ1 τ1 hF1 hE1 hE1' hm2
          obtain ⟨hC1, ⟨hM1, h431⟩, hD1, hN1, hP1'⟩ := hF1
          have hG1 : GS u b B N σ0 τ0 σ1 τ1 k p n := h.wr hE1 hE1' (fun r' k z => by omega) (fun r k z => ⟨by first | exact pmA (by omega) | exact pmB (by omega) | exact pmC (by omega) | exact pmD (by omega) | exact pmE (by omega) | exact pmF (by omega) | exact pmG (by omega) | exact pmH (by omega) | exact pmI (by omega) | (rcases z with z | z <;> first | exact pmA (by omega) | exact pmB (by omega) | exact pmC (by omega) | exact pmD (by omega) | exact pmE (by omega) | exact pmF (by omega) | exact pmG (by omega) | exact pmH (by omega) | exact pmI (by omega)) | (rcases z with z | z | z <;> first | exact pmA (by omega) | exact pmB (by omega) | exact pmC (by omega) | exact pmD (by omega) | exact pmE (by omega) | exact pmF (by omega) | exact pmG (by omega) | exact pmH (by omega) | exact pmI (by omega)), by omega⟩)
          unfold j_Mo_behindUnit_104
          have h44 : gi τ1 86 44 = 1 := hM1.1
          rw [if_pos (show (0 : Int) ≤ 0 by decide), h44, iwc (x := (1 : Int) - 1) (by omega) (by omega), os_eq]
          have hE2 : EqP (fun r k => r = 86 ∧ k = 44) τ1 (si τ1 86 44 (1 - 1)) := EqP.si (EqP.rf _ _) _ _ _ (by omega)
          have g44 : gi (si τ1 86 44 (1 - 1)) 86 44 = 0 := gi_same _ _ _ _
          have g8 : gi (si τ1 86 44 (1 - 1)) 115 0 = 8 := by rw [hE2.i _ _ (by omega)]; exact hM1.2.1
          generalize si τ1 86 44 (1 - 1) = τ2 at hE2 g44 g8 ⊢
          rw [g44, oc_pos (show (0 : Int) ≤ 0 ∧ (0 : Int) < 90 by decide), show ((0 : Int)).toNat = 0 from rfl, g8, if_neg (show ¬ (8 : Int) = 7 by decide), ob_eq, ob_eq]
          have hG2 : GS u b B N σ0 τ0 σ1 τ2 k p n := hG1.wr (P := fun _ _ => False) (EqP.rf _ _) hE2 (fun r k z => z.elim) (fun r k z => ⟨by first | exact pmA (by omega) | exact pmB (by omega) | exact pmC (by omega) | exact pmD (by omega) | exact pmE (by omega) | exact pmF (by omega) | exact pmG (by omega) | exact pmH (by omega) | exact pmI (by omega) | (rcases z with z | z <;> first | exact pmA (by omega) | exact pmB (by omega) | exact pmC (by omega) | exact pmD (by omega) | exact pmE (by omega) | exact pmF (by omega) | exact pmG (by omega) | exact pmH (by omega) | exact pmI (by omega)) | (rcases z with z | z | z <;> first | exact pmA (by omega) | exact pmB (by omega) | exact pmC (by omega) | exact pmD (by omega) | exact pmE (by omega) | exact pmF (by omega) | exact pmG (by omega) | exact pmH (by omega) | exact pmI (by omega)), by omega⟩)
          obtain ⟨f, rfl⟩ : ∃ f, fu' = f + 1 := ⟨fu' - 1, by omega⟩
          rw [l_Mo_e_19, x_isGoodG hG2.2.1.1, ob_eq, if_neg (show ¬ (1 : Int) = 0 by decide), if_pos (show gi τ2 86 44 ≤ 0 by omega), ob_eq]
          exact done σ1 τ2 k p n un (m + ps.length) hG2 hp0 (hD1.of (P := fun _ _ => False) (EqP.rf _ _) hE2 (fun r' k z => z.elim) (fun r' k z => by omega)) (hN1.of (P := fun _ _ => False) (EqP.rf _ _) hE2 (fun r' k z => z.elim) (fun r' k z => by omega)) hP1' (hEs.tr (hE1.mo (fun r' k z => by omega))) ((hEs'.tr (hE1'.mo (fun r' k z => by omega))).tr (hE2.mo (fun r k z => by omega)))
        · exact absurd hk59.2 z
      · have e62 : (if gi σ 43 3 = 59 then (if gi σ 44 3 = 0 then (ob (f_FR_settle r 1 σ) fun r6 s6 => some (1, s6)) else (j_FR_readFormula_62 r (l_FR_readFormula_23 r fu) 3 (x3 : Int) σ)) else (j_FR_readFormula_62 r (l_FR_readFormula_23 r fu) 3 (x3 : Int) σ)) = j_FR_readFormula_62 r (l_FR_readFormula_23 r fu) 3 (x3 : Int) σ := by
          by_cases h59 : gi σ 43 3 = 59
          · rw [if_pos h59, if_neg (fun z => hk59 ⟨by omega, by have := hC.2.2.1; omega⟩)]
          · rw [if_neg h59]
        rw [e62]
        unfold j_FR_readFormula_62 j_FR_readFormula_81
        rw [if_pos (show (3 : Int) = 3 from rfl)]
        refine g_op hu hb hr hc h hF' hk59 (fun z s3 => l_FR_readFormula_23 r fu z (iw ((x3 : Int) + 1)) s3) (fun r5 s5 => l_Mo_e_19 fu' r5 s5) kF KM Q next ?_ ?_
        · intro x σ' τ' K' hG hK
          exact bad σ' τ' k p n K' hG (fun z s hs => by rw [hK z s hs, bself x s hs])
        · intro σ' τ' hG h59 h44
          obtain ⟨f, rfl⟩ : ∃ f, fu' = f + 1 := ⟨fu' - 1, by omega⟩
          rw [l_Mo_e_19, x_isGoodG hG.2.1.1, ob_eq, if_neg (show ¬ (1 : Int) = 0 by decide), if_pos (show gi τ' 86 44 ≤ 0 by omega), ob_eq]
          exact stop σ' τ' k p n hG h59
    · rw [if_neg hw3, if_neg hx1]
      unfold j_FR_readFormula_62 j_FR_readFormula_81
      rw [if_neg hw3]
      refine g_unit hu hb hr hc hU h hF' hw3 (fun z s3 => l_FR_readFormula_23 r fu z (iw ((x3 : Int) + 1)) s3) (fun r5 s5 => l_Mo_e_19 fu' r5 s5) kF KM Q next ?_
      intro σ' K' hG hK
      exact bad σ' τ k p n K' hG (fun z s hs => by rw [hK z s hs, bself 1 s hs])
theorem LR.rule {P W S M t0 t1 c r ro m' un' U : Nat} {σ' τz : SS} (hu : u = 2 ∨ u = 22) (kk : Nat) (hkk : kk < 2) (hL : LR u b σ τ P W S M t0 t1 c) (hrdef : r = u + 14 + 3 * kk) (hro : ro = u + 14 + 3 * (1 - kk)) (hEA : EqP (fun r' k => r' = 43 ∧ 2 ≤ k ∨ r' = 44 ∨ r' = 45 ∨ r' = r ∧ (k = 2 ∨ k = 3) ∨ r' = r + 1) σ σ') (hEB : EqP (fun r k => r = 86 ∧ (6 ≤ k ∧ k ≤ 10 ∨ 42 ≤ k ∧ k ≤ 45) ∨ r = 93 ∧ k = b ∨ (r = 106 ∨ r = 107 ∨ r = 109) ∧ k = 2 * b + kk ∨ (r = 113 ∨ r = 114) ∧ 560 * b + c ≤ k ∨ r = 115 ∨ r = 116) τ τz) (hown' : Ru1 b σ' τz r kk 1 (c + m')) (to : Nat) (hto : to ≤ 1) (hoth : Ru1 b σ τ ro (1 - kk) to c) (hUe : gi σ ro 3 = U) (hcase : kk = 0 ∧ t0 = 0 ∧ t1 = to ∨ kk = 1 ∧ t1 = 0 ∧ t0 = to) (hc280 : c ≤ 280 * to) (hn277 : m' ≤ 277) (hun : gi σ' r 3 = un') (h93 : gi τz 93 b = ((U + un' : Nat) : Int)) (h42z : gi τz 86 42 = ((560 * b + (c + m') : Nat) : Int)) : ∃ t0' t1', LR u b σ' τz P W S M t0' t1' (c + m') := by
  obtain ⟨hp, hw, hs, hm, hdr, _⟩ := hL
  have hoth' : Ru1 b σ' τz ro (1 - kk) to (c + m') := by
    refine hoth.cg (by omega) (hEA.i _ _ (by omega)) (hEA.i _ _ (by omega)) (fun j => hEA.i _ _ (by omega)) (fun r' j hj => hEB.i _ _ ?_) (by omega)
    rcases hj with ⟨hj1, hj2⟩ | ⟨hj1, hj2⟩
    · omega
    · omega
  have hro3 : gi σ' ro 3 = U := by rw [hEA.i _ _ (by omega)]; exact hUe
  have hRu : ∃ t0' t1', RuR u b σ' τz t0' t1' (c + m') := by
    clear hEA hEB hoth hp hw hs hm hdr
    rcases hcase with ⟨rfl, e2, e3⟩ | ⟨rfl, e2, e3⟩
    · obtain rfl : r = u + 14 := by omega
      obtain rfl : ro = u + 17 := by omega
      exact ⟨1, to, by omega, by omega, by omega, h42z, hown', hoth', by rw [h93, hun, hro3]; omega⟩
    · obtain rfl : r = u + 17 := by omega
      obtain rfl : ro = u + 14 := by omega
      exact ⟨to, 1, by omega, by omega, by omega, h42z, hoth', hown', by rw [h93, hun, hro3]; omega⟩
  obtain ⟨t0', t1', hRu⟩ := hRu
  exact ⟨t0', t1', hp.cg (fun r' k z => hEA r' k (by omega)) (fun r k z => hEB r k (by omega)), hw.cg (fun r' k z => hEA.i r' k (by omega)) (fun r k z => hEB.i r k (by omega)) (Nat.le_refl _), hs.cg (fun r' k z => hEA r' k (by omega)) (fun r k z => hEB r k (by omega)), hm.cg (fun r' k z => hEA r' k (by omega)) (fun r k z => hEB r k (by omega)), hdr.cg (fun r' k z => hEA.i r' k (by omega)) (fun r k z => hEB.i r k (by omega)), hRu⟩
set_option maxHeartbeats 4000000 in
/-- a rule; what is read of the other one stays -/
theorem g_rule {P W S M t0 t1 c : Nat} (hu : u = 2 ∨ u = 22) (hb : b < 2) (kk : Nat) (hkk : kk < 2) (h : GS u b B N σ0 τ0 σ τ k p n) (hL : LR u b σ τ P W S M t0 t1 c) (hk0 : k ≠ 0) (ht : kk = 0 ∧ t0 = 0 ∨ kk = 1 ∧ t1 = 0) (kc K : Int → SS → OO) (Q : Int → SS → Int → SS → Prop)
    (good : ∀ (σ' τ' : SS) (k' : Int) (p' n' t0' t1' c' : Nat), GS u b B N σ0 τ0 σ' τ' k' p' n' → n ≤ p' → LR u b σ' τ' P W S M t0' t1' c' → W2 (kc 1 σ') (K 0 τ') Q)
    (bad : ∀ (σ' τ' : SS), BS u b σ0 τ0 σ' τ' → W2 (kc 0 σ') (K 0 τ') Q)
    (stop : ∀ (σ' τ' : SS) (k' : Int) (p' n' : Nat), GS u b B N σ0 τ0 σ' τ' k' p' n' → k' ≠ 59 → W2 (ob (ob (f_Re_refuse σ') fun r8 s8 => if r8 = 0 then (some (0, s8)) else (some (1, s8))) kc) (K 0 τ') Q) :
    W2 (ob (f_Re_readRule (u + 14 + 3 * kk) σ) kc) (ob (f_Mo_goOn τ) fun _ s => ob (f_Mo_readRule (kk : Int) s) K) Q := by
  have h41 := h.2.2.2.2
  obtain ⟨hp, hw, hs, hm, hdr, ⟨r1, r2, r3, r4, r5, r6, r7⟩⟩ := hL
  obtain ⟨r, hrdef⟩ : ∃ r, r = u + 14 + 3 * kk := ⟨_, rfl⟩
  obtain ⟨ro, hro⟩ : ∃ ro, ro = u + 14 + 3 * (1 - kk) := ⟨_, rfl⟩
  have hrr : r = u + 14 ∨ r = u + 17 := by omega
  -- the rule itself, the other one
  obtain ⟨to, hto, hoth, hown, hown3, hsum⟩ : ∃ to : Nat, to ≤ 1 ∧ Ru1 b σ τ ro (1 - kk) to c ∧ gi σ r 2 = 0 ∧ gi σ r 3 = 0 ∧ gi τ 93 b = gi σ ro 3 ∧ c ≤ 280 * to ∧ (kk = 0 ∧ t0 = 0 ∧ t1 = to ∨ kk = 1 ∧ t1 = 0 ∧ t0 = to) := by
    have z0 : ∀ r' k', Ru1 b σ τ r' k' 0 c → gi σ r' 2 = 0 ∧ gi σ r' 3 = 0 := by
      rintro r' k' ⟨_, _, _, ⟨_, z1, z2⟩ | ⟨z, _⟩⟩
      · exact ⟨z1, z2⟩
      · omega
    rcases ht with ⟨e1, e2⟩ | ⟨e1, e2⟩
    · subst e1 e2
      have := z0 _ _ r5
      rw [show r = u + 14 by omega, show ro = u + 17 by omega]
      exact ⟨t1, by omega, r6, this.1, this.2, by rw [r7]; omega, by omega, Or.inl ⟨rfl, rfl, rfl⟩⟩
    · subst e1 e2
      have := z0 _ _ r6
      rw [show r = u + 17 by omega, show ro = u + 14 by omega]
      exact ⟨t0, by omega, r5, this.1, this.2, by rw [r7]; omega, by omega, Or.inr ⟨rfl, rfl, rfl⟩⟩
  obtain ⟨hsum1, hc280, hcase⟩ := hsum
  obtain ⟨U, hUe⟩ : ∃ U : Nat, gi σ ro 3 = U := ⟨(gi σ ro 3).toNat, by have := hoth.2.1; omega⟩
  have hU30 : U ≤ 30 := by have := hoth.2.2.1; omega
  rw [← hrdef]
  unfold f_Re_readRule f_Fo_isTold
  rw [if_pos (show gi σ r 2 ≤ 0 by omega), ob_eq, if_pos rfl, ob_as]
  refine w2_call (g_move hu h) ?_
  rintro _ σ1 _ τ1 ⟨k1, p1, n1, hG1, hp1, hE1, hE1'⟩
  have hn0 : p < n := by
    rcases h.1.2.2.2.2.2.2.2.2 with ⟨z, _⟩ | ⟨z, _⟩
    · exact absurd z hk0
    · exact z
  have h411 := hG1.2.2.2.2
  unfold f_FR_readFormula f_Fo_clear f_Mo_readRule f_Mo_e
  rw [ob_as, ob_as]
  -- the class: all is clear
  have hEc : EqP (fun r' k => r' = 44 ∧ 2 ≤ k ∨ r' = r ∧ (k = 2 ∨ k = 3)) σ1 (si (si (si (si (si σ1 r 2 0) r 3 0) 44 2 0) 44 3 0) 44 4 0) := EqP.si (EqP.si (EqP.si (EqP.si (EqP.si (EqP.rf _ _) _ _ _ (by omega)) _ _ _ (by omega)) _ _ _ (by omega)) _ _ _ (by omega)) _ _ _ (by omega)
  have c2 : gi (si (si (si (si (si σ1 r 2 0) r 3 0) 44 2 0) 44 3 0) 44 4 0) r 2 = 0 := by rw [gi_ne_r _ _ _ _ (by omega), gi_ne_r _ _ _ _ (by omega), gi_ne_r _ _ _ _ (by omega), gi_ne_k _ _ _ _ (by omega), gi_same]
  have c3 : gi (si (si (si (si (si σ1 r 2 0) r 3 0) 44 2 0) 44 3 0) 44 4 0) r 3 = 0 := by rw [gi_ne_r _ _ _ _ (by omega), gi_ne_r _ _ _ _ (by omega), gi_ne_r _ _ _ _ (by omega), gi_same]
  have c42 : gi (si (si (si (si (si σ1 r 2 0) r 3 0) 44 2 0) 44 3 0) 44 4 0) 44 2 = 0 := by rw [gi_ne_k _ _ _ _ (by omega), gi_ne_k _ _ _ _ (by omega), gi_same]
  have c43 : gi (si (si (si (si (si σ1 r 2 0) r 3 0) 44 2 0) 44 3 0) 44 4 0) 44 3 = 0 := by rw [gi_ne_k _ _ _ _ (by omega), gi_same]
  have c44 : gi (si (si (si (si (si σ1 r 2 0) r 3 0) 44 2 0) 44 3 0) 44 4 0) 44 4 = 0 := gi_same _ _ _ _
  rw [os_eq, os_eq, ob_eq, os_eq, os_eq, os_eq]
  generalize si (si (si (si (si σ1 r 2 0) r 3 0) 44 2 0) 44 3 0) 44 4 0 = σ2 at hEc c2 c3 c42 c43 c44 ⊢
  -- the reference
  have i2 : iw (iw (2 * (b : Int)) + (kk : Int)) = ((2 * b + kk : Nat) : Int) := ix2 b kk ⟨hb, by omega⟩
  have e42 : gi τ1 86 42 = ((560 * b + c : Nat) : Int) := by rw [hE1'.i _ _ (by omega)]; exact r4
  rw [os_eq]
  have hEa : EqP (fun r k => r = 86 ∧ k = 45) τ1 (si τ1 86 45 0) := EqP.si (EqP.rf _ _) _ _ _ (by omega)
  have g41a : gi (si τ1 86 45 0) 86 41 = b := by rw [hEa.i _ _ (by omega)]; exact h411
  have g42a : gi (si τ1 86 45 0) 86 42 = ((560 * b + c : Nat) : Int) := by rw [hEa.i _ _ (by omega)]; exact e42
  have g45a : gi (si τ1 86 45 0) 86 45 = 0 := gi_same _ _ _ _
  generalize si τ1 86 45 0 = τa at hEa g41a g42a g45a ⊢
  rw [g41a, i2, oc_pos (show 0 ≤ ((2 * b + kk : Nat) : Int) ∧ ((2 * b + kk : Nat) : Int) < 4 by omega), Int.toNat_natCast, os_eq]
  have hEb : EqP (fun r k => r = 109 ∧ k = 2 * b + kk) τa (si τa 109 (2 * b + kk) 1) := EqP.si (EqP.rf _ _) _ _ _ (by omega)
  have g41b : gi (si τa 109 (2 * b + kk) 1) 86 41 = b := by rw [hEb.i _ _ (by omega)]; exact g41a
  have g42b : gi (si τa 109 (2 * b + kk) 1) 86 42 = ((560 * b + c : Nat) : Int) := by rw [hEb.i _ _ (by omega)]; exact g42a
  have g109b : gi (si τa 109 (2 * b + kk) 1) 109 (2 * b + kk) = 1 := gi_same _ _ _ _
  generalize si τa 109 (2 * b + kk) 1 = τb at hEb g41b g42b g109b ⊢
  rw [g41b, i2, oc_pos (show 0 ≤ ((2 * b + kk : Nat) : Int) ∧ ((2 * b + kk : Nat) : Int) < 4 by omega), Int.toNat_natCast, os_eq, g42b]
  have hEd : EqP (fun r k => r = 106 ∧ k = 2 * b + kk) τb (si τb 106 (2 * b + kk) ((560 * b + c : Nat) : Int)) := EqP.si (EqP.rf _ _) _ _ _ (by omega)
  have g106d : gi (si τb 106 (2 * b + kk) ((560 * b + c : Nat) : Int)) 106 (2 * b + kk) = ((560 * b + c : Nat) : Int) := gi_same _ _ _ _
  generalize si τb 106 (2 * b + kk) ((560 * b + c : Nat) : Int) = τd at hEd g106d ⊢
  rw [os_eq, os_eq, ob_as, ob_as]
  have hEe : EqP (fun r k => r = 86 ∧ (k = 43 ∨ k = 44)) τd (si (si τd 86 44 0) 86 43 0) := EqP.si (EqP.si (EqP.rf _ _) _ _ _ (by omega)) _ _ _ (by omega)
  have g44e : gi (si (si τd 86 44 0) 86 43 0) 86 44 = ((0 : Nat) : Int) := by rw [gi_ne_k _ _ _ _ (by omega), gi_same]; rfl
  have g43e : gi (si (si τd 86 44 0) 86 43 0) 86 43 = 0 := gi_same _ _ _ _
  generalize si (si τd 86 44 0) 86 43 0 = τe at hEe g44e g43e ⊢
  rw [x_pushE g44e (by omega), ob_eq]
  have hEf : EqP (fun r k => r = 86 ∧ k = 44 ∨ r = 115 ∨ r = 116) τe (si (si (si τe 115 0 8) 116 0 0) 86 44 ((0 + 1 : Nat) : Int)) := EqP.si (EqP.si (EqP.si (EqP.rf _ _) _ _ _ (by omega)) _ _ _ (by omega)) _ _ _ (by omega)
  have g44f : gi (si (si (si τe 115 0 8) 116 0 0) 86 44 ((0 + 1 : Nat) : Int)) 86 44 = ((0 + 1 : Nat) : Int) := gi_same _ _ _ _
  have g115f : gi (si (si (si τe 115 0 8) 116 0 0) 86 44 ((0 + 1 : Nat) : Int)) 115 0 = 8 := by rw [gi_ne_r _ _ _ _ (by omega), gi_ne_r _ _ _ _ (by omega), gi_same]
  generalize si (si (si τe 115 0 8) 116 0 0) 86 44 ((0 + 1 : Nat) : Int) = τf at hEf g44f g115f ⊢
  have hEall : EqP (fun r k => r = 86 ∧ (43 ≤ k ∧ k ≤ 45) ∨ (r = 106 ∨ r = 109) ∧ k = 2 * b + kk ∨ r = 115 ∨ r = 116) τ1 τf := ((((hEa.mo (fun r k z => by omega)).tr (hEb.mo (fun r k z => by omega))).tr (hEd.mo (fun r k z => by omega))).tr (hEe.mo (fun r k z => by omega))).tr (hEf.mo (fun r k z => by omega))
  have hG2 : GS u b B N σ0 τ0 σ2 τf k1 p1 n1 := by
    have a1 := hG1.wr hEc (hEa.mo (R := fun r k => r = 86 ∧ k = 45) (fun r k z => z)) (fun r' k z => by omega) (fun r k z => ⟨by first | exact pmA (by omega) | exact pmB (by omega) | exact pmC (by omega) | exact pmD (by omega) | exact pmE (by omega) | exact pmF (by omega) | exact pmG (by omega) | exact pmH (by omega) | exact pmI (by omega) | (rcases z with z | z <;> first | exact pmA (by omega) | exact pmB (by omega) | exact pmC (by omega) | exact pmD (by omega) | exact pmE (by omega) | exact pmF (by omega) | exact pmG (by omega) | exact pmH (by omega) | exact pmI (by omega)) | (rcases z with z | z | z <;> first | exact pmA (by omega) | exact pmB (by omega) | exact pmC (by omega) | exact pmD (by omega) | exact pmE (by omega) | exact pmF (by omega) | exact pmG (by omega) | exact pmH (by omega) | exact pmI (by omega)), by omega⟩)
    have a2 := a1.wr (P := fun _ _ => False) (EqP.rf _ _) hEb (fun r k z => z.elim) (fun r k z => ⟨by first | exact pmA (by omega) | exact pmB (by omega) | exact pmC (by omega) | exact pmD (by omega) | exact pmE (by omega) | exact pmF (by omega) | exact pmG (by omega) | exact pmH (by omega) | exact pmI (by omega) | (rcases z with z | z <;> first | exact pmA (by omega) | exact pmB (by omega) | exact pmC (by omega) | exact pmD (by omega) | exact pmE (by omega) | exact pmF (by omega) | exact pmG (by omega) | exact pmH (by omega) | exact pmI (by omega)) | (rcases z with z | z | z <;> first | exact pmA (by omega) | exact pmB (by omega) | exact pmC (by omega) | exact pmD (by omega) | exact pmE (by omega) | exact pmF (by omega) | exact pmG (by omega) | exact pmH (by omega) | exact pmI (by omega)), by omega⟩)
    have a3 := a2.wr (P := fun _ _ => False) (EqP.rf _ _) hEd (fun r k z => z.elim) (fun r k z => ⟨by first | exact pmA (by omega) | exact pmB (by omega) | exact pmC (by omega) | exact pmD (by omega) | exact pmE (by omega) | exact pmF (by omega) | exact pmG (by omega) | exact pmH (by omega) | exact pmI (by omega) | (rcases z with z | z <;> first | exact pmA (by omega) | exact pmB (by omega) | exact pmC (by omega) | exact pmD (by omega) | exact pmE (by omega) | exact pmF (by omega) | exact pmG (by omega) | exact pmH (by omega) | exact pmI (by omega)) | (rcases z with z | z | z <;> first | exact pmA (by omega) | exact pmB (by omega) | exact pmC (by omega) | exact pmD (by omega) | exact pmE (by omega) | exact pmF (by omega) | exact pmG (by omega) | exact pmH (by omega) | exact pmI (by omega)), by omega⟩)
    have a4 := a3.wr (P := fun _ _ => False) (EqP.rf _ _) hEe (fun r k z => z.elim) (fun r k z => ⟨by first | exact pmA (by omega) | exact pmB (by omega) | exact pmC (by omega) | exact pmD (by omega) | exact pmE (by omega) | exact pmF (by omega) | exact pmG (by omega) | exact pmH (by omega) | exact pmI (by omega) | (rcases z with z | z <;> first | exact pmA (by omega) | exact pmB (by omega) | exact pmC (by omega) | exact pmD (by omega) | exact pmE (by omega) | exact pmF (by omega) | exact pmG (by omega) | exact pmH (by omega) | exact pmI (by omega)) | (rcases z with z | z | z <;> first | exact pmA (by omega) | exact pmB (by omega) | exact pmC (by omega) | exact pmD (by omega) | exact pmE (by omega) | exact pmF (by omega) | exact pmG (by omega) | exact pmH (by omega) | exact pmI (by omega)), by omega⟩)
    exact a4.wr (P := fun _ _ => False) (EqP.rf _ _) hEf (fun r k z => z.elim) (fun r k z => ⟨by first | exact pmA (by omega) | exact pmB (by omega) | exact pmC (by omega) | exact pmD (by omega) | exact pmE (by omega) | exact pmF (by omega) | exact pmG (by omega) | exact pmH (by omega) | exact pmI (by omega) | (rcases z with z | z <;> first | exact pmA (by omega) | exact pmB (by omega) | exact pmC (by omega) | exact pmD (by omega) | exact pmE (by omega) | exact pmF (by omega) | exact pmG (by omega) | exact pmH (by omega) | exact pmI (by omega)) | (rcases z with z | z | z <;> first | exact pmA (by omega) | exact pmB (by omega) | exact pmC (by omega) | exact pmD (by omega) | exact pmE (by omega) | exact pmF (by omega) | exact pmG (by omega) | exact pmH (by omega) | exact pmI (by omega)), by omega⟩)
  have hst0 : stL σ2 r = [] := by
    unfold stL
    rw [c2]
    rfl
  have hFI : FI b c U r 1 [] 0 0 σ2 τf := by
    refine ⟨⟨c42, rfl, c43, c44⟩, ⟨⟨g44f, g115f, rfl, rfl⟩, ?_⟩, ⟨c2, ?_, fun j hj => absurd hj (Nat.not_lt_zero _), by rw [hst0]; exact fun x hx => by simp at hx⟩, ⟨c3, ?_, ?_⟩, ?_⟩
    · rw [hEf.i _ _ (by omega)]; exact g43e
    · rw [hEall.i _ _ (by omega), e42]; rfl
    · rw [hEf.i _ _ (by omega), hEe.i _ _ (by omega), hEd.i _ _ (by omega), hEb.i _ _ (by omega)]; exact g45a
    · rw [hEall.i _ _ (by omega), hE1'.i _ _ (by omega), hsum1, hUe]; rfl
    · rw [hst0]
      exact ⟨trivial, Nat.zero_le _, Nat.zero_le _, Or.inr ⟨by decide, rfl, Nat.zero_le _, Nat.zero_le _, Or.inl ⟨rfl, fun y hy => by simp at hy⟩⟩⟩
  have hk2 := hG2.k2
  refine g_form (c := c) (U := U) (r := r) hu hb hrr (by omega) hU30 σ2 τf p1 _ _ Q ?_ ?_ ?_ (N - p1) FU FU 1 1 0 [] 0 0 σ2 τf k1 p1 n1 (Nat.le_refl _) (by unfold FU; omega) (by unfold FU; omega) hG2 (Nat.le_refl _) hFI (Nat.zero_le _) (EqP.rf _ _) (EqP.rf _ _) (Or.inr ⟨by decide, by decide⟩)
  · -- the end
    intro σ' τ' k' p' n' un' m' hG' hp' hD' hN' hP' hE' hE''
    have h41' := hG'.2.2.2.2
    obtain ⟨hn277, _⟩ := hP'.n277
    obtain ⟨q1, q2, q3, q4⟩ := id hP'
    rw [if_neg (show ¬ (1 : Int) = 0 by decide), ob_eq, h41', i2, oc_pos (show 0 ≤ ((2 * b + kk : Nat) : Int) ∧ ((2 * b + kk : Nat) : Int) < 4 by omega), Int.toNat_natCast, os_eq, ob_eq, hD'.2.1]
    have hEz : EqP (fun r k => r = 107 ∧ k = 2 * b + kk) τ' (si τ' 107 (2 * b + kk) ((560 * b + c + m' : Nat) : Int)) := EqP.si (EqP.rf _ _) _ _ _ (by omega)
    have g107 : gi (si τ' 107 (2 * b + kk) ((560 * b + c + m' : Nat) : Int)) 107 (2 * b + kk) = ((560 * b + c + m' : Nat) : Int) := gi_same _ _ _ _
    generalize si τ' 107 (2 * b + kk) ((560 * b + c + m' : Nat) : Int) = τz at hEz g107 ⊢
    have hGz : GS u b B N σ0 τ0 σ' τz k' p' n' := hG'.wr (P := fun _ _ => False) (EqP.rf _ _) hEz (fun r k z => z.elim) (fun r k z => ⟨by first | exact pmA (by omega) | exact pmB (by omega) | exact pmC (by omega) | exact pmD (by omega) | exact pmE (by omega) | exact pmF (by omega) | exact pmG (by omega) | exact pmH (by omega) | exact pmI (by omega) | (rcases z with z | z <;> first | exact pmA (by omega) | exact pmB (by omega) | exact pmC (by omega) | exact pmD (by omega) | exact pmE (by omega) | exact pmF (by omega) | exact pmG (by omega) | exact pmH (by omega) | exact pmI (by omega)) | (rcases z with z | z | z <;> first | exact pmA (by omega) | exact pmB (by omega) | exact pmC (by omega) | exact pmD (by omega) | exact pmE (by omega) | exact pmF (by omega) | exact pmG (by omega) | exact pmH (by omega) | exact pmI (by omega)), by omega⟩)
    -- all that was written
    have hEA : EqP (fun r' k => r' = 43 ∧ 2 ≤ k ∨ r' = 44 ∨ r' = 45 ∨ r' = r ∧ (k = 2 ∨ k = 3) ∨ r' = r + 1) σ σ' := ((hE1.mo (fun r' k z => by omega)).tr (hEc.mo (fun r' k z => by omega))).tr (hE'.mo (fun r' k z => by omega))
    have hEB : EqP (fun r k => r = 86 ∧ (6 ≤ k ∧ k ≤ 10 ∨ 42 ≤ k ∧ k ≤ 45) ∨ r = 93 ∧ k = b ∨ (r = 106 ∨ r = 107 ∨ r = 109) ∧ k = 2 * b + kk ∨ (r = 113 ∨ r = 114) ∧ 560 * b + c ≤ k ∨ r = 115 ∨ r = 116) τ τz := (((hE1'.mo (fun r k z => by omega)).tr (hEall.mo (fun r k z => by omega))).tr (hE''.mo (fun r k z => by omega))).tr (hEz.mo (fun r k z => by omega))
    have hm1 : 1 ≤ m' := by
      rcases q4 with ⟨_, q5, _⟩ | ⟨z, _⟩
      · have hl : (stL σ' r).length = m' := by rw [stL_len, hD'.1]; exact Int.toNat_natCast _
        cases hst : stL σ' r with
        | nil => rw [hst] at q5; simp [dep, n2L] at q5
        | cons a l => rw [hst, List.length_cons] at hl; omega
      · exact absurd rfl z
    have hown' : Ru1 b σ' τz r kk 1 (c + m') := by
      refine ⟨?_, by rw [hN'.1]; omega, by rw [hN'.1]; omega, Or.inr ⟨rfl, by rw [hD'.1]; omega, ?_, hD'.2.2.2, c, ?_, ?_, ?_, fun j hj => ?_⟩⟩
      · rw [hEz.i _ _ (by omega), hE''.i _ _ (by omega), hEf.i _ _ (by omega), hEe.i _ _ (by omega), hEd.i _ _ (by omega)]; exact g109b
      · refine ⟨?_, by rw [stL_len, hD'.1]; omega, fun x hx => ?_⟩
        · rcases q4 with ⟨_, q5, _⟩ | ⟨z, _⟩
          · exact q5
          · exact absurd rfl z
        · have := hD'.2.2.2 x hx
          unfold opOK at this
          omega
      · rw [hEz.i _ _ (by omega), hE''.i _ _ (by omega), hEf.i _ _ (by omega), hEe.i _ _ (by omega)]; exact g106d
      · rw [g107, hD'.1, Int.toNat_natCast]
      · rw [hD'.1, Int.toNat_natCast]; omega
      · rw [hD'.1] at hj
        rw [hEz.i 113 _ (by omega), hEz.i 114 _ (by omega)]
        exact hD'.2.2.1 j (by omega)
    have h93 : gi τz 93 b = ((U + un' : Nat) : Int) := by rw [hEz.i _ _ (by omega)]; exact hN'.2.2
    have h42z : gi τz 86 42 = ((560 * b + (c + m') : Nat) : Int) := by rw [hEz.i _ _ (by omega), hD'.2.1]; omega
    obtain ⟨t0', t1', hLz⟩ := LR.rule hu kk hkk ⟨hp, hw, hs, hm, hdr, ⟨r1, r2, r3, r4, r5, r6, r7⟩⟩ hrdef hro hEA hEB hown' to hto hoth hUe hcase hc280 hn277 hN'.1 h93 h42z
    exact good σ' τz k' p' n' t0' t1' (c + m') hGz (by have := hG1.k2; omega) hLz
  · -- the class knows it already
    intro σ' τ' k' p' n' hG' h59
    have h41' := hG'.2.2.2.2
    rw [if_pos rfl, h41', i2, oc_pos (show 0 ≤ ((2 * b + kk : Nat) : Int) ∧ ((2 * b + kk : Nat) : Int) < 4 by omega), Int.toNat_natCast, os_eq, ob_eq]
    exact stop σ' _ k' p' n' (hG'.wr (P := fun _ _ => False) (P' := fun r k => r = 107 ∧ k = 2 * b + kk) (EqP.rf _ _) (EqP.si (EqP.rf _ _) _ _ _ (by omega)) (fun r k z => z.elim) (fun r k z => ⟨by first | exact pmA (by omega) | exact pmB (by omega) | exact pmC (by omega) | exact pmD (by omega) | exact pmE (by omega) | exact pmF (by omega) | exact pmG (by omega) | exact pmH (by omega) | exact pmI (by omega) | (rcases z with z | z <;> first | exact pmA (by omega) | exact pmB (by omega) | exact pmC (by omega) | exact pmD (by omega) | exact pmE (by omega) | exact pmF (by omega) | exact pmG (by omega) | exact pmH (by omega) | exact pmI (by omega)) | (rcases z with z | z | z <;> first | exact pmA (by omega) | exact pmB (by omega) | exact pmC (by omega) | exact pmD (by omega) | exact pmE (by omega) | exact pmF (by omega) | exact pmG (by omega) | exact pmH (by omega) | exact pmI (by omega)), by omega⟩)) h59
  · intro σ' τ' k' p' n' K' hG' hK'
    rw [if_pos rfl, ob_as]
    refine w2_call (g_refuse hG') ?_
    rintro r' σ3 z τ3 ⟨rfl, hB⟩
    have h41' := hB.2.2.2.1
    rw [if_pos rfl, ob_eq, hK' z τ3 hB.1.1, h41', i2, oc_pos (show 0 ≤ ((2 * b + kk : Nat) : Int) ∧ ((2 * b + kk : Nat) : Int) < 4 by omega), Int.toNat_natCast, os_eq, ob_eq]
    exact bad σ3 _ (hB.wr (P' := fun r k => r = 107 ∧ k = 2 * b + kk) (EqP.si (EqP.rf _ _) _ _ _ (by omega)) (fun r k z => ⟨by first | exact pmA (by omega) | exact pmB (by omega) | exact pmC (by omega) | exact pmD (by omega) | exact pmE (by omega) | exact pmF (by omega) | exact pmG (by omega) | exact pmH (by omega) | exact pmI (by omega) | (rcases z with z | z <;> first | exact pmA (by omega) | exact pmB (by omega) | exact pmC (by omega) | exact pmD (by omega) | exact pmE (by omega) | exact pmF (by omega) | exact pmG (by omega) | exact pmH (by omega) | exact pmI (by omega)) | (rcases z with z | z | z <;> first | exact pmA (by omega) | exact pmB (by omega) | exact pmC (by omega) | exact pmD (by omega) | exact pmE (by omega) | exact pmF (by omega) | exact pmG (by omega) | exact pmH (by omega) | exact pmI (by omega)), by omega⟩))
end
