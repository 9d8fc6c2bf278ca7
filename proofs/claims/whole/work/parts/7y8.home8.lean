/-! home: the pair -/
theorem flK_len {ld : SS} {tp : Nat → Int} {a b W : Nat} {tt : Int} (k p : Nat) (q : QQ) : ∀ l ∈ flK ld tp a b W tt k p q, l.length = k := by
  intro l hl
  rw [flK_dig, List.mem_map] at hl
  obtain ⟨v, _, rfl⟩ := hl
  exact digL_len W k v
theorem N1_le : ∀ w, w < 15 → ∀ d, d < 5 → N1 w d ≤ 44325 := by decide
theorem x_searchHome {ld : SS} (hok : LdOK ld) {tp : Nat → Int} {a b m : Nat} (hc : CPL ld a b m) {D W p : Nat} {tt : Int} (hD : 1 ≤ D ∧ D ≤ 4) (hW : gi ld 2 4 = W) {σ : SS} (hL : LC ld σ) (htp : ∀ j, j < 12 → gi σ 47 j = tp j) (g17 : gi σ 61 17 = tt) (g18 : gi σ 61 18 = D) (g19 : gi σ 61 19 = 0) (g5 : gi σ 61 5 = 0) (hTS : TS σ 0 a b m (begP ld m)) : Wp (f_Fi_searchHome p σ) fun _ τ => EqP (fun r k => 72 ≤ r ∧ r ≤ 74 ∨ PDf 0 r k) σ τ ∧ HB τ ((flH ld tp a b W tt D p (begP ld m)).foldl hstep (0, none)) := by
  obtain ⟨bq1, bq2⟩ := begP_ok hok hc.2.2.2.1
  have l4 := hok.2.1
  have hN := N1_le W (by omega) D (by omega)
  unfold f_Fi_searchHome
  refine wp_os (wp_os ?_)
  have hE : EqP (fun r _ => r = 73 ∨ r = 72) σ (si (si σ 73 0 p) 72 0 (-1)) := EqP.si (EqP.si (EqP.rf _ _) _ _ _ (by omega)) _ _ _ (by omega)
  have k73 : gi (si (si σ 73 0 p) 72 0 (-1)) 73 0 = p := by rw [gi_ne_r _ _ _ _ (by omega)]; exact gi_same _ _ _ _
  have k72 : gi (si (si σ 73 0 p) 72 0 (-1)) 72 0 = -1 := gi_same _ _ _ _
  generalize si (si σ 73 0 p) 72 0 (-1) = s1 at hE k73 k72 ⊢
  have hmap : (flH ld tp a b W tt D p (begP ld m)).map (([] : List Nat) ++ ·) = flH ld tp a b W tt D p (begP ld m) := by
    have : (fun l : List Nat => ([] : List Nat) ++ l) = id := by funext l; rfl
    rw [this, List.map_id]
  have z := x_dfs hok (tp := tp) hc (tt := tt) hD.2 hW (fun _ τ => EqP (fun r k => 72 ≤ r ∧ r ≤ 74 ∨ PDf 0 r k) σ τ ∧ HB τ ((flH ld tp a b W tt D p (begP ld m)).foldl hstep (0, none))) D hD.1 [] 0 rfl (by omega) p (begP ld m) bq1 bq2 (0, none) s1 FU 0 (hL.of hE (fun r k z => by omega)) (fun j hj => by rw [hE.i _ _ (by omega)]; exact htp j hj) (by rw [hE.i _ _ (by omega)]; exact g17) (by rw [hE.i _ _ (by omega)]; exact g18) (fun i h => absurd h (Nat.not_lt_zero _)) k72 k73 (hTS.of bq1.2.1 hE (fun k _ _ => by omega)) ⟨by rw [hE.i _ _ (by omega), g19]; rfl, ⟨fun _ => rfl, fun _ => rfl⟩, show gi s1 61 5 = 0 by rw [hE.i _ _ (by omega)]; exact g5⟩ (by omega) (by omega) (by unfold FU; omega) (fun τ fu' x3' u1 u2 _ u4 u5 => by
    rw [hmap] at u2
    have hfu : 1 ≤ fu' := by unfold FU at u5; omega
    obtain ⟨f, rfl⟩ : ∃ f, fu' = f + 1 := ⟨fu' - 1, by omega⟩
    rw [l_Fi_searchHome_18]
    exact wp_f (by omega) (wp_t (by omega) (wp_some ⟨(hE.mo (fun r k z => by omega)).tr (u1.mo (fun r k z => Or.inr z)), u2⟩)))
  exact z
theorem y_home (a b c d e f : Int) : MP (f_Qu_home a b c d e f) (f_Mo_home a b c d e f) := by
  rintro σ ⟨ld, bk, hok, hL, hM, hEA, hRO, hLY, hRP, hTA⟩
  have hI : Inv σ := ⟨ld, bk, hok, hL, hM, hEA, hRO, hLY, hRP, hTA⟩
  have hTp : TPM ld σ bk (gi σ 47) := tpm_ea hEA hTA
  unfold f_Qu_home f_Fi_layHome
  have hxc := x_couple hok hL a b c
  have none : ∀ s1, EqP (fun r k => r = 61 ∧ k = 5) σ s1 → gi s1 61 5 = 0 → (¬ cplB ld a b c ∨ ¬ (0 ≤ d ∧ d < gi ld 2 0) ∨ ¬ (0 ≤ e ∧ e < gi ld 2 0) ∨ ¬ (1 ≤ f ∧ f ≤ 4)) → Wp (f_Mo_home a b c d e f s1) fun r' σ2 => -1 = r' ∧ Inv σ2 := by
    intro s1 hE h5 hcd
    unfold f_Mo_home
    refine wp_os ?_
    have hE2 : EqP SCl σ (si s1 86 62 0) := EqP.si (hE.mo (fun r k z => by omega)) _ _ _ (by omega)
    have h62 : gi (si s1 86 62 0) 86 62 = 0 := gi_same _ _ _ _
    have h52 : gi (si s1 86 62 0) 61 5 = 0 := by rw [gi_ne_r _ _ _ _ (by omega)]; exact h5
    generalize si s1 86 62 0 = s2 at hE2 h62 h52 ⊢
    have hI2 : Inv s2 := hI.ly hE2 ⟨0, by omega, h52, h62, fun i hi => absurd hi (Nat.not_lt_zero _)⟩
    have hM2 := hM.of hE2 (fun r k z => by omega)
    have hic := x_isCoupleM hok hM2 a b c
    by_cases hcp : cplB ld a b c
    · have hcd := hcd.resolve_left (fun z => z hcp)
      refine wp_eq (hic.1 hcp) (wp_f (by decide) ?_)
      by_cases h1 : 0 ≤ d ∧ d < gi ld 2 0
      · have hcd := hcd.resolve_left (fun z => z h1)
        refine wp_b1 (x_isPlaceM hok hM2 d) h1 (wp_f (by decide) ?_)
        by_cases h2 : 0 ≤ e ∧ e < gi ld 2 0
        · have hcd := hcd.resolve_left (fun z => z h2)
          refine wp_b1 (x_isPlaceM hok hM2 e) h2 (wp_f (by decide) ?_)
          exact wp_b0 (x_isIn f 1 4 s2) hcd (wp_t rfl (wp_some ⟨rfl, hI2⟩))
        · exact wp_b0 (x_isPlaceM hok hM2 e) h2 (wp_t rfl (wp_some ⟨rfl, hI2⟩))
      · exact wp_b0 (x_isPlaceM hok hM2 d) h1 (wp_t rfl (wp_some ⟨rfl, hI2⟩))
    · exact wp_eq (hic.2 hcp) (wp_t rfl (wp_some ⟨rfl, hI2⟩))
  have hE5 : EqP (fun r k => r = 61 ∧ k = 5) σ (si σ 61 5 0) := EqP.si (EqP.rf _ _) _ _ _ (by omega)
  have h5 : gi (si σ 61 5 0) 61 5 = 0 := gi_same _ _ _ _
  by_cases hcp : cplB ld a b c
  · refine wp_eq (hxc.1 hcp) (wp_ob ?_)
    refine wp_eq (x_layNothing σ) ?_
    generalize si σ 61 5 0 = s1 at hE5 h5 ⊢
    obtain ⟨A, B, m, rfl, rfl, rfl, hc⟩ := cplB_nat hok hcp
    have hL1 := hL.of hE5 (fun r k z => by omega)
    refine wp_f (by omega) ?_
    unfold j_Fi_layHome_35
    by_cases h1 : 0 ≤ d ∧ d < gi ld 2 0
    · refine wp_b1 (x_isPlaceC hok hL1 d) h1 (wp_f (by decide) ?_)
      by_cases h2 : 0 ≤ e ∧ e < gi ld 2 0
      · refine wp_b1 (x_isPlaceC hok hL1 e) h2 (wp_f (by decide) ?_)
        unfold j_Fi_layHome_36
        refine wp_f (by decide) ?_
        by_cases h3 : f < 1
        · exact wp_t h3 (wp_some (wp_some (none s1 hE5 h5 (Or.inr (Or.inr (Or.inr (by omega)))))))
        refine wp_f h3 ?_
        by_cases h4 : f ≤ 4
        · refine wp_t h4 (wp_os (wp_os (wp_os ?_)))
          obtain ⟨p, rfl⟩ : ∃ n : Nat, d = n := ⟨d.toNat, by omega⟩
          obtain ⟨D, rfl⟩ : ∃ n : Nat, f = n := ⟨f.toNat, by omega⟩
          obtain ⟨W, hW⟩ : ∃ W : Nat, gi ld 2 4 = W := ⟨(gi ld 2 4).toNat, by have := hok.2.1; omega⟩
          have hE2 : EqP (fun r k => r = 61) s1 (si (si (si s1 61 17 e) 61 18 (D : Int)) 61 19 0) := EqP.si (EqP.si (EqP.si (EqP.rf _ _) _ _ _ (by omega)) _ _ _ (by omega)) _ _ _ (by omega)
          have k17 : gi (si (si (si s1 61 17 e) 61 18 (D : Int)) 61 19 0) 61 17 = e := by rw [gi_ne_k _ _ _ _ (by omega), gi_ne_k _ _ _ _ (by omega)]; exact gi_same _ _ _ _
          have k18 : gi (si (si (si s1 61 17 e) 61 18 (D : Int)) 61 19 0) 61 18 = D := by rw [gi_ne_k _ _ _ _ (by omega)]; exact gi_same _ _ _ _
          have k19 : gi (si (si (si s1 61 17 e) 61 18 (D : Int)) 61 19 0) 61 19 = 0 := gi_same _ _ _ _
          have k5 : gi (si (si (si s1 61 17 e) 61 18 (D : Int)) 61 19 0) 61 5 = 0 := by rw [gi_ne_k _ _ _ _ (by omega), gi_ne_k _ _ _ _ (by omega), gi_ne_k _ _ _ _ (by omega)]; exact h5
          generalize si (si (si s1 61 17 e) 61 18 (D : Int)) 61 19 0 = s2 at hE2 k17 k18 k19 k5 ⊢
          have hE02 : EqP (fun r k => r = 61) σ s2 := (hE5.mo (fun r k z => z.1)).tr hE2
          have hL2 := hL.of hE02 (fun r k z => by omega)
          obtain ⟨bq1, bq2⟩ := begP_ok hok hc.2.2.2.1
          refine wp_call (x_begin hok hL2 (t := 76) (by omega) hc rfl) ?_
          rintro _ s3 ⟨hT3, hE3⟩
          have hput := x_putTS 0 (by omega) hT3 bq1.2.1
          rw [show ((0 : Nat) : Int) = 0 from rfl] at hput
          refine wp_call hput ?_
          rintro _ s4 ⟨hTS4, hE4⟩
          have hE04 : EqP (fun r k => r = 61 ∨ r = 74 ∨ PTk 76 r k) σ s4 := ((hE02.mo (fun r k z => Or.inl z)).tr (hE3.mo (fun r k z => Or.inr (Or.inr z)))).tr (hE4.mo (fun r k z => Or.inr (Or.inl z.1)))
          have kk : ∀ k, gi s4 61 k = gi s2 61 k := fun k => by rw [hE4.i _ _ (by omega), hE3.i _ _ (by omega)]
          refine wp_call (x_searchHome hok (tp := gi σ 47) hc (D := D) (p := p) (tt := e) ⟨by omega, by omega⟩ hW (hL.of hE04 (fun r k z => by omega)) (fun j _ => hE04.i _ _ (by omega)) (by rw [kk]; exact k17) (by rw [kk]; exact k18) (by rw [kk]; exact k19) (by rw [kk]; exact k5) hTS4) ?_
          rintro _ s5 ⟨hE55, hH5⟩
          refine wp_some (wp_some ?_)
          have hE05 : EqP SCl σ s5 := (hE04.mo (fun r k z => by omega)).tr (hE55.mo (fun r k z => by omega))
          rw [home_agree] at hH5
          unfold f_Mo_home
          refine wp_os ?_
          have hE6 : EqP (fun r k => r = 86 ∧ k = 62) s5 (si s5 86 62 0) := EqP.si (EqP.rf _ _) _ _ _ (by omega)
          have h62 : gi (si s5 86 62 0) 86 62 = 0 := gi_same _ _ _ _
          generalize si s5 86 62 0 = s6 at hE6 h62 ⊢
          have hE06 : EqP SCl σ s6 := hE05.tr (hE6.mo (fun r k z => by omega))
          have hM6 := hM.of hE06 (fun r k z => by omega)
          refine wp_eq ((x_isCoupleM hok hM6 _ _ _).1 hcp) (wp_f (by decide) ?_)
          refine wp_b1 (x_isPlaceM hok hM6 _) h1 (wp_f (by decide) ?_)
          refine wp_b1 (x_isPlaceM hok hM6 _) h2 (wp_f (by decide) ?_)
          refine wp_b1 (x_isIn (D : Int) 1 4 s6) ⟨by omega, by omega⟩ (wp_f (by decide) (wp_ol ?_))
          obtain ⟨q1, q2, q3⟩ : A < 6 ∧ B < 6 ∧ m < 6 := ⟨by have := hc.2.2.2.2.1; omega, by have := hc.2.2.2.2.2.1; omega, by have := hc.2.2.2.2.2.2; omega⟩
          have ecode : iw (iw (iw (iw (6 * (A : Int)) + (B : Int)) * 6) + (m : Int)) = ((36 * A + 6 * B + m : Nat) : Int) := by
            rw [iwc (x := 6 * (A : Int)) (by omega) (by omega), iwc (x := 6 * (A : Int) + (B : Int)) (by omega) (by omega), iwc (x := (6 * (A : Int) + (B : Int)) * 6) (by omega) (by omega), iwc (by omega) (by omega)]
            omega
          rw [ecode]
          have z := x_h67 hok hW (tp := gi σ 47) (a := A) (b := B) (m := m) (c := 36 * A + 6 * B + m) (p := p) (D := D) (tt := e) (by omega) (by omega) (by omega) hc h1.2 h2.1 (by omega) s6 hM6 (hTp.of hE06 (fun r k z => by omega)) D 0 s6 FU (by omega) (EqP.rf _ _) ⟨⟨fun _ => rfl, fun _ => rfl⟩, h62⟩ (Nat.le_refl _) (by unfold FU; omega)
          have z' : Wp (l_Mo_home_67 p e D ((36 * A + 6 * B + m : Nat) : Int) FU 0 1 1 s6) _ := z
          refine wp_mono z' ?_
          rintro v τ ⟨hv, hHM, hE7⟩
          have hEt : EqP SCl σ τ := hE06.tr (hE7.mo (fun r k z => by omega))
          have hF : EqP PHm s5 τ := (hE6.mo (fun r k z => by omega)).tr hE7
          have hHB : HB τ ((catK (fun k => flK ld (gi σ 47) A B W e k p (begP ld m)) D).foldl rstep (0, Option.none)) := hH5.of hF (fun r k z => by omega)
          have hlen : ∀ l, ((catK (fun k => flK ld (gi σ 47) A B W e k p (begP ld m)) D).foldl rstep (0, Option.none)).2 = some l → l.length ≤ 4 := by
            intro l hl
            rw [fold_rstep] at hl
            have hl' : (catK (fun k => flK ld (gi σ 47) A B W e k p (begP ld m)) D).foldl fstH Option.none = some l := hl
            rw [fold_fst] at hl'
            have := catK_mem (fun k l hl => flK_len k p (begP ld m) l hl) D l (List.mem_of_head? hl')
            omega
          generalize (catK (fun k => flK ld (gi σ 47) A B W e k p (begP ld m)) D).foldl rstep (0, Option.none) = S at hv hHM hHB hlen hH5
          refine ⟨by rw [hv]; exact hH5.1, hI.ly hEt ?_⟩
          obtain ⟨n, o⟩ := S
          cases o with
          | none => exact ⟨0, by omega, hHB.2.2, hHM.2, fun i hi => absurd hi (Nat.not_lt_zero _)⟩
          | some l =>
            have := hlen l rfl
            obtain ⟨u1, u2⟩ := hHB.2.2
            obtain ⟨v1, v2⟩ := hHM.2
            exact ⟨l.length, by omega, u1, v1, fun i hi => by rw [u2 i hi, v2 i hi]⟩
        · exact wp_f h4 (wp_some (wp_some (none s1 hE5 h5 (Or.inr (Or.inr (Or.inr (by omega)))))))
      · unfold j_Fi_layHome_36
        exact wp_b0 (x_isPlaceC hok hL1 e) h2 (wp_t rfl (wp_t rfl (wp_some (wp_some (none s1 hE5 h5 (Or.inr (Or.inr (Or.inl h2))))))))
    · unfold j_Fi_layHome_36
      exact wp_b0 (x_isPlaceC hok hL1 d) h1 (wp_t rfl (wp_t rfl (wp_some (wp_some (none s1 hE5 h5 (Or.inr (Or.inl h1)))))))
  · refine wp_eq (hxc.2 hcp) (wp_ob ?_)
    refine wp_eq (x_layNothing σ) (wp_t rfl ?_)
    unfold j_Fi_layHome_35 j_Fi_layHome_36
    exact wp_t rfl (wp_some (wp_some (none _ hE5 h5 (Or.inl hcp))))
