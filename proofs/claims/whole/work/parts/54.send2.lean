/-! send -/
abbrev T3 : Type := Nat × Nat × Nat
def sdF (P : T3 → Bool) (t : T3) (s : Nat × T3) : Nat × T3 := if P t = true then (s.1 + 1, if s.1 = 0 then t else s.2) else s
def sdC (σ : SS) (s : Nat × T3) : Prop := (s.1 = 0 → gi σ 61 5 = 0) ∧ (s.1 ≠ 0 → gi σ 61 5 = 3 ∧ gi σ 65 0 = s.2.1 ∧ gi σ 65 1 = s.2.2.1 ∧ gi σ 65 2 = s.2.2.2)
def sdM (σ : SS) (s : Nat × T3) : Prop := (s.1 = 0 → gi σ 86 62 = 0) ∧ (s.1 ≠ 0 → gi σ 86 62 = 3 ∧ gi σ 122 0 = s.2.1 ∧ gi σ 122 1 = s.2.2.1 ∧ gi σ 122 2 = s.2.2.2)
abbrev PSn : Nat → Nat → Prop := fun r k => r = 61 ∧ k = 5 ∨ r = 65 ∨ PSt 75 r k
abbrev PSm : Nat → Nat → Prop := fun r k => r = 86 ∧ k = 62 ∨ r = 122 ∨ PAl r k
theorem x_sendC {ld : SS} (hok : LdOK ld) {tp : Nat → Int} {n p0 : Nat} {wf ef : Nat → Nat} (hp : Pth ld n wf ef p0) (σ0 : SS) (hL : LC ld σ0) (htp : ∀ j, j < 12 → gi σ0 47 j = tp j) (hR : RC σ0 62 n wf ef p0) (h61 : gi σ0 61 5 = 0) :
    Wp (l_Fi_laySent_21 FU 0 0 σ0) fun v τ => v = (((cps ld).foldl (fun s t => sdF (ejP ld tp n wf ef) t s) (0, (0, 0, 0))).1 : Nat) ∧ sdC τ ((cps ld).foldl (fun s t => sdF (ejP ld tp n wf ef) t s) (0, (0, 0, 0))) ∧ EqP PSn σ0 τ := by
  rw [← foldC hok (sdF (ejP ld tp n wf ef))]
  refine loopN (β := Nat × T3) 600 (fun fu c st s => l_Fi_laySent_21 fu ((st.1 : Nat) : Int) c s) (fun c st => if cpB ld (dC c) = true then sdF (ejP ld tp n wf ef) (dC c) st else st) (fun c st s => st.1 ≤ c ∧ sdC s st ∧ EqP PSn σ0 s) _ ?_ 600 0 FU (0, (0, 0, 0)) σ0 (by omega) (by unfold FU; omega) ⟨by omega, ⟨fun _ => h61, fun h => absurd rfl h⟩, EqP.rf _ _⟩ ?_
  · rintro fu c ⟨m, t0⟩ s hc ⟨hm, hs, hE⟩ hk
    dsimp only at hm hk
    have hi : iw ((c : Int) + 1) = ((c + 1 : Nat) : Int) := by rw [iwc (by omega) (by omega)]; omega
    have him : iw ((m : Int) + 1) = ((m + 1 : Nat) : Int) := by rw [iwc (by omega) (by omega)]; omega
    have hLs := hL.of hE (fun r k z => by omega)
    show Wp (l_Fi_laySent_21 (fu + 1) ((m : Nat) : Int) (c : Int) s) _
    rw [l_Fi_laySent_21]
    refine wp_f (by omega) ?_
    by_cases hcp : cpB ld (dC c) = true
    · refine wp_b1 (x_isCoupleC hok hLs c hc) hcp (wp_f (by decide) ?_)
      rw [if_pos hcp] at hk
      have hC := (cpB_iff hok _ _ _).mp hcp
      have hcode : (c : Int) = 100 * ((c / 100 : Nat) : Int) + 10 * ((c / 10 % 10 : Nat) : Int) + ((c % 10 : Nat) : Int) := by omega
      have hRs : RC s 62 n wf ef p0 := ⟨by rw [hE.i _ _ (by omega)]; exact hR.1, by rw [hE.i _ _ (by omega)]; exact hR.2.1, fun j hj => by rw [hE.i _ _ (by omega), hE.i _ _ (by omega)]; exact hR.2.2 j hj⟩
      refine wp_call (x_endsJust hok hLs (tp := tp) (fun j hj => by rw [hE.i _ _ (by omega)]; exact htp j hj) hC hp hRs hcode) ?_
      rintro r5 s5 ⟨hr5, hE5⟩
      have hE05 : EqP PSn σ0 s5 := hE.tr (hE5.mo (fun r k h => by omega))
      have hs5 : sdC s5 (m, t0) := ⟨fun h => by rw [hE5.i _ _ (by omega)]; exact hs.1 h, fun h => by rw [hE5.i _ _ (by omega), hE5.i _ _ (by omega), hE5.i _ _ (by omega), hE5.i _ _ (by omega)]; exact hs.2 h⟩
      by_cases hej : ejP ld tp n wf ef (dC c) = true
      · have hr : r5 = 1 := by rw [hr5]; exact if_pos hej
        refine wp_f (by omega) ?_
        have hsd : sdF (ejP ld tp n wf ef) (dC c) (m, t0) = (m + 1, if m = 0 then dC c else t0) := if_pos hej
        rw [hsd] at hk
        dsimp only at hk
        by_cases hm0 : m = 0
        · refine wp_t (by omega) ?_
          have ea : Int.tdiv (c : Int) 100 = ((c / 100 : Nat) : Int) := by rw [tdn _ (by omega)]; omega
          have eb : Int.tmod (Int.tdiv (c : Int) 10) 10 = ((c / 10 % 10 : Nat) : Int) := by rw [tdn _ (by omega), tmn _ (by omega)]; omega
          have em : Int.tmod (c : Int) 10 = ((c % 10 : Nat) : Int) := by rw [tmn _ (by omega)]; omega
          rw [ea, eb, em, hi, him]
          have z0 : gi s5 61 5 = ((0 : Nat) : Int) := hs5.1 hm0
          refine wp_eq (x_lay z0 (by omega) _) ?_
          refine wp_eq (x_lay (n := 1) (by simp (disch := omega) only [gi_same, gi_ne_r, gi_ne_k, gi_sr_same, gi_sr_ne, gj_sj_same, gj_sj_ne_r, gj_sj_ne_k, gj_si, gi_sj, gj_sr, iwc, jwc, Int.toNat_natCast, tdn, tmn, b0, b1, yc0, yc1]) (by omega) _) ?_
          refine wp_eq (x_lay (n := 2) (by simp (disch := omega) only [gi_same, gi_ne_r, gi_ne_k, gi_sr_same, gi_sr_ne, gj_sj_same, gj_sj_ne_r, gj_sj_ne_k, gj_si, gi_sj, gj_sr, iwc, jwc, Int.toNat_natCast, tdn, tmn, b0, b1, yc0, yc1]) (by omega) _) ?_
          refine hk _ ⟨by omega, ⟨fun h => absurd h (by simp), fun _ => ?_⟩, ?_⟩
          · rw [if_pos hm0]
            refine ⟨by simp (disch := omega) only [gi_same, gi_ne_r, gi_ne_k, gi_sr_same, gi_sr_ne, gj_sj_same, gj_sj_ne_r, gj_sj_ne_k, gj_si, gi_sj, gj_sr, iwc, jwc, Int.toNat_natCast, tdn, tmn, b0, b1, yc0, yc1]; rfl, ?_, ?_, ?_⟩
            · simp (disch := omega) only [gi_same, gi_ne_r, gi_ne_k, gi_sr_same, gi_sr_ne, gj_sj_same, gj_sj_ne_r, gj_sj_ne_k, gj_si, gi_sj, gj_sr, iwc, jwc, Int.toNat_natCast, tdn, tmn, b0, b1, yc0, yc1]; rfl
            · simp (disch := omega) only [gi_same, gi_ne_r, gi_ne_k, gi_sr_same, gi_sr_ne, gj_sj_same, gj_sj_ne_r, gj_sj_ne_k, gj_si, gi_sj, gj_sr, iwc, jwc, Int.toNat_natCast, tdn, tmn, b0, b1, yc0, yc1]; rfl
            · simp (disch := omega) only [gi_same, gi_ne_r, gi_ne_k, gi_sr_same, gi_sr_ne, gj_sj_same, gj_sj_ne_r, gj_sj_ne_k, gj_si, gi_sj, gj_sr, iwc, jwc, Int.toNat_natCast, tdn, tmn, b0, b1, yc0, yc1]; rfl
          · refine hE05.tr ?_
            repeat (first | exact EqP.rf _ _ | (refine EqP.si ?_ _ _ _ (by omega)) | (refine EqP.sj ?_ _ _ _ (by omega)) | (refine EqP.sr ?_ _ _ (fun k => by omega)))
        · refine wp_f (by omega) ?_
          rw [hi, him]
          refine hk s5 ⟨by omega, ⟨fun h => absurd h (by simp), fun _ => ?_⟩, hE05⟩
          rw [if_neg hm0]
          exact hs5.2 hm0
      · have hr : r5 = 0 := by rw [hr5]; exact if_neg hej
        refine wp_t hr ?_
        have hsd : sdF (ejP ld tp n wf ef) (dC c) (m, t0) = (m, t0) := if_neg hej
        rw [hsd] at hk
        rw [hi]
        exact hk s5 ⟨by omega, hs5, hE05⟩
    · refine wp_b0 (x_isCoupleC hok hLs c hc) hcp (wp_t rfl ?_)
      rw [if_neg hcp] at hk
      rw [hi]
      exact hk s ⟨by omega, hs, hE⟩
  · rintro fu' s ⟨_, hs, hE⟩
    show Wp (l_Fi_laySent_21 (fu' + 1) _ ((600 : Nat) : Int) s) _
    rw [l_Fi_laySent_21]
    exact wp_t (by omega) (wp_some ⟨rfl, hs, hE⟩)
theorem x_sendM {ld : SS} (hok : LdOK ld) {bk : Nat} {tp : Nat → Int} {n p0 : Nat} (hn8 : n ≤ 8) {wf ef : Nat → Nat} (hp : Pth ld n wf ef p0) (σ0 : SS) (hM0 : LM ld σ0 bk) (hTp0 : TPM ld σ0 bk tp) (h67 : gi σ0 86 67 = n) (hR : ∀ j, j < n → gi σ0 124 j = wf j) (h62 : gi σ0 86 62 = 0) :
    Wp (l_Mo_send_37 p0 FU 0 0 σ0) fun v τ => v = (((cps ld).foldl (fun s t => sdF (ejP ld tp n wf ef) t s) (0, (0, 0, 0))).1 : Nat) ∧ sdM τ ((cps ld).foldl (fun s t => sdF (ejP ld tp n wf ef) t s) (0, (0, 0, 0))) ∧ EqP PSm σ0 τ := by
  rw [← foldM (ld := ld) (sdF (ejP ld tp n wf ef))]
  refine loopN (β := Nat × T3) 216 (fun fu c st s => l_Mo_send_37 p0 fu ((st.1 : Nat) : Int) c s) (fun c st => if cpB ld (dM c) = true then sdF (ejP ld tp n wf ef) (dM c) st else st) (fun c st s => st.1 ≤ c ∧ sdM s st ∧ EqP PSm σ0 s) _ ?_ 216 0 FU (0, (0, 0, 0)) σ0 (by omega) (by unfold FU; omega) ⟨by omega, ⟨fun _ => h62, fun h => absurd rfl h⟩, EqP.rf _ _⟩ ?_
  · rintro fu c ⟨m, t0⟩ s hc ⟨hm, hs, hE⟩ hk
    dsimp only at hm hk
    have hi : iw ((c : Int) + 1) = ((c + 1 : Nat) : Int) := by rw [iwc (by omega) (by omega)]; omega
    have him : iw ((m : Int) + 1) = ((m + 1 : Nat) : Int) := by rw [iwc (by omega) (by omega)]; omega
    have hMs := hM0.of hE (fun r k z => by omega)
    have hTs := hTp0.of hE (fun r k z => by omega)
    show Wp (l_Mo_send_37 p0 (fu + 1) ((m : Nat) : Int) (c : Int) s) _
    rw [l_Mo_send_37]
    unfold f_Mo_coupleMany
    refine wp_eq rfl (wp_f (by omega) ?_)
    rw [hi]
    by_cases hcp : cpB ld (dM c) = true
    · refine wp_b1 (x_canBe hok hMs c hc) hcp (wp_f (by decide) ?_)
      rw [if_pos hcp] at hk
      have hC := (cpB_iff hok _ _ _).mp hcp
      refine wp_call (x_beginBy hok hMs c hC) ?_
      rintro _ s5 ⟨hT5, hE5⟩
      have hE05 : EqP PSm σ0 s5 := hE.tr (hE5.mo (fun r k h => by omega))
      obtain ⟨bq1, bq2⟩ := begP_ok hok hC.2.2.2.1
      rw [hE05.i 86 67 (by omega), h67]
      refine wp_call (x_along (u1 := 124) (tp := tp) hok (hM0.of hE05 (fun r k z => by omega)) (by omega) (hTp0.of hE05 (fun r k z => by omega)) hC hp (show n ≤ 8 from hn8) (fun j hj => by rw [hE05.i _ _ (by omega)]; exact hR j hj) hT5 bq1 bq2) ?_
      rintro _ s7 ⟨_, h63, h64, hE7⟩
      have hE07 : EqP PSm σ0 s7 := hE05.tr (hE7.mo (fun r k h => by omega))
      have hs7 : sdM s7 (m, t0) := ⟨fun h => by rw [hE7.i _ _ (by omega), hE5.i _ _ (by omega)]; exact hs.1 h, fun h => by rw [hE7.i 86 62 (by omega), hE7.i 122 0 (by omega), hE7.i 122 1 (by omega), hE7.i 122 2 (by omega), hE5.i 86 62 (by omega), hE5.i 122 0 (by omega), hE5.i 122 1 (by omega), hE5.i 122 2 (by omega)]; exact hs.2 h⟩
      have hM7 := hM0.of hE07 (fun r k z => by omega)
      have g67 : gi s7 86 67 = n := by rw [hE07.i _ _ (by omega)]; exact h67
      have hg := goP_rng (ld := ld) (tp := tp) (a := c / 36) (b := c / 6 % 6) (wf := wf) (ef := ef) n 0 0 (begP ld (c % 6))
      have hejd : ejP ld tp n wf ef (dM c) = ((goP ld tp (c / 36) (c / 6 % 6) wf ef n 0 0 (begP ld (c % 6))).1 && decide ((goP ld tp (c / 36) (c / 6 % 6) wf ef n 0 0 (begP ld (c % 6))).2.1 = n - 1 ∧ gi ld 8 (wf (goP ld tp (c / 36) (c / 6 % 6) wf ef n 0 0 (begP ld (c % 6))).2.1) ≤ (goP ld tp (c / 36) (c / 6 % 6) wf ef n 0 0 (begP ld (c % 6))).2.2.1)) := rfl
      generalize goP ld tp (c / 36) (c / 6 % 6) wf ef n 0 0 (begP ld (c % 6)) = G at h63 h64 hg hejd
      have skip : ejP ld tp n wf ef (dM c) = false → Wp (l_Mo_send_37 p0 fu (m : Int) ((c + 1 : Nat) : Int) s7) _ := fun he => by
        have hsd : sdF (ejP ld tp n wf ef) (dM c) (m, t0) = (m, t0) := if_neg (by rw [he]; decide)
        rw [hsd] at hk
        exact hk s7 ⟨by omega, hs7, hE07⟩
      by_cases hG : G.1 = true
      · rw [if_pos hG] at h63 h64
        have hgr := hg hG
        refine wp_f (by omega) ?_
        rw [h63, g67, iwc (x := (n : Int) - 1) (by omega) (by omega)]
        by_cases hlast : G.2.1 = n - 1
        · refine wp_f (by omega) (wp_oc (by omega) ?_)
          have hpw := (hp.2.2 G.2.1 (by omega)).1
          rw [Int.toNat_natCast, hE07.i 124 _ (by omega), hR G.2.1 (by omega)]
          refine wp_eq (x_milesOf hok hM7 (y := ((wf G.2.1 : Nat) : Int)) (by omega)) ?_
          rw [Int.toNat_natCast, h64]
          by_cases hml : gi ld 8 (wf G.2.1) ≤ G.2.2.1
          · refine wp_t hml ?_
            have he : ejP ld tp n wf ef (dM c) = true := by rw [hejd, hG, decide_eq_true ⟨hlast, hml⟩]; rfl
            have hsd : sdF (ejP ld tp n wf ef) (dM c) (m, t0) = (m + 1, if m = 0 then dM c else t0) := if_pos he
            rw [hsd] at hk
            dsimp only at hk
            by_cases hm0 : m = 0
            · refine wp_t (by omega) ?_
              unfold f_Mo_firstOf f_Mo_otherOf f_Mo_matterOf
              have ea : Int.tdiv (c : Int) 36 = ((c / 36 : Nat) : Int) := by rw [tdn _ (by omega)]; omega
              have eb : Int.tmod (Int.tdiv (c : Int) 6) 6 = ((c / 6 % 6 : Nat) : Int) := by rw [tdn _ (by omega), tmn _ (by omega)]; omega
              have em : Int.tmod (c : Int) 6 = ((c % 6 : Nat) : Int) := by rw [tmn _ (by omega)]; omega
              rw [ea, eb, em, him]
              refine wp_eq rfl (wp_os (wp_eq rfl (wp_os (wp_eq rfl (wp_os (wp_os ?_))))))
              refine hk _ ⟨by omega, ⟨fun h => absurd h (by simp), fun _ => ?_⟩, ?_⟩
              · rw [if_pos hm0]
                refine ⟨by simp (disch := omega) only [gi_same, gi_ne_r, gi_ne_k, gi_sr_same, gi_sr_ne, gj_sj_same, gj_sj_ne_r, gj_sj_ne_k, gj_si, gi_sj, gj_sr, iwc, jwc, Int.toNat_natCast, tdn, tmn, b0, b1, yc0, yc1], ?_, ?_, ?_⟩
                · simp (disch := omega) only [gi_same, gi_ne_r, gi_ne_k, gi_sr_same, gi_sr_ne, gj_sj_same, gj_sj_ne_r, gj_sj_ne_k, gj_si, gi_sj, gj_sr, iwc, jwc, Int.toNat_natCast, tdn, tmn, b0, b1, yc0, yc1]; rfl
                · simp (disch := omega) only [gi_same, gi_ne_r, gi_ne_k, gi_sr_same, gi_sr_ne, gj_sj_same, gj_sj_ne_r, gj_sj_ne_k, gj_si, gi_sj, gj_sr, iwc, jwc, Int.toNat_natCast, tdn, tmn, b0, b1, yc0, yc1]; rfl
                · simp (disch := omega) only [gi_same, gi_ne_r, gi_ne_k, gi_sr_same, gi_sr_ne, gj_sj_same, gj_sj_ne_r, gj_sj_ne_k, gj_si, gi_sj, gj_sr, iwc, jwc, Int.toNat_natCast, tdn, tmn, b0, b1, yc0, yc1]; rfl
              · refine hE07.tr ?_
                repeat (first | exact EqP.rf _ _ | (refine EqP.si ?_ _ _ _ (by omega)) | (refine EqP.sj ?_ _ _ _ (by omega)) | (refine EqP.sr ?_ _ _ (fun k => by omega)))
            · refine wp_f (by omega) ?_
              rw [him]
              refine hk s7 ⟨by omega, ⟨fun h => absurd h (by simp), fun _ => ?_⟩, hE07⟩
              rw [if_neg hm0]
              exact hs7.2 hm0
          · exact wp_f hml (skip (by rw [hejd, hG, decide_eq_false (fun z => hml z.2)]; rfl))
        · exact wp_t (by omega) (skip (by rw [hejd, hG, decide_eq_false (fun z => hlast z.1)]; rfl))
      · rw [if_neg hG] at h63
        rw [Bool.not_eq_true] at hG
        exact wp_t (by omega) (skip (by rw [hejd, hG]; rfl))
    · refine wp_b0 (x_canBe hok hMs c hc) hcp (wp_t rfl ?_)
      rw [if_neg hcp] at hk
      exact hk s ⟨by omega, hs, hE⟩
  · rintro fu' s ⟨_, hs, hE⟩
    show Wp (l_Mo_send_37 p0 (fu' + 1) _ ((216 : Nat) : Int) s) _
    rw [l_Mo_send_37]
    unfold f_Mo_coupleMany
    exact wp_eq rfl (wp_t (by omega) (wp_some ⟨rfl, hs, hE⟩))
theorem y_send (a b : Int) : MP (f_Qu_send a b) (f_Mo_send a b) := by
  rintro σ ⟨ld, bk, hok, hL, hM, hEA, hRO, hLY, hRP, hTA⟩
  have hI : Inv σ := ⟨ld, bk, hok, hL, hM, hEA, hRO, hLY, hRP, hTA⟩
  have hTp : TPM ld σ bk (gi σ 47) := tpm_ea hEA hTA
  unfold f_Qu_send f_Mo_send f_Fi_laySent
  refine wp_ob (wp_eq (x_layNothing σ) ?_)
  have hE1 : EqP SCl σ (si σ 61 5 0) := by repeat (first | exact EqP.rf _ _ | (refine EqP.si ?_ _ _ _ (by omega)) | (refine EqP.sj ?_ _ _ _ (by omega)) | (refine EqP.sr ?_ _ _ (fun k => by omega)))
  have h61 : gi (si σ 61 5 0) 61 5 = 0 := gi_same _ _ _ _
  have h47 : ∀ j, gi (si σ 61 5 0) 47 j = gi σ 47 j := fun j => by simp (disch := omega) only [gi_same, gi_ne_r, gi_ne_k, gi_sr_same, gi_sr_ne, gj_sj_same, gj_sj_ne_r, gj_sj_ne_k, gj_si, gi_sj, gj_sr, iwc, jwc, Int.toNat_natCast, tdn, tmn, b0, b1, yc0, yc1]
  generalize si σ 61 5 0 = s1 at hE1 h61 h47 ⊢
  have hL1 := hL.of hE1 (fun r k z => by omega)
  by_cases hc : 0 ≤ a ∧ a < gi ld 2 0 ∧ 0 ≤ b ∧ b < gi ld 2 0 ∧ faR ld b.toNat 8 a.toNat < 1000000
  · obtain ⟨n, hn, he, hne, hw⟩ := (x_findPath hok hL1 a b).1 hc
    refine wp_call hw ?_
    rintro _ s2 ⟨rfl, hR2, hE2⟩
    obtain ⟨c1, c2, c3, c4, c5⟩ := hc
    have hnn := (faR_nbr hok b.toNat 8).2.1 a.toNat
    have hP := psP_pth hok (to := b.toNat) (p0 := a.toNat) (by omega) c5 hn hne
    refine wp_f (by omega) ?_
    refine wp_mono (x_sendC hok (tp := gi σ 47) hP s2 (hL1.of hE2 (fun r k z => by omega)) (fun j _ => by rw [hE2.i _ _ (by omega)]; exact h47 j) hR2 (by rw [hE2.i _ _ (by omega)]; exact h61)) ?_
    rintro x s3 ⟨hx, hs3, hE3⟩
    refine wp_some (wp_os ?_)
    have hE03 : EqP SCl σ s3 := (hE1.tr (hE2.mo (fun r k h => by omega))).tr (hE3.mo (fun r k h => by omega))
    have hE4 : EqP SCl σ (si s3 86 62 0) := EqP.si hE03 _ _ _ (by omega)
    have hF4 : EqP (fun r k => r = 86 ∧ k = 62) s3 (si s3 86 62 0) := by repeat (first | exact EqP.rf _ _ | (refine EqP.si ?_ _ _ _ (by omega)) | (refine EqP.sj ?_ _ _ _ (by omega)) | (refine EqP.sr ?_ _ _ (fun k => by omega)))
    have hM4 := hM.of hE4 (fun r k z => by omega)
    have hT4 := hTp.of hE4 (fun r k z => by omega)
    have k62 : gi (si s3 86 62 0) 86 62 = 0 := gi_same _ _ _ _
    generalize si s3 86 62 0 = s4 at hE4 hM4 hT4 hF4 k62 ⊢
    refine wp_b1 (x_isPlaceM hok hM4 _) ⟨c1, c2⟩ (wp_f (by decide) ?_)
    refine wp_b1 (x_isPlaceM hok hM4 _) ⟨c3, c4⟩ (wp_f (by decide) ?_)
    have hls := (x_layShortestM hok hM4 (p0 := a.toNat) (to := b.toNat) (by omega) (by omega)).1 n hn he hne c5
    rw [show ((a.toNat : Nat) : Int) = a by omega, show ((b.toNat : Nat) : Int) = b by omega] at hls
    refine wp_call hls ?_
    rintro r6 s6 ⟨hr6, h67, h124, hE6⟩
    refine wp_t (by omega) ?_
    have hz := x_sendM hok (tp := gi σ 47) (by omega) hP s6 (hM4.of hE6 (fun r k z => by omega)) (hT4.of hE6 (fun r k z => by omega)) h67 h124 (by rw [hE6.i _ _ (by omega)]; exact k62)
    rw [show ((a.toNat : Nat) : Int) = a by omega] at hz
    refine wp_mono hz ?_
    rintro y τ ⟨hy, hsτ, hE7⟩
    have hEt : EqP SCl σ τ := (hE4.tr (hE6.mo (fun r k h => by omega))).tr (hE7.mo (fun r k h => by omega))
    refine ⟨by rw [hx, hy], hI.ly hEt ?_⟩
    generalize List.foldl (fun s t => sdF (ejP ld (gi σ 47) n (wsP ld b.toNat a.toNat) (fun j => psP ld b.toNat a.toNat (j + 1))) t s) (0, (0, 0, 0)) (cps ld) = R at hs3 hsτ
    have g : ∀ r k, (r = 61 ∨ r = 65) → gi τ r k = gi s3 r k := fun r k h => by rw [hE7.i _ _ (by omega), hE6.i _ _ (by omega), hF4.i _ _ (by omega)]
    by_cases h0 : R.1 = 0
    · exact ⟨0, by omega, by rw [g _ _ (by omega)]; exact hs3.1 h0, hsτ.1 h0, fun j hj => by omega⟩
    · obtain ⟨u1, u2, u3, u4⟩ := hs3.2 h0
      obtain ⟨v1, v2, v3, v4⟩ := hsτ.2 h0
      refine ⟨3, by omega, by rw [g _ _ (by omega)]; exact u1, v1, fun j hj => ?_⟩
      have hj3 : j = 0 ∨ j = 1 ∨ j = 2 := by omega
      rcases hj3 with rfl | rfl | rfl
      · rw [g _ _ (by omega), u2, v2]
      · rw [g _ _ (by omega), u3, v3]
      · rw [g _ _ (by omega), u4, v4]
  · refine wp_call ((x_findPath hok hL1 a b).2 hc) ?_
    rintro _ s2 ⟨rfl, hE2⟩
    refine wp_t rfl (wp_some (wp_some (wp_os ?_)))
    have hE4 : EqP SCl σ (si s2 86 62 0) := EqP.si (hE1.tr (hE2.mo (fun r k h => by omega))) _ _ _ (by omega)
    have hM4 := hM.of hE4 (fun r k z => by omega)
    have k61 : gi (si s2 86 62 0) 61 5 = 0 := by simp (disch := omega) only [gi_same, gi_ne_r, gi_ne_k, gi_sr_same, gi_sr_ne, gj_sj_same, gj_sj_ne_r, gj_sj_ne_k, gj_si, gi_sj, gj_sr, iwc, jwc, Int.toNat_natCast, tdn, tmn, b0, b1, yc0, yc1]; rw [hE2.i _ _ (by omega)]; exact h61
    have k62 : gi (si s2 86 62 0) 86 62 = 0 := gi_same _ _ _ _
    generalize si s2 86 62 0 = s4 at hE4 hM4 k61 k62 ⊢
    have fin : ∀ τ, EqP PSh s4 τ → Inv τ := fun τ h => hI.ly (hE4.tr (h.mo (fun r k h => by omega))) ⟨0, by omega, by rw [h.i _ _ (by omega)]; exact k61, by rw [h.i _ _ (by omega)]; exact k62, fun j hj => by omega⟩
    by_cases h1 : 0 ≤ a ∧ a < gi ld 2 0
    · refine wp_b1 (x_isPlaceM hok hM4 _) h1 (wp_f (by decide) ?_)
      by_cases h2 : 0 ≤ b ∧ b < gi ld 2 0
      · refine wp_b1 (x_isPlaceM hok hM4 _) h2 (wp_f (by decide) ?_)
        have hls := (x_layShortestM hok hM4 (p0 := a.toNat) (to := b.toNat) (by omega) (by omega)).2 (fun z => hc ⟨h1.1, h1.2, h2.1, h2.2, z⟩)
        rw [show ((a.toNat : Nat) : Int) = a by omega, show ((b.toNat : Nat) : Int) = b by omega] at hls
        refine wp_call hls ?_
        rintro r6 s6 ⟨rfl, h67, hE6⟩
        exact wp_f (by decide) (wp_some ⟨rfl, fin _ hE6⟩)
      · exact wp_b0 (x_isPlaceM hok hM4 _) h2 (wp_t rfl (wp_some ⟨rfl, fin _ (EqP.rf _ _)⟩))
    · exact wp_b0 (x_isPlaceM hok hM4 _) h1 (wp_t rfl (wp_some ⟨rfl, fin _ (EqP.rf _ _)⟩))
