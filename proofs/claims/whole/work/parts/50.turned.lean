/-! turned -/
noncomputable def olP (ld : SS) (tp : Nat → Int) (a b m : Nat) : Int := lenP (opn ld tp a b 200 (begP ld m))
noncomputable def tnP (ld : SS) (tp : Nat → Int) (t : Nat × Nat × Nat) : Bool := decide (olP ld tp t.1 t.2.1 t.2.2 = olP ld tp t.2.1 t.1 t.2.2)
def lt3 (t : Nat × Nat × Nat) : Bool := decide (t.1 < t.2.1)
def nst (S M : Nat) : List (Nat × Nat × Nat) := (List.range' 0 S).flatMap fun a => (List.range' (a + 1) (S - (a + 1))).flatMap fun b => (List.range' 0 M).map fun m => (a, b, m)
def cpN (S M : Nat) (t : Nat × Nat × Nat) : Bool := decide (t.1 < S) && decide (t.2.1 < S) && decide (t.1 ≠ t.2.1) && decide (t.2.2 < M)
theorem nst_all : ∀ S, S < 7 → ∀ M, M < 7 → (TRp.filter (cpN S M)).filter lt3 = nst S M := by decide +kernel
theorem cps_N {ld : SS} (hok : LdOK ld) : cps ld = TRp.filter (cpN (gi ld 2 9).toNat (gi ld 2 12).toNat) := by
  have s6 := hok.2.2.1
  have m6 := hok.2.2.2.1
  unfold cps
  congr 1
  funext t
  unfold cpB cpN
  have e1 : ∀ n : Nat, decide ((n : Int) < gi ld 2 9) = decide (n < (gi ld 2 9).toNat) := fun n => by congr 1; apply propext; omega
  have e2 : ∀ n : Nat, decide ((n : Int) < gi ld 2 12) = decide (n < (gi ld 2 12).toNat) := fun n => by congr 1; apply propext; omega
  rw [e1, e1, e2]
theorem fold_filt {α β : Type} (P : α → Bool) (g : α → β → β) : ∀ (l : List α) (s : β), l.foldl (fun s t => if P t = true then g t s else s) s = (l.filter P).foldl (fun s t => g t s) s := by
  intro l s
  have := fold_if (fun t : α => t) P g l s
  rw [List.map_id'] at this
  exact this
theorem x_openC {ld σ : SS} (hok : LdOK ld) (hL : LC ld σ) {tp : Nat → Int} (htp : ∀ j, j < 12 → gi σ 47 j = tp j) {a b m : Nat} (hc : CPL ld a b m) {code : Int} (hcode : code = 100 * (a : Int) + 10 * (b : Int) + (m : Int)) : Wp (f_Fi_openLength code σ) fun r τ => r = olP ld tp a b m ∧ EqP (PTk 76) σ τ := by
  unfold f_Fi_openLength
  refine wp_call (x_begin (t := 76) hok hL (by omega) hc hcode) ?_
  rintro _ s3 ⟨hT3, hE3⟩
  refine wp_call (x_talkOpenly (N := 200) (u := 47) (tp := tp) hok (hL.of hE3 (fun r k z => by omega)) (by omega) (by omega) rfl rfl (fun j hj => by rw [hE3.i _ _ (by omega)]; exact htp j hj) hc hT3 (begP_ok hok hc.2.2.2.1).1 (by omega)) ?_
  rintro r7 s7 ⟨_, hr7, hE7⟩
  exact wp_some ⟨hr7, hE3.tr hE7⟩
theorem y_turned : MP f_Qu_turned f_Mo_turned := by
  rintro σ ⟨ld, bk, hok, hL, hM, hEA, hRO, hLY, hRP, hTA⟩
  have hI : Inv σ := ⟨ld, bk, hok, hL, hM, hEA, hRO, hLY, hRP, hTA⟩
  have s6 := hok.2.2.1
  have m6 := hok.2.2.2.1
  have hTp : TPM ld σ bk (gi σ 47) := tpm_ea hEA hTA
  unfold f_Qu_turned f_Mo_turned f_Fi_countTurned
  refine wp_ob ?_
  refine loopN (β := Int) 600 (fun fu c st s => l_Fi_countTurned_4 fu st c s) (fun c st => if cpB ld (dC c) = true then (if lt3 (dC c) = true then cnt (tnP ld (gi σ 47)) (dC c) st else st) else st) (fun _ st s => rI st ∧ EqP PMe σ s) _ ?_ 600 0 FU 0 σ (by omega) (by unfold FU; omega) ⟨by unfold rI; omega, EqP.rf _ _⟩ ?_
  · rintro fu c st s hc ⟨hr, hE⟩ hk
    have hi : iw ((c : Int) + 1) = ((c + 1 : Nat) : Int) := by rw [iwc (by omega) (by omega)]; omega
    have hLs := hL.of hE (fun r k z => by omega)
    show Wp (l_Fi_countTurned_4 (fu + 1) st (c : Int) s) _
    rw [l_Fi_countTurned_4]
    refine wp_f (by omega) (wp_ol (wp_ol (wp_ol ?_)))
    have ea : Int.tdiv (c : Int) 100 = ((c / 100 : Nat) : Int) := by rw [tdn _ (by omega)]; omega
    have eb : Int.tmod (Int.tdiv (c : Int) 10) 10 = ((c / 10 % 10 : Nat) : Int) := by rw [tdn _ (by omega), tmn _ (by omega)]; omega
    have em : Int.tmod (c : Int) 10 = ((c % 10 : Nat) : Int) := by rw [tmn _ (by omega)]; omega
    rw [ea, eb, em, hi]
    by_cases hlt : lt3 (dC c) = true
    · have hlt2 : c / 100 < c / 10 % 10 := by unfold lt3 dC at hlt; simpa using hlt
      refine wp_f (by omega) ?_
      by_cases hcp : cpB ld (dC c) = true
      · refine wp_b1 (x_isCoupleC hok hLs c hc) hcp (wp_f (by decide) ?_)
        rw [if_pos hcp, if_pos hlt] at hk
        have hC := (cpB_iff hok _ _ _).mp hcp
        have hC2 : CPL ld (c / 10 % 10) (c / 100) (c % 10) := by unfold CPL at hC ⊢; omega
        have hcode : (c : Int) = 100 * ((c / 100 : Nat) : Int) + 10 * ((c / 10 % 10 : Nat) : Int) + ((c % 10 : Nat) : Int) := by omega
        refine wp_call (x_openC (tp := gi σ 47) hok hLs (fun j hj => by rw [hE.i _ _ (by omega)]) hC hcode) ?_
        rintro r9 s9 ⟨hr9, hE9⟩
        have hL9 := hLs.of hE9 (fun r k z => by omega)
        refine wp_eq ((x_couple hok hL9 _ _ _).1 (by unfold CPL at hC2; unfold cplB; omega)) ?_
        refine wp_call (x_openC (tp := gi σ 47) hok hL9 (fun j hj => by rw [hE9.i _ _ (by omega), hE.i _ _ (by omega)]) hC2 rfl) ?_
        rintro r12 s12 ⟨hr12, hE12⟩
        have hE012 : EqP PMe σ s12 := (hE.tr (hE9.mo (fun r k h => by omega))).tr (hE12.mo (fun r k h => by omega))
        have hkk := hk s12 ⟨rI_cnt hr, hE012⟩
        unfold cnt tnP at hkk
        by_cases hd : olP ld (gi σ 47) (dC c).1 (dC c).2.1 (dC c).2.2 = olP ld (gi σ 47) (dC c).2.1 (dC c).1 (dC c).2.2
        · rw [decide_eq_true hd, if_pos rfl] at hkk
          exact wp_t (by rw [hr9, hr12]; exact hd) hkk
        · rw [decide_eq_false hd, if_neg (by decide)] at hkk
          exact wp_f (by rw [hr9, hr12]; exact hd) hkk
      · refine wp_b0 (x_isCoupleC hok hLs c hc) hcp (wp_t rfl ?_)
        rw [if_neg hcp] at hk
        exact hk s ⟨hr, hE⟩
    · have hlt2 : ¬ c / 100 < c / 10 % 10 := by unfold lt3 dC at hlt; simpa using hlt
      refine wp_t (by omega) ?_
      rw [if_neg hlt] at hk
      have hkk := hk s
      rw [ite_self] at hkk
      exact hkk ⟨hr, hE⟩
  · rintro fu' s ⟨hr, hE⟩
    show Wp (l_Fi_countTurned_4 (fu' + 1) _ ((600 : Nat) : Int) s) _
    rw [l_Fi_countTurned_4]
    refine wp_t (by omega) (wp_some (wp_some ?_))
    rw [foldC hok (fun t st => if lt3 t = true then cnt (tnP ld (gi σ 47)) t st else st) 0, fold_filt, cps_N hok, nst_all _ (by omega) _ (by omega)]
    have hMs := hM.of hE (fun r k z => by omega)
    have hTs := hTp.of hE (fun r k z => by omega)
    unfold nst
    rw [List.foldl_flatMap]
    -- the reference's three loops
    refine loopN (β := Int) (gi ld 2 9).toNat (fun fu c st s => l_Mo_turned_4 fu st c s) (fun a st => ((List.range' (a + 1) ((gi ld 2 9).toNat - (a + 1))).flatMap fun b => (List.range' 0 (gi ld 2 12).toNat).map fun m => (a, b, m)).foldl (fun s t => cnt (tnP ld (gi σ 47)) t s) st) (fun _ st t => rI st ∧ EqP PMs s t) _ ?_ (gi ld 2 9).toNat 0 FU 0 s (by omega) (by unfold FU; omega) ⟨by unfold rI; omega, EqP.rf _ _⟩ ?_
    · rintro fu a st t ha ⟨hr, hE2⟩ hk
      have hMt := hMs.of hE2 (fun r k z => by omega)
      show Wp (l_Mo_turned_4 (fu + 1) st (a : Int) t) _
      rw [l_Mo_turned_4]
      refine wp_eq (x_soulMany hMt) (wp_f (by omega) (wp_ol ?_))
      rw [show iw ((a : Int) + 1) = ((a + 1 : Nat) : Int) by rw [iwc (by omega) (by omega)]; omega]
      rw [List.foldl_flatMap] at hk
      refine loopN (β := Int) (gi ld 2 9).toNat (fun fu2 c st s => l_Mo_turned_16 (l_Mo_turned_4 fu) a fu2 st c s) (fun b st => ((List.range' 0 (gi ld 2 12).toNat).map fun m => (a, b, m)).foldl (fun s t => cnt (tnP ld (gi σ 47)) t s) st) (fun b st t => a + 1 ≤ b ∧ rI st ∧ EqP PMs s t) _ ?_ ((gi ld 2 9).toNat - (a + 1)) (a + 1) FU st t (by omega) (by unfold FU; omega) ⟨by omega, hr, hE2⟩ ?_
      · rintro fu2 b st2 t2 hb ⟨hab, hr2, hE3⟩ hk2
        have hMt2 := hMs.of hE3 (fun r k z => by omega)
        show Wp (l_Mo_turned_16 (l_Mo_turned_4 fu) a (fu2 + 1) st2 (b : Int) t2) _
        rw [l_Mo_turned_16]
        refine wp_eq (x_soulMany hMt2) (wp_f (by omega) ?_)
        rw [List.foldl_map] at hk2
        refine loopN (β := Int) (gi ld 2 12).toNat (fun fu3 c st s => l_Mo_turned_27 (l_Mo_turned_4 fu) (l_Mo_turned_16 (l_Mo_turned_4 fu) a fu2) a b fu3 st c s) (fun m st => cnt (tnP ld (gi σ 47)) (a, b, m) st) (fun _ st t => rI st ∧ EqP PMs s t) _ ?_ (gi ld 2 12).toNat 0 FU st2 t2 (by omega) (by unfold FU; omega) ⟨hr2, hE3⟩ ?_
        · rintro fu3 m st3 t3 hm ⟨hr3, hE4⟩ hk3
          have hM3 := hMs.of hE4 (fun r k z => by omega)
          have hT3 := hTs.of hE4 (fun r k z => by omega)
          have hb0 := hM3.1
          show Wp (l_Mo_turned_27 (l_Mo_turned_4 fu) (l_Mo_turned_16 (l_Mo_turned_4 fu) a fu2) a b (fu3 + 1) st3 (m : Int) t3) _
          rw [l_Mo_turned_27, hM3.2.1, Int.toNat_natCast, hM3.2.2.1.2.2.2.1]
          refine wp_oc (by omega) (wp_f (by omega) ?_)
          have hC : CPL ld a b m := by unfold CPL; omega
          have hC2 : CPL ld b a m := by unfold CPL; omega
          refine wp_call (x_openLengthM hok hM3 hT3 hC) ?_
          rintro r4 s4 ⟨hr4, hE5⟩
          refine wp_call (x_openLengthM hok (hM3.of hE5 (fun r k z => by omega)) (hT3.of hE5 (fun r k z => by omega)) hC2) ?_
          rintro r5 s5 ⟨hr5, hE6⟩
          have hE06 : EqP PMs s s5 := (hE4.tr (hE5.mo (fun r k h => by omega))).tr (hE6.mo (fun r k h => by omega))
          rw [show iw ((m : Int) + 1) = ((m + 1 : Nat) : Int) by rw [iwc (by omega) (by omega)]; omega, Int.add_zero, iw_id hr3]
          have hkk := hk3 s5 ⟨rI_cnt hr3, hE06⟩
          unfold cnt tnP at hkk
          by_cases hd : olP ld (gi σ 47) a b m = olP ld (gi σ 47) b a m
          · rw [decide_eq_true hd, if_pos rfl] at hkk
            exact wp_t (by rw [hr4, hr5]; exact hd) (wp_ol hkk)
          · rw [decide_eq_false hd, if_neg (by decide)] at hkk
            exact wp_f (by rw [hr4, hr5]; exact hd) (wp_ol hkk)
        · rintro fu3 t3 ⟨hr3, hE4⟩
          have hM3 := hMs.of hE4 (fun r k z => by omega)
          have hb0 := hM3.1
          show Wp (l_Mo_turned_27 (l_Mo_turned_4 fu) (l_Mo_turned_16 (l_Mo_turned_4 fu) a fu2) a b (fu3 + 1) _ (((gi ld 2 12).toNat : Nat) : Int) t3) _
          rw [l_Mo_turned_27, hM3.2.1, Int.toNat_natCast, hM3.2.2.1.2.2.2.1]
          refine wp_oc (by omega) (wp_t (by omega) ?_)
          rw [show iw ((b : Int) + 1) = ((b + 1 : Nat) : Int) by rw [iwc (by omega) (by omega)]; omega]
          exact hk2 t3 ⟨by omega, hr3, hE4⟩
      · rintro fu2 t2 ⟨_, hr2, hE3⟩
        show Wp (l_Mo_turned_16 (l_Mo_turned_4 fu) a (fu2 + 1) _ (((gi ld 2 9).toNat : Nat) : Int) t2) _
        rw [l_Mo_turned_16]
        refine wp_eq (x_soulMany (hMs.of hE3 (fun r k z => by omega))) (wp_t (by omega) ?_)
        rw [show iw ((a : Int) + 1) = ((a + 1 : Nat) : Int) by rw [iwc (by omega) (by omega)]; omega]
        exact hk t2 ⟨hr2, hE3⟩
    · rintro fu2 t ⟨hr2, hE2⟩
      show Wp (l_Mo_turned_4 (fu2 + 1) _ (((gi ld 2 9).toNat : Nat) : Int) t) _
      rw [l_Mo_turned_4]
      exact wp_eq (x_soulMany (hMs.of hE2 (fun r k z => by omega))) (wp_t (by omega) (wp_some ⟨rfl, hI.sc ((hE.mo (fun r k h => by omega)).tr (hE2.mo (fun r k h => by omega)))⟩))
