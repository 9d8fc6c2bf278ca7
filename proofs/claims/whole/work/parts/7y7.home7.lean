/-! home: the reference's rows, and the pair -/
def HM (σ : SS) (s : HS) : Prop := (s.1 = 0 ↔ s.2 = none) ∧ match s.2 with
  | none => gi σ 86 62 = 0
  | some l => gi σ 86 62 = (l.length : Int) ∧ ∀ i (h : i < l.length), gi σ 122 i = (l[i] : Int)
theorem HM.of {P : Nat → Nat → Prop} {σ τ : SS} {s : HS} (h : HM σ s) (he : EqP P σ τ) (hp : ∀ r k, P r k → ¬ (r = 86 ∧ k = 62) ∧ r ≠ 122) : HM τ s := by
  obtain ⟨n, o⟩ := s
  obtain ⟨h2, h3⟩ := h
  have e2 : gi τ 86 62 = gi σ 86 62 := he.i _ _ (fun z => (hp _ _ z).1 ⟨rfl, rfl⟩)
  have e3 : ∀ i, gi τ 122 i = gi σ 122 i := fun i => he.i _ _ (fun z => (hp _ _ z).2 rfl)
  refine ⟨h2, ?_⟩
  cases o with
  | none => exact e2.trans h3
  | some l => exact ⟨e2.trans h3.1, fun i hi => (e3 i).trans (h3.2 i hi)⟩
theorem x_h91 {ld : SS} (hok : LdOK ld) {bk W : Nat} (hW : gi ld 2 4 = (W : Int)) {tp : Nat → Int} {a b m c p D N k : Nat} {tt : Int} (hca : c / 36 = a) (hcb : c / 6 % 6 = b) (hcm : c % 6 = m) (hc : CPL ld a b m) (hp : (p : Int) < gi ld 2 0) (htt : 0 ≤ tt) (hk : 1 ≤ k ∧ k ≤ 4) (hN : N = W ^ k) (hN6 : N < 1000000) (self67 : Int → Int → Int → SS → OO) (σ0 : SS) (hM0 : LM ld σ0 bk) (hT0 : TPM ld σ0 bk tp) (Q : Int → SS → Prop) :
    ∀ (r v : Nat) (s : HS) (σ : SS) (fu : Nat), v + r = N → EqP PHm σ0 σ → HM σ s → s.1 + r ≤ 2000000 → r < fu →
    (∀ τ, EqP PHm σ0 τ → HM τ ((((List.range' v r).filter fun v => okH ld tp a b tt (digL W k v) p (begP ld m)).map (digL W k)).foldl rstep s) → Wp (self67 (((((List.range' v r).filter fun v => okH ld tp a b tt (digL W k v) p (begP ld m)).map (digL W k)).foldl rstep s).1 : Nat) N ((k + 1 : Nat) : Int) τ) Q) →
    Wp (l_Mo_home_91 self67 p tt D c N k fu (s.1 : Nat) v σ) Q := by
  have l4 := hok.2.1
  intro r
  induction r with
  | zero =>
    intro v s σ fu hv hE hH hs hfu hQ
    obtain ⟨fu, rfl⟩ : ∃ f, fu = f + 1 := ⟨fu - 1, by omega⟩
    rw [l_Mo_home_91]
    refine wp_t (by omega) ?_
    rw [show iw ((k : Int) + 1) = ((k + 1 : Nat) : Int) by rw [iwc (by omega) (by omega)]; omega]
    exact hQ σ hE hH
  | succ r ih =>
    intro v s σ fu hv hE hH hs hfu hQ
    obtain ⟨fu, rfl⟩ : ∃ f, fu = f + 1 := ⟨fu - 1, by omega⟩
    have hvN : v < W ^ k := by omega
    have hW1 : 1 ≤ W ∧ W ≤ 14 := by
      refine ⟨?_, by omega⟩
      by_cases h : W = 0
      · rw [h, Nat.zero_pow (by omega)] at hvN; omega
      · omega
    have hM := hM0.of hE (fun r k z => by omega)
    have hT := hT0.of hE (fun r k z => by omega)
    rw [List.range'_succ, List.filter_cons] at hQ
    rw [l_Mo_home_91]
    refine wp_f (by omega) ?_
    refine wp_call (x_doesLead hok hW hW1 hk hvN (by omega) (tt := tt) hM) ?_
    rintro r2 s2 ⟨hr2, h7, hE2⟩
    have hE02 : EqP PHm σ0 s2 := hE.tr (hE2.mo (fun r k z => by omega))
    have hH2 : HM s2 s := hH.of hE2 (fun r k z => by omega)
    have hv1 : iw ((v : Int) + 1) = ((v + 1 : Nat) : Int) := by rw [iwc (by omega) (by omega)]; omega
    have hlen := digL_len W k v
    rw [hv1]
    by_cases hlead : leadE ld (digL W k v) p = tt
    · rw [if_pos hlead] at hr2
      refine wp_f (by omega) ?_
      refine wp_call (x_endsJustH hok hW (tp := tp) hca hcb hcm hc (k := k) hp hlen hk (digL_lt hW1.1 k v hvN) htt hlead (hM0.of hE02 (fun r k z => by omega)) (hT0.of hE02 (fun r k z => by omega)) h7) ?_
      rintro r4 s4 ⟨hr4, hE4⟩
      have hE04 : EqP PHm σ0 s4 := hE02.tr (hE4.mo (fun r k z => by omega))
      have hH4 : HM s4 s := hH2.of hE4 (fun r k z => by omega)
      by_cases hj : okH ld tp a b tt (digL W k v) p (begP ld m) = true
      · rw [if_pos hj] at hr4 hQ
        rw [List.map_cons, List.foldl_cons] at hQ
        refine wp_f (by omega) ?_
        rw [show iw (((s.1 : Nat) : Int) + 1) = (((rstep s (digL W k v)).1 : Nat) : Int) by rw [iwc (by omega) (by omega)]; show _ = ((s.1 + 1 : Nat) : Int); omega]
        have hst : (rstep s (digL W k v)).1 = s.1 + 1 := rfl
        by_cases h1 : s.1 = 0
        · refine wp_t (by omega) ?_
          have hs2 : s.2 = none := hH.1.mp h1
          have hrs : (rstep s (digL W k v)).2 = some (digL W k v) := by show fstH s.2 _ = _; rw [hs2]; rfl
          have z := cp_loop (fun f i t => l_Mo_home_144 self67 (l_Mo_home_91 self67 p tt D c N k fu) p tt D c ((rstep s (digL W k v)).1 : Nat) N k v f i t) (fun t => l_Mo_home_91 self67 p tt D c N k fu ((rstep s (digL W k v)).1 : Nat) ((v + 1 : Nat) : Int) (si t 86 62 k)) 122 127 k 0 0 (by omega) (fun _ => True) (fun _ _ _ _ => trivial) (fun f i t _ hi => by
            show l_Mo_home_144 _ _ _ _ _ _ _ _ _ _ (f + 1) (i : Int) t = _
            rw [l_Mo_home_144, if_neg (by omega), oc_pos (by omega), oc_pos (by omega), os_eq, Int.toNat_natCast, Nat.zero_add, show iw ((i : Int) + 1) = ((i + 1 : Nat) : Int) by rw [iwc (by omega) (by omega)]; omega]) (fun f t _ => by
            show l_Mo_home_144 _ _ _ _ _ _ _ _ _ _ (f + 1) (k : Int) t = _
            rw [l_Mo_home_144, if_pos (by omega), os_eq, hv1]) k 0 FU s4 (by omega) (by unfold FU; omega) trivial
          have z' : l_Mo_home_144 self67 (l_Mo_home_91 self67 p tt D c N k fu) p tt D c ((rstep s (digL W k v)).1 : Nat) N k v FU 0 s4 = _ := z
          rw [z']
          have hE5 : EqP (fun r k => r = 122 ∨ r = 86 ∧ k = 62) s4 (si (sr s4 122 fun j => if 0 + 0 ≤ j ∧ j < 0 + k then gi s4 127 (0 + (j - 0)) else gi s4 122 j) 86 62 (k : Int)) := EqP.si (EqP.sr (EqP.rf _ _) _ _ (fun k => by omega)) _ _ _ (by omega)
          have k62 : gi (si (sr s4 122 fun j => if 0 + 0 ≤ j ∧ j < 0 + k then gi s4 127 (0 + (j - 0)) else gi s4 122 j) 86 62 (k : Int)) 86 62 = k := gi_same _ _ _ _
          have k122 : ∀ i, i < k → gi (si (sr s4 122 fun j => if 0 + 0 ≤ j ∧ j < 0 + k then gi s4 127 (0 + (j - 0)) else gi s4 122 j) 86 62 (k : Int)) 122 i = gi s4 127 i := fun i hi => by
            rw [gi_ne_r _ _ _ _ (show 122 ≠ 86 by omega), gi_sr_same, if_pos (by omega), show 0 + (i - 0) = i by omega]
          generalize si (sr s4 122 fun j => if 0 + 0 ≤ j ∧ j < 0 + k then gi s4 127 (0 + (j - 0)) else gi s4 122 j) 86 62 (k : Int) = s5 at hE5 k62 k122 ⊢
          refine ih (v + 1) (rstep s (digL W k v)) s5 fu (by omega) (hE04.tr (hE5.mo (fun r k z => by omega))) ⟨?_, ?_⟩ (by omega) (by omega) hQ
          · rw [hrs, hst]
            exact ⟨fun z => absurd z (by omega), fun z => nomatch z⟩
          · rw [hrs]
            refine ⟨by rw [k62, hlen], fun i hi => ?_⟩
            rw [k122 i (by omega), hE4.i _ _ (by omega)]
            exact h7 i hi
        · refine wp_f (by omega) ?_
          have hne : s.2 ≠ none := fun z => h1 (hH.1.mpr z)
          obtain ⟨t, ht⟩ : ∃ t, s.2 = some t := by
            cases h : s.2 with
            | none => exact absurd h hne
            | some t => exact ⟨t, rfl⟩
          have hrs : (rstep s (digL W k v)).2 = s.2 := by show fstH s.2 _ = _; rw [ht]; rfl
          refine ih (v + 1) (rstep s (digL W k v)) s4 fu (by omega) hE04 ⟨?_, ?_⟩ (by omega) (by omega) hQ
          · rw [hrs, hst]
            exact ⟨fun z => absurd z (by omega), fun z => absurd z hne⟩
          · rw [hrs]
            exact hH4.2
      · rw [if_neg hj] at hr4 hQ
        exact wp_t (by omega) (ih (v + 1) s s4 fu (by omega) hE04 hH4 (by omega) (by omega) hQ)
    · rw [if_neg hlead] at hr2
      rw [if_neg (fun z => hlead (okH_lead hok _ _ _ z))] at hQ
      exact wp_t (by omega) (ih (v + 1) s s2 fu (by omega) hE02 hH2 (by omega) (by omega) hQ)
theorem x_h67 {ld : SS} (hok : LdOK ld) {bk W : Nat} (hW : gi ld 2 4 = (W : Int)) {tp : Nat → Int} {a b m c p D : Nat} {tt : Int} (hca : c / 36 = a) (hcb : c / 6 % 6 = b) (hcm : c % 6 = m) (hc : CPL ld a b m) (hp : (p : Int) < gi ld 2 0) (htt : 0 ≤ tt) (hD : D ≤ 4) (σ0 : SS) (hM0 : LM ld σ0 bk) (hT0 : TPM ld σ0 bk tp) :
    ∀ (r j : Nat) (σ : SS) (fu : Nat), j + r = D → EqP PHm σ0 σ → HM σ ((catK (fun k => flK ld tp a b W tt k p (begP ld m)) j).foldl rstep (0, none)) → ((catK (fun k => flK ld tp a b W tt k p (begP ld m)) j).foldl rstep (0, none)).1 ≤ 40000 * j → r < fu →
    Wp (l_Mo_home_67 p tt D c fu (((catK (fun k => flK ld tp a b W tt k p (begP ld m)) j).foldl rstep (0, none)).1 : Nat) ((W ^ j : Nat) : Int) ((j + 1 : Nat) : Int) σ) fun v τ => v = (((catK (fun k => flK ld tp a b W tt k p (begP ld m)) D).foldl rstep (0, none)).1 : Nat) ∧ HM τ ((catK (fun k => flK ld tp a b W tt k p (begP ld m)) D).foldl rstep (0, none)) ∧ EqP PHm σ0 τ := by
  have l4 := hok.2.1
  intro r
  induction r with
  | zero =>
    intro j σ fu hj hE hH hb hfu
    obtain ⟨fu, rfl⟩ : ∃ f, fu = f + 1 := ⟨fu - 1, by omega⟩
    obtain rfl : j = D := by omega
    rw [l_Mo_home_67]
    exact wp_t (by omega) (wp_some ⟨rfl, hH, hE⟩)
  | succ r ih =>
    intro j σ fu hj hE hH hb hfu
    obtain ⟨fu, rfl⟩ : ∃ f, fu = f + 1 := ⟨fu - 1, by omega⟩
    have hM := hM0.of hE (fun r k z => by omega)
    have hbk := hM.1
    have h86 : gi σ 86 40 = bk := hM.2.1
    have h90 : gi σ 90 bk = W := by rw [← hW]; exact hM.2.2.1.2.1
    have hpw : W ^ (j + 1) ≤ 38416 := by
      have e1 : W ^ (j + 1) ≤ 14 ^ (j + 1) := Nat.pow_le_pow_left (by omega) _
      have e2 : 14 ^ (j + 1) ≤ 14 ^ 4 := Nat.pow_le_pow_right (by omega) (by omega)
      have e3 : 14 ^ 4 = 38416 := by decide
      omega
    rw [l_Mo_home_67]
    refine wp_f (by omega) (wp_oc (by omega) (wp_ol ?_))
    rw [h86, Int.toNat_natCast, h90]
    have hmul : ((W ^ j : Nat) : Int) * (W : Int) = ((W ^ (j + 1) : Nat) : Int) := by rw [Nat.pow_succ, Int.natCast_mul]
    rw [hmul, iwc (x := ((W ^ (j + 1) : Nat) : Int)) (by omega) (by omega)]
    generalize hst : (catK (fun k => flK ld tp a b W tt k p (begP ld m)) j).foldl rstep (0, none) = st at hH hb ⊢
    have hnext : (catK (fun k => flK ld tp a b W tt k p (begP ld m)) (j + 1)).foldl rstep (0, none) = (((List.range' 0 (W ^ (j + 1))).filter fun v => okH ld tp a b tt (digL W (j + 1) v) p (begP ld m)).map (digL W (j + 1))).foldl rstep st := by
      rw [catK, List.foldl_append, hst, flK_dig, List.range_eq_range']
    have hcount : ((catK (fun k => flK ld tp a b W tt k p (begP ld m)) (j + 1)).foldl rstep (0, none)).1 ≤ 40000 * (j + 1) := by
      rw [hnext, fold_rstep, List.length_map]
      have := List.length_filter_le (fun v => okH ld tp a b tt (digL W (j + 1) v) p (begP ld m)) (List.range' 0 (W ^ (j + 1)))
      rw [List.length_range'] at this
      show st.1 + _ ≤ _
      omega
    have z := ih (j + 1)
    rw [hnext] at z hcount
    refine x_h91 hok hW (tp := tp) (k := j + 1) hca hcb hcm hc hp htt (by omega) rfl (by omega) (l_Mo_home_67 p tt D c fu) σ0 hM0 hT0 _ (W ^ (j + 1)) 0 st σ FU (by omega) hE hH (by omega) (by unfold FU; omega) ?_
    intro τ u1 u2
    exact z τ fu (by omega) u1 u2 hcount (by omega)
