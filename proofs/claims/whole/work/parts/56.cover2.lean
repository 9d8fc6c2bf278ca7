/-! cover: the class -/
def cdT (t : T3) : Int := 100 * (t.1 : Int) + 10 * (t.2.1 : Int) + (t.2.2 : Int)
def LYC (σ : SS) (l : List T3) : Prop := gi σ 61 5 = l.length ∧ ∀ i (h : i < l.length), gi σ 65 i = cdT l[i]
theorem LYC_lay {σ : SS} {l : List T3} (h : LYC σ l) (hl : l.length < 12) (t : T3) : ∃ τ, f_Fi_lay (cdT t) σ = some (0, τ) ∧ LYC τ (l ++ [t]) ∧ EqP (fun r k => r = 61 ∧ k = 5 ∨ r = 65) σ τ := by
  refine ⟨_, x_lay h.1 hl _, ⟨?_, fun i hi => ?_⟩, ?_⟩
  · rw [List.length_append]; simp (disch := omega) only [gi_same, gi_ne_r, gi_ne_k, gi_sr_same, gi_sr_ne, gj_sj_same, gj_sj_ne_r, gj_sj_ne_k, gj_si, gi_sj, gj_sr, iwc, jwc, Int.toNat_natCast, tdn, tmn, b0, b1, yc0, yc1]; rfl
  · rw [List.length_append] at hi
    simp only [List.length_cons, List.length_nil] at hi
    by_cases hil : i = l.length
    · subst hil
      rw [List.getElem_append_right (Nat.le_refl _)]
      simp (disch := omega) only [gi_same, gi_ne_r, gi_ne_k, gi_sr_same, gi_sr_ne, gj_sj_same, gj_sj_ne_r, gj_sj_ne_k, gj_si, gi_sj, gj_sr, iwc, jwc, Int.toNat_natCast, tdn, tmn, b0, b1, yc0, yc1]
      simp
    · rw [List.getElem_append_left (by omega)]
      simp (disch := omega) only [gi_same, gi_ne_r, gi_ne_k, gi_sr_same, gi_sr_ne, gj_sj_same, gj_sj_ne_r, gj_sj_ne_k, gj_si, gi_sj, gj_sr, iwc, jwc, Int.toNat_natCast, tdn, tmn, b0, b1, yc0, yc1]
      exact h.2 i (by omega)
  · repeat (first | exact EqP.rf _ _ | (refine EqP.si ?_ _ _ _ (by omega)) | (refine EqP.sj ?_ _ _ _ (by omega)) | (refine EqP.sr ?_ _ _ (fun k => by omega)))
def EAr (σ : SS) (e : T3 → Int) (L : List T3) : Prop := gi σ 61 9 = L.length ∧ ∀ i (h : i < L.length), gi σ 67 i = cdT L[i] ∧ gi σ 68 i = e L[i]
theorem EAr.of {P : Nat → Nat → Prop} {σ τ : SS} {e : T3 → Int} {L : List T3} (h : EAr σ e L) (he : EqP P σ τ) (hp : ∀ r k, (r = 61 ∧ k = 9 ∨ r = 67 ∨ r = 68) → ¬ P r k) : EAr τ e L := ⟨by rw [he.i _ _ (hp _ _ (by omega))]; exact h.1, fun i hi => by rw [he.i _ _ (hp _ _ (by omega)), he.i _ _ (hp _ _ (by omega))]; exact h.2 i hi⟩
theorem x_first (e : T3 → Int) (L : List T3) (hL180 : L.length ≤ 180) (full x : Int) (σ : SS) (hA : EAr σ e L) :
    ∀ (r i fu : Nat), i + r = L.length → r < fu → (s1 e full x (L.drop i) = none ∧ l_Fi_firstCovering_19 x full fu i σ = some (-1, σ)) ∨ ∃ (j : Nat) (h : j < L.length), i ≤ j ∧ s1 e full x (L.drop i) = some L[j] ∧ l_Fi_firstCovering_19 x full fu i σ = some ((j : Int), σ) := by
  intro r
  induction r with
  | zero =>
    intro i fu hi hfu
    obtain ⟨fu, rfl⟩ : ∃ f, fu = f + 1 := ⟨fu - 1, by omega⟩
    left
    rw [l_Fi_firstCovering_19, hA.1, if_pos (by omega), List.drop_eq_nil_of_le (by omega)]
    exact ⟨rfl, rfl⟩
  | succ r ih =>
    intro i fu hi hfu
    obtain ⟨fu, rfl⟩ : ∃ f, fu = f + 1 := ⟨fu - 1, by omega⟩
    have hil : i < L.length := by omega
    obtain ⟨a1, a2⟩ := hA.2 i hil
    have hd : s1 e full x (L.drop i) = if zor x (e L[i]) = full then some L[i] else s1 e full x (L.drop (i + 1)) := by
      rw [List.drop_eq_getElem_cons hil]
      unfold s1
      rw [List.find?_cons]
      by_cases hz : zor x (e L[i]) = full
      · rw [if_pos hz, decide_eq_true hz]
      · rw [if_neg hz, decide_eq_false hz]
    rw [l_Fi_firstCovering_19, hA.1, if_neg (by omega), if_neg (by omega), oc_pos (by omega), Int.toNat_natCast, a2, hd]
    by_cases hz : zor x (e L[i]) = full
    · rw [if_pos hz, if_pos hz]
      exact Or.inr ⟨i, hil, Nat.le_refl _, rfl, rfl⟩
    · rw [if_neg hz, if_neg hz, show iw ((i : Int) + 1) = ((i + 1 : Nat) : Int) by rw [iwc (by omega) (by omega)]; omega]
      rcases ih (i + 1) fu (by omega) (by omega) with h | ⟨j, h1, h2, h3⟩
      · exact Or.inl h
      · exact Or.inr ⟨j, h1, by omega, h3⟩
noncomputable def fuL (ld : SS) : Int := iw (zshl 1 (gi ld 2 4) - 1)
theorem x_firstC {ld : SS} (hok : LdOK ld) (e : T3 → Int) (L : List T3) (hL180 : L.length ≤ 180) (x : Int) (σ : SS) (hL : LC ld σ) (hA : EAr σ e L) (i : Nat) (hi : i ≤ L.length) : (s1 e (fuL ld) x (L.drop i) = none ∧ f_Fi_firstCovering i x σ = some (-1, σ)) ∨ ∃ (j : Nat) (h : j < L.length), i ≤ j ∧ s1 e (fuL ld) x (L.drop i) = some L[j] ∧ f_Fi_firstCovering i x σ = some ((j : Int), σ) := by
  have h := x_first e L hL180 (fuL ld) x σ hA (L.length - i) i FU (by omega) (by unfold FU; omega)
  unfold f_Fi_firstCovering
  rw [ol_eq, ol_eq, hL 2 4 (by omega) (by omega) (by omega), show zmax 0 (i : Int) = i by unfold zmax; split <;> omega]
  exact h
abbrev PLa : Nat → Nat → Prop := fun r k => r = 61 ∧ k = 5 ∨ r = 65
theorem x_cover1 {ld : SS} (hok : LdOK ld) (e : T3 → Int) (L : List T3) (hL180 : L.length ≤ 180) (σ : SS) (hL : LC ld σ) (hA : EAr σ e L) (hY : LYC σ []) : Wp (f_Fi_coverByOne σ) fun v τ => EqP PLa σ τ ∧ ((s1 e (fuL ld) 0 L = none ∧ v = 0 ∧ LYC τ []) ∨ ∃ a, s1 e (fuL ld) 0 L = some a ∧ v = 1 ∧ LYC τ [a]) := by
  unfold f_Fi_coverByOne
  rcases x_firstC hok e L hL180 0 σ hL hA 0 (by omega) with ⟨h1, h2⟩ | ⟨j, h1, h2, h3, h4⟩
  · exact wp_eq h2 (wp_t rfl (wp_some ⟨EqP.rf _ _, Or.inl ⟨h1, rfl, hY⟩⟩))
  · refine wp_eq h4 (wp_f (by omega) (wp_oc (by omega) ?_))
    rw [Int.toNat_natCast, (hA.2 j h1).1]
    obtain ⟨τ, k1, k2, k3⟩ := LYC_lay hY (by simp) L[j]
    exact wp_eq k1 (wp_some ⟨k3, Or.inr ⟨L[j], h3, rfl, k2⟩⟩)
theorem x_cover2 {ld : SS} (hok : LdOK ld) (e : T3 → Int) (L : List T3) (hL180 : L.length ≤ 180) (σ : SS) (hL : LC ld σ) (hA : EAr σ e L) (hY : LYC σ []) :
    ∀ (r i fu : Nat), i + r = L.length → r < fu → Wp (l_Fi_coverByTwo_2 fu i σ) fun v τ => EqP PLa σ τ ∧ ((t2 e (fuL ld) (L.drop i) = none ∧ v = 0 ∧ LYC τ []) ∨ ∃ a b, t2 e (fuL ld) (L.drop i) = some (a, b) ∧ v = 1 ∧ LYC τ [a, b]) := by
  intro r
  induction r with
  | zero =>
    intro i fu hi hfu
    obtain ⟨fu, rfl⟩ : ∃ f, fu = f + 1 := ⟨fu - 1, by omega⟩
    rw [l_Fi_coverByTwo_2, List.drop_eq_nil_of_le (show L.length ≤ i by omega)]
    exact wp_t (by rw [hA.1]; omega) (wp_some ⟨EqP.rf _ _, Or.inl ⟨rfl, rfl, hY⟩⟩)
  | succ r ih =>
    intro i fu hi hfu
    obtain ⟨fu, rfl⟩ : ∃ f, fu = f + 1 := ⟨fu - 1, by omega⟩
    have hil : i < L.length := by omega
    obtain ⟨a1, a2⟩ := hA.2 i hil
    rw [l_Fi_coverByTwo_2, List.drop_eq_getElem_cons hil, t2]
    refine wp_f (by rw [hA.1]; omega) (wp_f (by omega) (wp_oc (by omega) ?_))
    rw [Int.toNat_natCast, a2, show iw ((i : Int) + 1) = ((i + 1 : Nat) : Int) by rw [iwc (by omega) (by omega)]; omega]
    rcases x_firstC hok e L hL180 (e L[i]) σ hL hA (i + 1) (by omega) with ⟨h1, h2⟩ | ⟨j, h1, h2, h3, h4⟩
    · rw [h1]
      exact wp_eq h2 (wp_t rfl (ih (i + 1) fu (by omega) (by omega)))
    · rw [h3]
      refine wp_eq h4 (wp_f (by omega) (wp_oc (by omega) ?_))
      rw [a1]
      obtain ⟨τ1, k1, k2, k3⟩ := LYC_lay hY (by simp) L[i]
      refine wp_eq k1 (wp_oc (by omega) ?_)
      rw [Int.toNat_natCast, k3.i 67 j (by omega), (hA.2 j h1).1]
      obtain ⟨τ2, m1, m2, m3⟩ := LYC_lay k2 (by simp) L[j]
      exact wp_eq m1 (wp_some ⟨k3.tr m3, Or.inr ⟨L[i], L[j], rfl, rfl, m2⟩⟩)
theorem x_cover3 {ld : SS} (hok : LdOK ld) (e : T3 → Int) (L : List T3) (hL180 : L.length ≤ 180) (σ : SS) (hL : LC ld σ) (hA : EAr σ e L) (hY : LYC σ []) :
    ∀ (r i fu : Nat), i + r = L.length → r < fu → Wp (l_Fi_coverByThree_2 fu i σ) fun v τ => EqP PLa σ τ ∧ ((t3 e (fuL ld) (L.drop i) = none ∧ v = 0 ∧ LYC τ []) ∨ ∃ a b c, t3 e (fuL ld) (L.drop i) = some (a, b, c) ∧ v = 1 ∧ LYC τ [a, b, c]) := by
  intro r
  induction r with
  | zero =>
    intro i fu hi hfu
    obtain ⟨fu, rfl⟩ : ∃ f, fu = f + 1 := ⟨fu - 1, by omega⟩
    rw [l_Fi_coverByThree_2, List.drop_eq_nil_of_le (show L.length ≤ i by omega)]
    exact wp_t (by rw [hA.1]; omega) (wp_some ⟨EqP.rf _ _, Or.inl ⟨rfl, rfl, hY⟩⟩)
  | succ r ih =>
    intro i fu hi hfu
    obtain ⟨fu, rfl⟩ : ∃ f, fu = f + 1 := ⟨fu - 1, by omega⟩
    have hil : i < L.length := by omega
    obtain ⟨a1, a2⟩ := hA.2 i hil
    have hi1 : iw ((i : Int) + 1) = ((i + 1 : Nat) : Int) := by rw [iwc (by omega) (by omega)]; omega
    rw [l_Fi_coverByThree_2]
    refine wp_f (by rw [hA.1]; omega) (wp_f (by omega) (wp_ol ?_))
    rw [hi1]
    have inner : ∀ (r2 j fu2 : Nat), j + r2 = L.length → r2 < fu2 → (s2 e (fuL ld) (e L[i]) (L.drop (i + 1)) = s2 e (fuL ld) (e L[i]) (L.drop j)) → Wp (l_Fi_coverByThree_21 (l_Fi_coverByThree_2 fu) i fu2 j σ) fun v τ => EqP PLa σ τ ∧ ((t3 e (fuL ld) (L.drop i) = none ∧ v = 0 ∧ LYC τ []) ∨ ∃ a b c, t3 e (fuL ld) (L.drop i) = some (a, b, c) ∧ v = 1 ∧ LYC τ [a, b, c]) := by
      intro r2
      induction r2 with
      | zero =>
        intro j fu2 hj hfu2 hs
        obtain ⟨fu2, rfl⟩ : ∃ f, fu2 = f + 1 := ⟨fu2 - 1, by omega⟩
        rw [l_Fi_coverByThree_21]
        refine wp_t (by rw [hA.1]; omega) ?_
        rw [hi1, List.drop_eq_getElem_cons hil, t3, hs, List.drop_eq_nil_of_le (show L.length ≤ j by omega), s2]
        exact ih (i + 1) fu (by omega) (by omega)
      | succ r2 ih2 =>
        intro j fu2 hj hfu2 hs
        obtain ⟨fu2, rfl⟩ : ∃ f, fu2 = f + 1 := ⟨fu2 - 1, by omega⟩
        have hjl : j < L.length := by omega
        obtain ⟨b1, b2⟩ := hA.2 j hjl
        rw [l_Fi_coverByThree_21]
        refine wp_f (by rw [hA.1]; omega) (wp_f (by omega) (wp_oc (by omega) (wp_oc (by omega) ?_)))
        rw [Int.toNat_natCast, Int.toNat_natCast, a2, b2, show iw ((j : Int) + 1) = ((j + 1 : Nat) : Int) by rw [iwc (by omega) (by omega)]; omega]
        rw [List.drop_eq_getElem_cons hjl, s2] at hs
        rcases x_firstC hok e L hL180 (zor (e L[i]) (e L[j])) σ hL hA (j + 1) (by omega) with ⟨h1, h2⟩ | ⟨k, h1, h2, h3, h4⟩
        · rw [h1] at hs
          exact wp_eq h2 (wp_t rfl (ih2 (j + 1) fu2 (by omega) (by omega) hs))
        · rw [h3] at hs
          refine wp_eq h4 (wp_f (by omega) (wp_oc (by omega) ?_))
          rw [a1]
          obtain ⟨τ1, k1, k2, k3⟩ := LYC_lay hY (by simp) L[i]
          refine wp_eq k1 (wp_oc (by omega) ?_)
          rw [k3.i 67 j (by omega), b1]
          obtain ⟨τ2, m1, m2, m3⟩ := LYC_lay k2 (by simp) L[j]
          refine wp_eq m1 (wp_oc (by omega) ?_)
          rw [Int.toNat_natCast, m3.i 67 k (by omega), k3.i 67 k (by omega), (hA.2 k h1).1]
          obtain ⟨τ3, n1, n2, n3⟩ := LYC_lay m2 (by simp) L[k]
          refine wp_eq n1 (wp_some ⟨(k3.tr m3).tr n3, Or.inr ⟨L[i], L[j], L[k], ?_, rfl, n2⟩⟩)
          rw [List.drop_eq_getElem_cons hil, t3, hs]
    exact inner (L.length - (i + 1)) (i + 1) FU (by omega) (by unfold FU; omega) rfl
noncomputable def cvL (e : T3 → Int) (full : Int) (L : List T3) : List T3 := match s1 e full 0 L with
  | some a => [a]
  | none => match t2 e full L with
    | some (a, b) => [a, b]
    | none => match t3 e full L with
      | some (a, b, c) => [a, b, c]
      | none => []
noncomputable def cvV (ld : SS) (l : List T3) : Int := if l = [] then -1 else l.length
theorem x_layCover {ld : SS} (hok : LdOK ld) (e : T3 → Int) (L : List T3) (hL180 : L.length ≤ 180) (σ : SS) (hL : LC ld σ) (hA : EAr σ e L) : Wp (f_Fi_layCover σ) fun v τ => EqP PLa σ τ ∧ ((gi ld 2 4 ≤ 0 ∧ v = 0 ∧ LYC τ []) ∨ (0 < gi ld 2 4 ∧ v = cvV ld (cvL e (fuL ld) L) ∧ LYC τ (cvL e (fuL ld) L))) := by
  unfold f_Fi_layCover
  refine wp_eq (x_layNothing σ) ?_
  have hE1 : EqP PLa σ (si σ 61 5 0) := by repeat (first | exact EqP.rf _ _ | (refine EqP.si ?_ _ _ _ (by omega)) | (refine EqP.sj ?_ _ _ _ (by omega)) | (refine EqP.sr ?_ _ _ (fun k => by omega)))
  have hY1 : LYC (si σ 61 5 0) [] := ⟨gi_same _ _ _ _, fun i hi => absurd hi (Nat.not_lt_zero i)⟩
  generalize si σ 61 5 0 = s1' at hE1 hY1 ⊢
  have hL1 := hL.of hE1 (fun r k z => by omega)
  have hA1 := hA.of hE1 (fun r k z => by omega)
  rw [hL1 2 4 (by omega) (by omega) (by omega)]
  by_cases h0 : 0 < gi ld 2 4
  · refine wp_t h0 ?_
    refine wp_call (x_cover1 hok e L hL180 s1' hL1 hA1 hY1) ?_
    rintro v1 s4 ⟨hE4, h | ⟨a, h1, h2, h3⟩⟩
    · obtain ⟨h1, h2, h3⟩ := h
      refine wp_t h2 ?_
      unfold f_Fi_coverByTwo
      have hE04 := hE1.tr hE4
      refine wp_call (x_cover2 hok e L hL180 s4 (hL.of hE04 (fun r k z => by omega)) (hA.of hE04 (fun r k z => by omega)) h3 L.length 0 FU (by omega) (by unfold FU; omega)) ?_
      rintro v2 s6 ⟨hE6, h | ⟨a, b, k1, k2, k3⟩⟩
      · obtain ⟨k1, k2, k3⟩ := h
        refine wp_t k2 ?_
        unfold f_Fi_coverByThree
        have hE06 := hE04.tr hE6
        refine wp_call (x_cover3 hok e L hL180 s6 (hL.of hE06 (fun r k z => by omega)) (hA.of hE06 (fun r k z => by omega)) k3 L.length 0 FU (by omega) (by unfold FU; omega)) ?_
        rw [List.drop_zero] at k1 ⊢
        rintro v3 s8 ⟨hE8, h | ⟨a, b, c, m1, m2, m3⟩⟩
        · obtain ⟨m1, m2, m3⟩ := h
          refine wp_t m2 (wp_some ⟨hE06.tr hE8, Or.inr ⟨h0, ?_, ?_⟩⟩)
          · unfold cvL; rw [h1, k1, m1]; rfl
          · unfold cvL; rw [h1, k1, m1]; exact m3
        · refine wp_f (by omega) (wp_some ⟨hE06.tr hE8, Or.inr ⟨h0, ?_, ?_⟩⟩)
          · unfold cvL; rw [h1, k1, m1, m3.1]; rfl
          · unfold cvL; rw [h1, k1, m1]; exact m3
      · rw [List.drop_zero] at k1
        refine wp_f (by omega) (wp_some ⟨hE04.tr hE6, Or.inr ⟨h0, ?_, ?_⟩⟩)
        · unfold cvL; rw [h1, k1, k3.1]; rfl
        · unfold cvL; rw [h1, k1]; exact k3
    · refine wp_f (by omega) (wp_some ⟨hE1.tr hE4, Or.inr ⟨h0, ?_, ?_⟩⟩)
      · unfold cvL; rw [h1, h3.1]; rfl
      · unfold cvL; rw [h1]; exact h3
  · exact wp_f h0 (wp_some ⟨hE1, Or.inl ⟨by omega, rfl, hY1⟩⟩)
/-- the endings are looked for -/
abbrev PLk : Nat → Nat → Prop := fun r k => r = 61 ∧ k = 9 ∨ r = 67 ∨ r = 68 ∨ PMe r k
theorem x_endings18 {ld : SS} (hok : LdOK ld) {tp : Nat → Int} (c : Nat) (hc : c < 600) (hcp : cpB ld (dC c) = true) (self7 : Int → SS → OO) (Q : Int → SS → Prop) (σ0 : SS) (hL : LC ld σ0) (htp : ∀ j, j < 12 → gi σ0 47 j = tp j) :
    ∀ (r y fu : Nat) (x : Int) (σ : SS), y + r = (gi ld 2 4).toNat → r < fu → EqP PMe σ0 σ → (∀ τ, EqP PMe σ0 τ → Wp (j_Fi_lookForEndings_66 self7 c ((List.range' y r).foldl (fun x y => enS ld tp (dC c) y x) x) τ) Q) → Wp (l_Fi_lookForEndings_18 self7 c fu x y σ) Q := by
  have l4 := hok.2.1
  intro r
  induction r with
  | zero =>
    intro y fu x σ hy hfu hE hk
    obtain ⟨fu, rfl⟩ : ∃ f, fu = f + 1 := ⟨fu - 1, by omega⟩
    rw [l_Fi_lookForEndings_18]
    refine wp_t (by rw [hE.i _ _ (by omega), hL 2 4 (by omega) (by omega) (by omega)]; omega) ?_
    exact hk σ hE
  | succ r ih =>
    intro y fu x σ hy hfu hE hk
    obtain ⟨fu, rfl⟩ : ∃ f, fu = f + 1 := ⟨fu - 1, by omega⟩
    have hLs := hL.of hE (fun r k z => by omega)
    have hy4 : (y : Int) < gi ld 2 4 := by omega
    have hC := (cpB_iff hok _ _ _).mp hcp
    have hcode : (c : Int) = 100 * ((c / 100 : Nat) : Int) + 10 * ((c / 10 % 10 : Nat) : Int) + ((c % 10 : Nat) : Int) := by omega
    rw [l_Fi_lookForEndings_18]
    refine wp_f (by rw [hLs 2 4 (by omega) (by omega) (by omega)]; omega) ?_
    refine wp_b1 (x_isCoupleC hok hLs c hc) hcp (wp_f (by decide) ?_)
    refine wp_call (x_setPath hok hLs y hy4 0) ?_
    rintro _ s6 ⟨hR6, hP6, hE6⟩
    rw [if_pos rfl, if_pos rfl] at hR6 hP6
    have hE06 : EqP PMe σ0 s6 := hE.tr (hE6.mo (fun r k h => by omega))
    refine wp_call (x_endsJust (tp := tp) hok (hL.of hE06 (fun r k z => by omega)) (fun j hj => by rw [hE06.i _ _ (by omega)]; exact htp j hj) hC hP6 hR6 hcode) ?_
    rintro r7 s7 ⟨hr7, hE7⟩
    have hE07 : EqP PMe σ0 s7 := hE06.tr (hE7.mo (fun r k h => by omega))
    rw [show iw ((y : Int) + 1) = ((y + 1 : Nat) : Int) by rw [iwc (by omega) (by omega)]; omega]
    rw [List.range'_succ, List.foldl_cons] at hk
    by_cases hej : ejP ld tp 1 (fun _ => y) (fun _ => (gi ld 7 y).toNat) (dC c) = true
    · have hr : r7 = 1 := by rw [hr7]; exact if_pos hej
      have hs : enS ld tp (dC c) y x = zor x (zshl 1 y) := if_pos hej
      rw [hs] at hk
      exact wp_f (by omega) (wp_ol (ih (y + 1) fu _ s7 (by omega) (by omega) hE07 hk))
    · have hr : r7 = 0 := by rw [hr7]; exact if_neg hej
      have hs : enS ld tp (dC c) y x = x := if_neg hej
      rw [hs] at hk
      exact wp_t hr (ih (y + 1) fu _ s7 (by omega) (by omega) hE07 hk)
noncomputable def ELf (ld : SS) (tp : Nat → Int) (t : T3) (l : List T3) : List T3 := if nz (enP ld tp) t = true then l ++ [t] else l
theorem EL_fold (ld : SS) (tp : Nat → Int) : ∀ (L acc : List T3), L.foldl (fun s t => ELf ld tp t s) acc = acc ++ L.filter (nz (enP ld tp)) := by
  intro L
  induction L with
  | nil => intro acc; simp
  | cons t L ih =>
    intro acc
    rw [List.foldl_cons, ih]
    unfold ELf
    by_cases h : nz (enP ld tp) t = true
    · rw [if_pos h, List.filter_cons_of_pos h, List.append_assoc]; rfl
    · rw [if_neg h, List.filter_cons_of_neg h]
theorem x_endings {ld : SS} (hok : LdOK ld) {tp : Nat → Int} (σ0 : SS) (hL : LC ld σ0) (htp : ∀ j, j < 12 → gi σ0 47 j = tp j) : Wp (f_Fi_lookForEndings σ0) fun _ τ => EAr τ (enG ld tp) (EL ld tp) ∧ EqP PLk σ0 τ := by
  unfold f_Fi_lookForEndings
  refine wp_os ?_
  have hfin : (cps ld).foldl (fun s t => ELf ld tp t s) [] = EL ld tp := by rw [EL_fold]; rfl
  -- so many are kept at most
  have hlen : ∀ k : Nat, ((List.range' 0 k).foldl (fun s c => if cpB ld (dC c) = true then ELf ld tp (dC c) s else s) ([] : List T3)).length ≤ 180 ∨ 600 < k := by
    intro k
    by_cases hk : 600 < k
    · exact Or.inr hk
    · left
      have mono : ∀ (l : List Nat) (s : List T3), s.length ≤ (l.foldl (fun s c => if cpB ld (dC c) = true then ELf ld tp (dC c) s else s) s).length := by
        intro l
        induction l with
        | nil => intro s; exact Nat.le_refl _
        | cons x l ih =>
          intro s
          refine Nat.le_trans ?_ (ih _)
          dsimp only
          split
          · unfold ELf; split
            · simp
            · exact Nat.le_refl _
          · exact Nat.le_refl _
      have h600 := foldC hok (ELf ld tp) ([] : List T3)
      rw [hfin] at h600
      have hsp : List.range' 0 600 = List.range' 0 k ++ List.range' k (600 - k) := by
        have := List.range'_append (s := 0) (m := k) (n := 600 - k) (step := 1)
        rw [show k + (600 - k) = 600 by omega, Nat.zero_add, Nat.one_mul] at this
        exact this.symm
      rw [hsp, List.foldl_append] at h600
      have h1 := mono (List.range' k (600 - k)) ((List.range' 0 k).foldl (fun s c => if cpB ld (dC c) = true then ELf ld tp (dC c) s else s) ([] : List T3))
      rw [h600] at h1
      exact Nat.le_trans h1 (EL_len hok tp)
  have hE1 : EqP PLk σ0 (si σ0 61 9 0) := by repeat (first | exact EqP.rf _ _ | (refine EqP.si ?_ _ _ _ (by omega)) | (refine EqP.sj ?_ _ _ _ (by omega)) | (refine EqP.sr ?_ _ _ (fun k => by omega)))
  refine loopN (β := List T3) 600 (fun fu c st s => l_Fi_lookForEndings_7 fu c s) (fun c st => if cpB ld (dC c) = true then ELf ld tp (dC c) st else st) (fun c st s => st = (List.range' 0 c).foldl (fun s c => if cpB ld (dC c) = true then ELf ld tp (dC c) s else s) [] ∧ EAr s (enG ld tp) st ∧ EqP PLk σ0 s) _ ?_ 600 0 FU [] (si σ0 61 9 0) (by omega) (by unfold FU; omega) ⟨rfl, ⟨gi_same _ _ _ _, fun i hi => absurd hi (Nat.not_lt_zero i)⟩, hE1⟩ ?_
  · rintro fu c st s hc ⟨hst, hA, hE⟩ hk
    have hi : iw ((c : Int) + 1) = ((c + 1 : Nat) : Int) := by rw [iwc (by omega) (by omega)]; omega
    have hLs := hL.of hE (fun r k z => by omega)
    have hsucc : (if cpB ld (dC c) = true then ELf ld tp (dC c) st else st) = (List.range' 0 (c + 1)).foldl (fun s c => if cpB ld (dC c) = true then ELf ld tp (dC c) s else s) [] := by
      rw [List.range'_concat, List.foldl_append, ← hst]
      simp only [List.foldl_cons, List.foldl_nil, Nat.zero_add, Nat.one_mul]
    show Wp (l_Fi_lookForEndings_7 (fu + 1) (c : Int) s) _
    rw [l_Fi_lookForEndings_7]
    refine wp_f (by omega) ?_
    have l4 := hok.2.1
    by_cases hcp : cpB ld (dC c) = true
    · refine x_endings18 hok (tp := tp) c hc hcp (l_Fi_lookForEndings_7 fu) _ s hLs (fun j hj => by rw [hE.i _ _ (by omega)]; exact htp j hj) (gi ld 2 4).toNat 0 FU 0 s (by omega) (by unfold FU; omega) (EqP.rf _ _) ?_
      intro τ hEτ
      have hE0τ : EqP PLk σ0 τ := hE.tr (hEτ.mo (fun r k h => by omega))
      have hAτ := hA.of hEτ (fun r k z => by omega)
      unfold j_Fi_lookForEndings_66
      rw [hi]
      show Wp (if enP ld tp (dC c) = 0 then _ else _) _
      rw [if_pos hcp] at hk hsucc
      by_cases h0 : enP ld tp (dC c) = 0
      · refine wp_t h0 ?_
        have hel : ELf ld tp (dC c) st = st := if_neg (by unfold nz; simp [h0])
        rw [hel] at hk hsucc
        exact hk τ ⟨hsucc, hAτ, hE0τ⟩
      · refine wp_f h0 ?_
        have hel : ELf ld tp (dC c) st = st ++ [dC c] := if_pos (by unfold nz; simp [h0])
        rw [hel] at hk hsucc
        have hl2 : (st ++ [dC c]).length ≤ 180 := by
          rw [hsucc]
          rcases hlen (c + 1) with h | h
          · exact h
          · omega
        rw [List.length_append, List.length_cons, List.length_nil] at hl2
        have h9 := hAτ.1
        refine wp_f (by omega) (wp_oc (by omega) (wp_os ?_))
        rw [h9, Int.toNat_natCast]
        have e9 : gi (si τ 67 st.length (c : Int)) 61 9 = (st.length : Int) := by simp (disch := omega) only [gi_same, gi_ne_r, gi_ne_k, gi_sr_same, gi_sr_ne, gj_sj_same, gj_sj_ne_r, gj_sj_ne_k, gj_si, gi_sj, gj_sr, iwc, jwc, Int.toNat_natCast, tdn, tmn, b0, b1, yc0, yc1, h9]
        rw [e9, Int.toNat_natCast]
        refine wp_oc (by omega) (wp_os (wp_os ?_))
        have e9' : gi (si (si τ 67 st.length (c : Int)) 68 st.length (enP ld tp (dC c))) 61 9 = (st.length : Int) := by simp (disch := omega) only [gi_same, gi_ne_r, gi_ne_k, gi_sr_same, gi_sr_ne, gj_sj_same, gj_sj_ne_r, gj_sj_ne_k, gj_si, gi_sj, gj_sr, iwc, jwc, Int.toNat_natCast, tdn, tmn, b0, b1, yc0, yc1, h9]
        have hcd : (c : Int) = cdT (dC c) := by unfold cdT dC; dsimp only; omega
        refine hk _ ⟨hsucc, ⟨?_, fun i hi => ?_⟩, EqP.si (EqP.si (EqP.si hE0τ _ _ _ (by omega)) _ _ _ (by omega)) _ _ _ (by omega)⟩
        · show gi (si (si (si τ 67 st.length (c : Int)) 68 st.length (enP ld tp (dC c))) 61 9 (iw (gi (si (si τ 67 st.length (c : Int)) 68 st.length (enP ld tp (dC c))) 61 9 + 1))) 61 9 = _
          rw [gi_same, e9', List.length_append, List.length_cons, List.length_nil, iwc (by omega) (by omega)]; omega
        · show gi (si (si (si τ 67 st.length (c : Int)) 68 st.length (enP ld tp (dC c))) 61 9 (iw (gi (si (si τ 67 st.length (c : Int)) 68 st.length (enP ld tp (dC c))) 61 9 + 1))) 67 i = _ ∧ gi (si (si (si τ 67 st.length (c : Int)) 68 st.length (enP ld tp (dC c))) 61 9 (iw (gi (si (si τ 67 st.length (c : Int)) 68 st.length (enP ld tp (dC c))) 61 9 + 1))) 68 i = _
          rw [List.length_append, List.length_cons, List.length_nil] at hi
          by_cases hil : i = st.length
          · subst hil
            rw [List.getElem_append_right (Nat.le_refl _)]
            simp only [Nat.sub_self, List.getElem_cons_zero]
            constructor
            · simp (disch := omega) only [gi_same, gi_ne_r, gi_ne_k, gi_sr_same, gi_sr_ne, gj_sj_same, gj_sj_ne_r, gj_sj_ne_k, gj_si, gi_sj, gj_sr, iwc, jwc, Int.toNat_natCast, tdn, tmn, b0, b1, yc0, yc1]; exact hcd
            · simp (disch := omega) only [gi_same, gi_ne_r, gi_ne_k, gi_sr_same, gi_sr_ne, gj_sj_same, gj_sj_ne_r, gj_sj_ne_k, gj_si, gi_sj, gj_sr, iwc, jwc, Int.toNat_natCast, tdn, tmn, b0, b1, yc0, yc1]; unfold enG; rw [if_pos hcp]
          · rw [List.getElem_append_left (by omega)]
            have := hAτ.2 i (by omega)
            constructor
            · simp (disch := omega) only [gi_same, gi_ne_r, gi_ne_k, gi_sr_same, gi_sr_ne, gj_sj_same, gj_sj_ne_r, gj_sj_ne_k, gj_si, gi_sj, gj_sr, iwc, jwc, Int.toNat_natCast, tdn, tmn, b0, b1, yc0, yc1]; exact this.1
            · simp (disch := omega) only [gi_same, gi_ne_r, gi_ne_k, gi_sr_same, gi_sr_ne, gj_sj_same, gj_sj_ne_r, gj_sj_ne_k, gj_si, gi_sj, gj_sr, iwc, jwc, Int.toNat_natCast, tdn, tmn, b0, b1, yc0, yc1]; exact this.2
    · rw [if_neg hcp] at hk hsucc
      have fin : Wp (j_Fi_lookForEndings_66 (l_Fi_lookForEndings_7 fu) c 0 s) fun x τ => EAr τ (enG ld tp) (EL ld tp) ∧ EqP PLk σ0 τ := by
        unfold j_Fi_lookForEndings_66
        rw [hi]
        exact wp_t rfl (hk s ⟨hsucc, hA, hE⟩)
      obtain ⟨f', hf'⟩ : ∃ f', FU = f' + 1 := ⟨FU - 1, by unfold FU; omega⟩
      rw [hf', l_Fi_lookForEndings_18]
      exact wp_i (fun _ => fin) (fun _ => wp_b0 (x_isCoupleC hok hLs c hc) hcp (wp_t rfl fin))
  · rintro fu' s ⟨hst, hA, hE⟩
    show Wp (l_Fi_lookForEndings_7 (fu' + 1) ((600 : Nat) : Int) s) _
    rw [l_Fi_lookForEndings_7]
    refine wp_t (by omega) (wp_some ⟨?_, hE⟩)
    rw [foldC hok (ELf ld tp), hfin] at hA
    exact hA
