/-! cover: the reference -/
theorem trp_len : TRp.length = 216 := by unfold TRp; simp
theorem trp_drop {c : Nat} (h : c < 216) : TRp.drop c = dM c :: TRp.drop (c + 1) := by
  rw [List.drop_eq_getElem_cons (by rw [trp_len]; exact h)]
  congr 1
  unfold TRp
  simp
def LYM (σ : SS) (l : List T3) : Prop := gi σ 86 62 = l.length ∧ ∀ i (h : i < l.length), gi σ 122 i = cdT l[i]
abbrev PLm : Nat → Nat → Prop := fun r k => r = 86 ∧ k = 62 ∨ r = 122
theorem x_layCouple {σ : SS} (i c : Nat) (hi : i < 12) (hc : c < 216) : f_Mo_layCouple i c σ = some (0, si σ 122 i (cdT (dM c))) := by
  unfold f_Mo_layCouple f_Mo_firstOf f_Mo_otherOf f_Mo_matterOf
  rw [ob_eq, ob_eq, ob_eq, oc_pos (by omega), os_eq, Int.toNat_natCast]
  congr 3
  unfold cdT dM
  simp (disch := omega) only [tdn, tmn, iwc]
  omega
def JR (σ : SS) (e : T3 → Int) : Prop := ∀ c, c < 216 → gi σ 125 c = e (dM c)
theorem JR.of {P : Nat → Nat → Prop} {σ τ : SS} {e : T3 → Int} (h : JR σ e) (he : EqP P σ τ) (hp : ∀ k, ¬ P 125 k) : JR τ e := fun c hc => by rw [he.i _ _ (hp c)]; exact h c hc
theorem x_rc33 (e : T3 → Int) (full : Int) (σ : SS) (hJ : JR σ e) (a b : Nat) (ha : a < 216) (hb : b < 216) (self2 self12 : Int → SS → OO) (Q : Int → SS → Prop) (hpos : ¬ e (dM b) ≤ 0) :
    ∀ (r c fu : Nat), c + r = 216 → r < fu → (s1 e full (zor (e (dM a)) (e (dM b))) (TRp.drop c) = none → Wp (self12 ((b + 1 : Nat) : Int) σ) Q) → (∀ t, s1 e full (zor (e (dM a)) (e (dM b))) (TRp.drop c) = some t → ∀ τ, EqP PLm σ τ → LYM τ [dM a, dM b, t] → Q 3 τ) → Wp (l_Mo_coverByThree_33 self2 self12 216 full a b fu c σ) Q := by
  intro r
  induction r with
  | zero =>
    intro c fu hc hfu hn _
    obtain ⟨fu, rfl⟩ : ∃ f, fu = f + 1 := ⟨fu - 1, by omega⟩
    rw [l_Mo_coverByThree_33]
    refine wp_t (by omega) ?_
    rw [show iw ((b : Int) + 1) = ((b + 1 : Nat) : Int) by rw [iwc (by omega) (by omega)]; omega]
    exact hn (by rw [List.drop_eq_nil_of_le (by rw [trp_len]; omega)]; rfl)
  | succ r ih =>
    intro c fu hc hfu hn hs
    obtain ⟨fu, rfl⟩ : ∃ f, fu = f + 1 := ⟨fu - 1, by omega⟩
    have hc216 : c < 216 := by omega
    rw [l_Mo_coverByThree_33]
    refine wp_f (by omega) (wp_oc (by omega) ?_)
    rw [Int.toNat_natCast, Int.toNat_natCast, Int.toNat_natCast, hJ a ha, hJ b hb, hJ c hc216]
    refine wp_f hpos (wp_oc (by omega) (wp_oc (by omega) (wp_oc (by omega) ?_)))
    have hd : s1 e full (zor (e (dM a)) (e (dM b))) (TRp.drop c) = if zor (zor (e (dM a)) (e (dM b))) (e (dM c)) = full then some (dM c) else s1 e full (zor (e (dM a)) (e (dM b))) (TRp.drop (c + 1)) := by
      rw [trp_drop hc216]
      unfold s1
      rw [List.find?_cons]
      by_cases hz : zor (zor (e (dM a)) (e (dM b))) (e (dM c)) = full
      · rw [if_pos hz, decide_eq_true hz]
      · rw [if_neg hz, decide_eq_false hz]
    rw [hd] at hn hs
    by_cases hz : zor (zor (e (dM a)) (e (dM b))) (e (dM c)) = full
    · rw [if_pos hz] at hs
      refine wp_t hz ?_
      refine wp_eq (x_layCouple 0 a (by omega) ha) (wp_eq (x_layCouple 1 b (by omega) hb) (wp_eq (x_layCouple 2 c (by omega) hc216) (wp_os (wp_some ?_))))
      refine hs (dM c) rfl _ (by repeat (first | exact EqP.rf _ _ | (refine EqP.si ?_ _ _ _ (by omega)) | (refine EqP.sj ?_ _ _ _ (by omega)) | (refine EqP.sr ?_ _ _ (fun k => by omega)))) ⟨?_, fun i hi => ?_⟩
      · simp (disch := omega) only [gi_same, gi_ne_r, gi_ne_k, gi_sr_same, gi_sr_ne, gj_sj_same, gj_sj_ne_r, gj_sj_ne_k, gj_si, gi_sj, gj_sr, iwc, jwc, Int.toNat_natCast, tdn, tmn, b0, b1, yc0, yc1]; rfl
      · simp only [List.length_cons, List.length_nil] at hi
        have h3 : i = 0 ∨ i = 1 ∨ i = 2 := by omega
        rcases h3 with rfl | rfl | rfl
        · simp (disch := omega) only [gi_same, gi_ne_r, gi_ne_k, gi_sr_same, gi_sr_ne, gj_sj_same, gj_sj_ne_r, gj_sj_ne_k, gj_si, gi_sj, gj_sr, iwc, jwc, Int.toNat_natCast, tdn, tmn, b0, b1, yc0, yc1]; rfl
        · simp (disch := omega) only [gi_same, gi_ne_r, gi_ne_k, gi_sr_same, gi_sr_ne, gj_sj_same, gj_sj_ne_r, gj_sj_ne_k, gj_si, gi_sj, gj_sr, iwc, jwc, Int.toNat_natCast, tdn, tmn, b0, b1, yc0, yc1]; rfl
        · simp (disch := omega) only [gi_same, gi_ne_r, gi_ne_k, gi_sr_same, gi_sr_ne, gj_sj_same, gj_sj_ne_r, gj_sj_ne_k, gj_si, gi_sj, gj_sr, iwc, jwc, Int.toNat_natCast, tdn, tmn, b0, b1, yc0, yc1]; rfl
    · rw [if_neg hz] at hn hs
      refine wp_f hz ?_
      rw [show iw ((c : Int) + 1) = ((c + 1 : Nat) : Int) by rw [iwc (by omega) (by omega)]; omega]
      exact ih (c + 1) fu (by omega) (by omega) hn hs
theorem x_rc12 (e : T3 → Int) (full : Int) (σ : SS) (hJ : JR σ e) (a : Nat) (ha : a < 216) (self2 : Int → SS → OO) (Q : Int → SS → Prop) :
    ∀ (r b fu : Nat), b + r = 216 → r < fu → (e (dM a) ≤ 0 ∨ s2g e full (e (dM a)) (TRp.drop b) = none → Wp (self2 ((a + 1 : Nat) : Int) σ) Q) → (∀ t u, ¬ e (dM a) ≤ 0 → s2g e full (e (dM a)) (TRp.drop b) = some (t, u) → ∀ τ, EqP PLm σ τ → LYM τ [dM a, t, u] → Q 3 τ) → Wp (l_Mo_coverByThree_12 self2 216 full a fu b σ) Q := by
  intro r
  induction r with
  | zero =>
    intro b fu hb hfu hn _
    obtain ⟨fu, rfl⟩ : ∃ f, fu = f + 1 := ⟨fu - 1, by omega⟩
    rw [l_Mo_coverByThree_12]
    refine wp_t (by omega) ?_
    rw [show iw ((a : Int) + 1) = ((a + 1 : Nat) : Int) by rw [iwc (by omega) (by omega)]; omega]
    exact hn (Or.inr (by rw [List.drop_eq_nil_of_le (by rw [trp_len]; omega)]; rfl))
  | succ r ih =>
    intro b fu hb hfu hn hs
    obtain ⟨fu, rfl⟩ : ∃ f, fu = f + 1 := ⟨fu - 1, by omega⟩
    have hb216 : b < 216 := by omega
    rw [l_Mo_coverByThree_12]
    refine wp_f (by omega) (wp_oc (by omega) ?_)
    rw [Int.toNat_natCast, hJ a ha]
    by_cases hpa : e (dM a) ≤ 0
    · refine wp_t hpa ?_
      rw [show iw ((a : Int) + 1) = ((a + 1 : Nat) : Int) by rw [iwc (by omega) (by omega)]; omega]
      exact hn (Or.inl hpa)
    · refine wp_f hpa (wp_ol ?_)
      rw [show iw ((b : Int) + 1) = ((b + 1 : Nat) : Int) by rw [iwc (by omega) (by omega)]; omega]
      rw [trp_drop hb216, s2g] at hn hs
      by_cases hpb : e (dM b) ≤ 0
      · rw [if_pos hpb] at hn hs
        -- the innermost loop stops at once
        obtain ⟨f', hf'⟩ : ∃ f', FU = f' + 1 := ⟨FU - 1, by unfold FU; omega⟩
        have nxt' : Wp (l_Mo_coverByThree_12 self2 216 full a fu ((b + 1 : Nat) : Int) σ) Q := ih (b + 1) fu (by omega) (by omega) hn hs
        rw [hf', l_Mo_coverByThree_33]
        have hi : iw ((b : Int) + 1) = ((b + 1 : Nat) : Int) := by rw [iwc (by omega) (by omega)]; omega
        refine wp_i (fun _ => ?_) (fun _ => wp_oc (by omega) (wp_t (by rw [Int.toNat_natCast, hJ b hb216]; exact hpb) ?_))
        · rw [hi]; exact nxt'
        · rw [hi]; exact nxt'
      · rw [if_neg hpb] at hn hs
        refine x_rc33 e full σ hJ a b ha hb216 _ _ Q hpb (216 - (b + 1)) (b + 1) FU (by omega) (by unfold FU; omega) ?_ ?_
        · intro hq
          rw [hq] at hn hs
          exact ih (b + 1) fu (by omega) (by omega) hn hs
        · intro t hq τ hE hY
          rw [hq] at hs
          exact hs (dM b) t hpa rfl τ hE hY
theorem x_rc2 (e : T3 → Int) (full : Int) (σ : SS) (hJ : JR σ e) (hY0 : LYM σ []) :
    ∀ (r a fu : Nat), a + r = 216 → r < fu → Wp (l_Mo_coverByThree_2 216 full fu a σ) fun v τ => EqP PLm σ τ ∧ ((t3g e full (TRp.drop a) = none ∧ v = -1 ∧ LYM τ []) ∨ ∃ x y z, t3g e full (TRp.drop a) = some (x, y, z) ∧ v = 3 ∧ LYM τ [x, y, z]) := by
  intro r
  induction r with
  | zero =>
    intro a fu ha hfu
    obtain ⟨fu, rfl⟩ : ∃ f, fu = f + 1 := ⟨fu - 1, by omega⟩
    rw [l_Mo_coverByThree_2, List.drop_eq_nil_of_le (show TRp.length ≤ a by rw [trp_len]; omega)]
    exact wp_t (by omega) (wp_some ⟨EqP.rf _ _, Or.inl ⟨rfl, rfl, hY0⟩⟩)
  | succ r ih =>
    intro a fu ha hfu
    obtain ⟨fu, rfl⟩ : ∃ f, fu = f + 1 := ⟨fu - 1, by omega⟩
    have ha216 : a < 216 := by omega
    rw [l_Mo_coverByThree_2, trp_drop ha216, t3g]
    refine wp_f (by omega) (wp_ol ?_)
    rw [show iw ((a : Int) + 1) = ((a + 1 : Nat) : Int) by rw [iwc (by omega) (by omega)]; omega]
    have hih := ih (a + 1) fu (by omega) (by omega)
    refine x_rc12 e full σ hJ a ha216 _ _ (216 - (a + 1)) (a + 1) FU (by omega) (by unfold FU; omega) ?_ ?_
    · rintro (hpa | hq)
      · rw [if_pos hpa]; exact hih
      · by_cases hpa : e (dM a) ≤ 0
        · rw [if_pos hpa]; exact hih
        · rw [if_neg hpa, hq]; exact hih
    · intro t u hpa hq τ hE hY
      rw [if_neg hpa, hq]
      exact ⟨hE, Or.inr ⟨dM a, t, u, rfl, rfl, hY⟩⟩
theorem x_rc85 (e : T3 → Int) (full : Int) (σ : SS) (hJ : JR σ e) (a : Nat) (ha : a < 216) (self75 : Int → SS → OO) (Q : Int → SS → Prop) :
    ∀ (r b fu : Nat), b + r = 216 → r < fu → (e (dM a) ≤ 0 ∨ s1 e full (e (dM a)) (TRp.drop b) = none → Wp (self75 ((a + 1 : Nat) : Int) σ) Q) → (∀ t, ¬ e (dM a) ≤ 0 → s1 e full (e (dM a)) (TRp.drop b) = some t → ∀ τ, EqP PLm σ τ → LYM τ [dM a, t] → Q 2 τ) → Wp (l_Mo_cover_85 self75 full 216 a fu b σ) Q := by
  intro r
  induction r with
  | zero =>
    intro b fu hb hfu hn _
    obtain ⟨fu, rfl⟩ : ∃ f, fu = f + 1 := ⟨fu - 1, by omega⟩
    rw [l_Mo_cover_85]
    refine wp_t (by omega) ?_
    rw [show iw ((a : Int) + 1) = ((a + 1 : Nat) : Int) by rw [iwc (by omega) (by omega)]; omega]
    exact hn (Or.inr (by rw [List.drop_eq_nil_of_le (by rw [trp_len]; omega)]; rfl))
  | succ r ih =>
    intro b fu hb hfu hn hs
    obtain ⟨fu, rfl⟩ : ∃ f, fu = f + 1 := ⟨fu - 1, by omega⟩
    have hb216 : b < 216 := by omega
    rw [l_Mo_cover_85]
    refine wp_f (by omega) (wp_oc (by omega) ?_)
    rw [Int.toNat_natCast, hJ a ha]
    by_cases hpa : e (dM a) ≤ 0
    · refine wp_t hpa ?_
      rw [show iw ((a : Int) + 1) = ((a + 1 : Nat) : Int) by rw [iwc (by omega) (by omega)]; omega]
      exact hn (Or.inl hpa)
    · refine wp_f hpa (wp_oc (by omega) (wp_oc (by omega) ?_))
      rw [Int.toNat_natCast, hJ b hb216]
      have hd : s1 e full (e (dM a)) (TRp.drop b) = if zor (e (dM a)) (e (dM b)) = full then some (dM b) else s1 e full (e (dM a)) (TRp.drop (b + 1)) := by
        rw [trp_drop hb216]
        unfold s1
        rw [List.find?_cons]
        by_cases hz : zor (e (dM a)) (e (dM b)) = full
        · rw [if_pos hz, decide_eq_true hz]
        · rw [if_neg hz, decide_eq_false hz]
      rw [hd] at hn hs
      by_cases hz : zor (e (dM a)) (e (dM b)) = full
      · rw [if_pos hz] at hs
        refine wp_t hz ?_
        refine wp_eq (x_layCouple 0 a (by omega) ha) (wp_eq (x_layCouple 1 b (by omega) hb216) (wp_os (wp_some ?_)))
        refine hs (dM b) hpa rfl _ (by repeat (first | exact EqP.rf _ _ | (refine EqP.si ?_ _ _ _ (by omega)) | (refine EqP.sj ?_ _ _ _ (by omega)) | (refine EqP.sr ?_ _ _ (fun k => by omega)))) ⟨?_, fun i hi => ?_⟩
        · simp (disch := omega) only [gi_same, gi_ne_r, gi_ne_k, gi_sr_same, gi_sr_ne, gj_sj_same, gj_sj_ne_r, gj_sj_ne_k, gj_si, gi_sj, gj_sr, iwc, jwc, Int.toNat_natCast, tdn, tmn, b0, b1, yc0, yc1]; rfl
        · simp only [List.length_cons, List.length_nil] at hi
          have h3 : i = 0 ∨ i = 1 := by omega
          rcases h3 with rfl | rfl
          · simp (disch := omega) only [gi_same, gi_ne_r, gi_ne_k, gi_sr_same, gi_sr_ne, gj_sj_same, gj_sj_ne_r, gj_sj_ne_k, gj_si, gi_sj, gj_sr, iwc, jwc, Int.toNat_natCast, tdn, tmn, b0, b1, yc0, yc1]; rfl
          · simp (disch := omega) only [gi_same, gi_ne_r, gi_ne_k, gi_sr_same, gi_sr_ne, gj_sj_same, gj_sj_ne_r, gj_sj_ne_k, gj_si, gi_sj, gj_sr, iwc, jwc, Int.toNat_natCast, tdn, tmn, b0, b1, yc0, yc1]; rfl
      · rw [if_neg hz] at hn hs
        refine wp_f hz ?_
        rw [show iw ((b : Int) + 1) = ((b + 1 : Nat) : Int) by rw [iwc (by omega) (by omega)]; omega]
        exact ih (b + 1) fu (by omega) (by omega) hn hs
theorem x_rc75 (e : T3 → Int) (full : Int) (σ : SS) (hJ : JR σ e) (hY0 : LYM σ []) :
    ∀ (r a fu : Nat), a + r = 216 → r < fu → Wp (l_Mo_cover_75 full 216 fu a σ) fun v τ => EqP PLm σ τ ∧ ((∃ x y, t2g e full (TRp.drop a) = some (x, y) ∧ v = 2 ∧ LYM τ [x, y]) ∨ (t2g e full (TRp.drop a) = none ∧ ((t3g e full TRp = none ∧ v = -1 ∧ LYM τ []) ∨ ∃ x y z, t3g e full TRp = some (x, y, z) ∧ v = 3 ∧ LYM τ [x, y, z]))) := by
  intro r
  induction r with
  | zero =>
    intro a fu ha hfu
    obtain ⟨fu, rfl⟩ : ∃ f, fu = f + 1 := ⟨fu - 1, by omega⟩
    rw [l_Mo_cover_75, List.drop_eq_nil_of_le (show TRp.length ≤ a by rw [trp_len]; omega)]
    refine wp_t (by omega) ?_
    unfold f_Mo_coverByThree
    refine wp_call (x_rc2 e full σ hJ hY0 216 0 FU (by omega) (by unfold FU; omega)) ?_
    rintro v τ ⟨hE, h⟩
    exact wp_some ⟨hE, Or.inr ⟨rfl, h⟩⟩
  | succ r ih =>
    intro a fu ha hfu
    obtain ⟨fu, rfl⟩ : ∃ f, fu = f + 1 := ⟨fu - 1, by omega⟩
    have ha216 : a < 216 := by omega
    rw [l_Mo_cover_75, trp_drop ha216, t2g]
    refine wp_f (by omega) (wp_ol ?_)
    rw [show iw ((a : Int) + 1) = ((a + 1 : Nat) : Int) by rw [iwc (by omega) (by omega)]; omega]
    have hih := ih (a + 1) fu (by omega) (by omega)
    refine x_rc85 e full σ hJ a ha216 _ _ (216 - (a + 1)) (a + 1) FU (by omega) (by unfold FU; omega) ?_ ?_
    · rintro (hpa | hq)
      · rw [if_pos hpa]; exact hih
      · by_cases hpa : e (dM a) ≤ 0
        · rw [if_pos hpa]; exact hih
        · rw [if_neg hpa, hq]; exact hih
    · intro t hpa hq τ hE hY
      rw [if_neg hpa, hq]
      exact ⟨hE, Or.inl ⟨dM a, t, rfl, rfl, hY⟩⟩
noncomputable def cvR (e : T3 → Int) (full : Int) (l : List T3) : List T3 := match l.find? (fun b => decide (e b = full)) with
  | some a => [a]
  | none => match t2g e full TRp with
    | some (a, b) => [a, b]
    | none => match t3g e full TRp with
      | some (a, b, c) => [a, b, c]
      | none => []
theorem x_rc36 {ld : SS} (e : T3 → Int) (full : Int) (σ : SS) (hJ : JR σ e) (hY0 : LYM σ []) :
    ∀ (r a fu : Nat), a + r = 216 → r < fu → Wp (l_Mo_cover_36 full 216 fu a σ) fun v τ => EqP PLm σ τ ∧ v = cvV ld (cvR e full (TRp.drop a)) ∧ LYM τ (cvR e full (TRp.drop a)) := by
  intro r
  induction r with
  | zero =>
    intro a fu ha hfu
    obtain ⟨fu, rfl⟩ : ∃ f, fu = f + 1 := ⟨fu - 1, by omega⟩
    rw [l_Mo_cover_36, List.drop_eq_nil_of_le (show TRp.length ≤ a by rw [trp_len]; omega)]
    refine wp_t (by omega) ?_
    refine wp_mono (x_rc75 e full σ hJ hY0 216 0 FU (by omega) (by unfold FU; omega)) ?_
    rw [List.drop_zero]
    rintro v τ ⟨hE, ⟨x, y, h1, h2, h3⟩ | ⟨h1, ⟨h2, h3, h4⟩ | ⟨x, y, z, h2, h3, h4⟩⟩⟩
    · refine ⟨hE, ?_, ?_⟩
      · unfold cvR; rw [List.find?_nil, h1, h2]; rfl
      · unfold cvR; rw [List.find?_nil, h1]; exact h3
    · refine ⟨hE, ?_, ?_⟩
      · unfold cvR; rw [List.find?_nil, h1, h2, h3]; rfl
      · unfold cvR; rw [List.find?_nil, h1, h2]; exact h4
    · refine ⟨hE, ?_, ?_⟩
      · unfold cvR; rw [List.find?_nil, h1, h2, h3]; rfl
      · unfold cvR; rw [List.find?_nil, h1, h2]; exact h4
  | succ r ih =>
    intro a fu ha hfu
    obtain ⟨fu, rfl⟩ : ∃ f, fu = f + 1 := ⟨fu - 1, by omega⟩
    have ha216 : a < 216 := by omega
    have hd : cvR e full (TRp.drop a) = if e (dM a) = full then [dM a] else cvR e full (TRp.drop (a + 1)) := by
      rw [trp_drop ha216]
      unfold cvR
      rw [List.find?_cons]
      by_cases hz : e (dM a) = full
      · rw [if_pos hz, decide_eq_true hz]
      · rw [if_neg hz, decide_eq_false hz]
    rw [l_Mo_cover_36]
    refine wp_f (by omega) (wp_oc (by omega) ?_)
    rw [Int.toNat_natCast, hJ a ha216]
    by_cases hz : e (dM a) = full
    · refine wp_t hz ?_
      rw [hd, if_pos hz]
      refine wp_eq (x_layCouple 0 a (by omega) ha216) (wp_os (wp_some ⟨by repeat (first | exact EqP.rf _ _ | (refine EqP.si ?_ _ _ _ (by omega)) | (refine EqP.sj ?_ _ _ _ (by omega)) | (refine EqP.sr ?_ _ _ (fun k => by omega))), rfl, ?_, fun i hi => ?_⟩))
      · simp (disch := omega) only [gi_same, gi_ne_r, gi_ne_k, gi_sr_same, gi_sr_ne, gj_sj_same, gj_sj_ne_r, gj_sj_ne_k, gj_si, gi_sj, gj_sr, iwc, jwc, Int.toNat_natCast, tdn, tmn, b0, b1, yc0, yc1]; rfl
      · simp only [List.length_cons, List.length_nil] at hi
        obtain rfl : i = 0 := by omega
        simp (disch := omega) only [gi_same, gi_ne_r, gi_ne_k, gi_sr_same, gi_sr_ne, gj_sj_same, gj_sj_ne_r, gj_sj_ne_k, gj_si, gi_sj, gj_sr, iwc, jwc, Int.toNat_natCast, tdn, tmn, b0, b1, yc0, yc1]; rfl
    · refine wp_f hz ?_
      rw [hd, if_neg hz]
      rw [show iw ((a : Int) + 1) = ((a + 1 : Nat) : Int) by rw [iwc (by omega) (by omega)]; omega]
      exact ih (a + 1) fu (by omega) (by omega)
/-- both find the same -/
theorem cv_same {e : T3 → Int} (he : ∀ t, 0 ≤ e t ∧ e t < 2147483648) {full : Int} (hf : full ≠ 0) : cvL e full (TRp.filter (nz e)) = cvR e full TRp := by
  unfold cvL cvR
  have h1 : s1 e full 0 (TRp.filter (nz e)) = TRp.find? (fun b => decide (e b = full)) := by
    unfold s1
    rw [List.find?_filter]
    congr 1
    funext b
    have := he b
    rw [z0_or (by unfold rI; omega)]
    unfold nz
    by_cases h : e b = 0
    · simp [h]; intro h2; exact hf h2.symm
    · simp [h]
  rw [h1]
  cases hq : TRp.find? (fun b => decide (e b = full)) with
  | some a => rfl
  | none =>
    rw [List.find?_eq_none] at hq
    dsimp only
    rw [t2_filt he TRp (fun b hb => by have := hq b hb; simpa using this)]
    cases h2 : t2g e full TRp with
    | some p => rfl
    | none =>
      dsimp only
      rw [t3_filt he TRp h2]
      cases t3g e full TRp <;> rfl
abbrev PJu : Nat → Nat → Prop := fun r k => r = 125 ∨ r = 126 ∨ PAl r k
theorem x_just19 {ld : SS} (hok : LdOK ld) {bk : Nat} {tp : Nat → Int} (c : Nat) (hc : c < 216) (hcp : cpB ld (dM c) = true) (self2 : Int → SS → OO) (Q : Int → SS → Prop) (σ0 : SS) (hM0 : LM ld σ0 bk) (hTp0 : TPM ld σ0 bk tp) :
    ∀ (r y fu : Nat) (x : Int) (σ : SS), y + r = (gi ld 2 4).toNat → r < fu → EqP (fun r k => r = 125 ∧ k = c ∨ r = 126 ∨ PAl r k) σ0 σ → gi σ 125 c = x → (∀ τ, EqP (fun r k => r = 125 ∧ k = c ∨ r = 126 ∨ PAl r k) σ0 τ → gi τ 125 c = (List.range' y r).foldl (fun x y => enS ld tp (dM c) y x) x → Wp (self2 ((c + 1 : Nat) : Int) τ) Q) → Wp (l_Mo_layJust_19 self2 c fu y σ) Q := by
  have l4 := hok.2.1
  have hb := hM0.1
  have hi : iw ((c : Int) + 1) = ((c + 1 : Nat) : Int) := by rw [iwc (by omega) (by omega)]; omega
  intro r
  induction r with
  | zero =>
    intro y fu x σ hy hfu hE hx hk
    obtain ⟨fu, rfl⟩ : ∃ f, fu = f + 1 := ⟨fu - 1, by omega⟩
    have hM := hM0.of hE (fun r k z => by omega)
    rw [l_Mo_layJust_19, hM.2.1, Int.toNat_natCast, hM.2.2.1.2.1, hi]
    exact wp_oc (by omega) (wp_t (by omega) (hk σ hE hx))
  | succ r ih =>
    intro y fu x σ hy hfu hE hx hk
    obtain ⟨fu, rfl⟩ : ∃ f, fu = f + 1 := ⟨fu - 1, by omega⟩
    have hM := hM0.of hE (fun r k z => by omega)
    have hy4 : (y : Int) < gi ld 2 4 := by omega
    have hC := (cpB_iff hok _ _ _).mp hcp
    obtain ⟨w1, w2, w3, w4, w5⟩ := hok.wy hy4
    rw [l_Mo_layJust_19, hM.2.1, Int.toNat_natCast, hM.2.2.1.2.1, hi]
    refine wp_oc (by omega) (wp_f (by omega) ?_)
    refine wp_b1 (x_canBe hok hM c hc) hcp (wp_f (by decide) ?_)
    refine wp_call (x_beginBy hok hM c hC) ?_
    rintro _ s6 ⟨hT6, hE6⟩
    refine wp_os ?_
    have hE8 : EqP (fun r k => r = 125 ∧ k = c ∨ r = 126 ∨ PAl r k) σ0 (si s6 126 0 (y : Int)) := EqP.si (hE.tr (hE6.mo (fun r k h => by omega))) _ _ _ (by omega)
    have hT8 : TM (si s6 126 0 (y : Int)) 119 (c / 36) (c / 6 % 6) (c % 6) (begP ld (c % 6)) := hT6.of (P := fun r k => r = 126) (by repeat (first | exact EqP.rf _ _ | (refine EqP.si ?_ _ _ _ (by omega)) | (refine EqP.sj ?_ _ _ _ (by omega)) | (refine EqP.sr ?_ _ _ (fun k => by omega)))) (fun k => by omega)
    have g126 : gi (si s6 126 0 (y : Int)) 126 0 = y := gi_same _ _ _ _
    have gx : gi (si s6 126 0 (y : Int)) 125 c = x := by simp (disch := omega) only [gi_same, gi_ne_r, gi_ne_k, gi_sr_same, gi_sr_ne, gj_sj_same, gj_sj_ne_r, gj_sj_ne_k, gj_si, gi_sj, gj_sr, iwc, jwc, Int.toNat_natCast, tdn, tmn, b0, b1, yc0, yc1]; rw [hE6.i _ _ (by omega)]; exact hx
    generalize si s6 126 0 (y : Int) = s8 at hE8 hT8 g126 gx ⊢
    have hM8 := hM0.of hE8 (fun r k z => by omega)
    refine wp_eq (x_fromOf hok hM8 (y := (y : Int)) (by omega)) ?_
    rw [Int.toNat_natCast]
    obtain ⟨bq1, bq2⟩ := begP_ok hok hC.2.2.2.1
    have hP : Pth ld 1 (fun _ => y) (fun _ => (gi ld 7 y).toNat) (gi ld 6 y).toNat := ⟨by omega, by omega, fun i hi => ⟨hy4, (show (((gi ld 7 y).toNat : Nat) : Int) < gi ld 2 0 by omega), Or.inl ⟨(show gi ld 6 y = (((if i = 0 then (gi ld 6 y).toNat else (gi ld 7 y).toNat : Nat)) : Int) by rw [if_pos (show i = 0 by omega)]; omega), (show gi ld 7 y = (((gi ld 7 y).toNat : Nat) : Int) by omega)⟩⟩⟩
    have hal := x_along (u1 := 126) (tp := tp) hok hM8 (by omega) (hTp0.of hE8 (fun r k z => by omega)) hC hP (show 1 ≤ 1 from Nat.le_refl 1) (fun j hj => by rw [show j = 0 by omega]; exact g126) hT8 bq1 bq2
    rw [show (((gi ld 6 y).toNat : Nat) : Int) = gi ld 6 y by omega] at hal
    refine wp_call hal ?_
    rintro _ s11 ⟨_, h63, h64, hE11⟩
    have hE011 : EqP (fun r k => r = 125 ∧ k = c ∨ r = 126 ∨ PAl r k) σ0 s11 := hE8.tr (hE11.mo (fun r k h => by omega))
    have g11 : gi s11 125 c = x := by rw [hE11.i _ _ (by omega)]; exact gx
    have hmg := (msG_go ld tp (c / 36) (c / 6 % 6) (c % 6) (fun _ => y) (fun _ => (gi ld 7 y).toNat) 1 0 0 (begP ld (c % 6)) 0 (fun _ => ⟨by omega, by omega⟩) (fun j _ _ => by omega)).2
    have hejd : ejP ld tp 1 (fun _ => y) (fun _ => (gi ld 7 y).toNat) (dM c) = ((goP ld tp (c / 36) (c / 6 % 6) (fun _ => y) (fun _ => (gi ld 7 y).toNat) 1 0 0 (begP ld (c % 6))).1 && decide ((goP ld tp (c / 36) (c / 6 % 6) (fun _ => y) (fun _ => (gi ld 7 y).toNat) 1 0 0 (begP ld (c % 6))).2.1 = 1 - 1 ∧ gi ld 8 y ≤ (goP ld tp (c / 36) (c / 6 % 6) (fun _ => y) (fun _ => (gi ld 7 y).toNat) 1 0 0 (begP ld (c % 6))).2.2.1)) := rfl
    generalize goP ld tp (c / 36) (c / 6 % 6) (fun _ => y) (fun _ => (gi ld 7 y).toNat) 1 0 0 (begP ld (c % 6)) = G at h63 h64 hmg hejd
    rw [show iw ((y : Int) + 1) = ((y + 1 : Nat) : Int) by rw [iwc (by omega) (by omega)]; omega]
    rw [List.range'_succ, List.foldl_cons] at hk
    have skip : ejP ld tp 1 (fun _ => y) (fun _ => (gi ld 7 y).toNat) (dM c) = false → Wp (l_Mo_layJust_19 self2 c fu ((y + 1 : Nat) : Int) s11) Q := fun he => by
      have hs : enS ld tp (dM c) y x = x := if_neg (by rw [he]; decide)
      rw [hs] at hk
      exact ih (y + 1) fu x s11 (by omega) (by omega) hE011 g11 hk
    by_cases hG : G.1 = true
    · rw [if_pos hG] at h63 h64
      obtain ⟨_, t2, t3', t4, t5, _⟩ := hmg hG
      refine wp_t (by omega) ?_
      refine wp_eq (x_milesOf hok (hM0.of hE011 (fun r k z => by omega)) (y := (y : Int)) (by omega)) ?_
      rw [Int.toNat_natCast]
      by_cases hml : G.2.2.1 = gi ld 8 y
      · refine wp_t (by omega) (wp_oc (by omega) (wp_oc (by omega) (wp_os ?_)))
        rw [Int.toNat_natCast, g11]
        have he : ejP ld tp 1 (fun _ => y) (fun _ => (gi ld 7 y).toNat) (dM c) = true := by rw [hejd, hG, decide_eq_true ⟨by omega, by omega⟩]; rfl
        have hs : enS ld tp (dM c) y x = zor x (zshl 1 y) := if_pos he
        rw [hs] at hk
        exact ih (y + 1) fu _ _ (by omega) (by omega) (EqP.si hE011 _ _ _ (by omega)) (gi_same _ _ _ _) hk
      · exact wp_f (by omega) (skip (by rw [hejd, hG, decide_eq_false (fun z => by omega)]; rfl))
    · rw [if_neg hG] at h63
      rw [Bool.not_eq_true] at hG
      exact wp_f (by omega) (skip (by rw [hejd, hG]; rfl))
theorem x_just {ld : SS} (hok : LdOK ld) {bk : Nat} {tp : Nat → Int} (σ0 : SS) (hM0 : LM ld σ0 bk) (hTp0 : TPM ld σ0 bk tp) : Wp (f_Mo_layJust σ0) fun _ τ => JR τ (enG ld tp) ∧ EqP PJu σ0 τ := by
  have l4 := hok.2.1
  unfold f_Mo_layJust
  refine loopN (β := Unit) 216 (fun fu c _ s => l_Mo_layJust_2 fu c s) (fun _ s => s) (fun c _ s => (∀ x, x < c → gi s 125 x = enG ld tp (dM x)) ∧ EqP PJu σ0 s) _ ?_ 216 0 FU () σ0 (by omega) (by unfold FU; omega) ⟨fun x hx => by omega, EqP.rf _ _⟩ ?_
  · rintro fu c _ s hc ⟨hJ, hE⟩ hk
    have hMs := hM0.of hE (fun r k z => by omega)
    show Wp (l_Mo_layJust_2 (fu + 1) (c : Int) s) _
    rw [l_Mo_layJust_2]
    unfold f_Mo_coupleMany
    refine wp_eq rfl (wp_f (by omega) (wp_oc (by omega) (wp_os ?_)))
    rw [Int.toNat_natCast]
    have hE5 : EqP PJu σ0 (si s 125 c 0) := EqP.si hE _ _ _ (by omega)
    have hM5 := hM0.of hE5 (fun r k z => by omega)
    have fin : ∀ τ, EqP (fun r k => r = 125 ∧ k = c ∨ r = 126 ∨ PAl r k) (si s 125 c 0) τ → gi τ 125 c = enG ld tp (dM c) → Wp (l_Mo_layJust_2 fu ((c + 1 : Nat) : Int) τ) fun _ τ => JR τ (enG ld tp) ∧ EqP PJu σ0 τ := by
      intro τ hEτ hg
      refine hk τ ⟨fun x hx => ?_, hE5.tr (hEτ.mo (fun r k h => by omega))⟩
      by_cases hxc : x = c
      · rw [hxc]; exact hg
      · rw [hEτ.i _ _ (by omega), gi_ne_k _ _ _ _ hxc]; exact hJ x (by omega)
    by_cases hcp : cpB ld (dM c) = true
    · refine x_just19 hok (tp := tp) c hc hcp _ _ (si s 125 c 0) hM5 (hTp0.of hE5 (fun r k z => by omega)) (gi ld 2 4).toNat 0 FU 0 (si s 125 c 0) (by omega) (by unfold FU; omega) (EqP.rf _ _) (gi_same _ _ _ _) ?_
      intro τ hEτ hg
      refine fin τ hEτ ?_
      rw [hg]
      unfold enG enP
      rw [if_pos hcp]
    · have hb := hM0.1
      have hi : iw ((c : Int) + 1) = ((c + 1 : Nat) : Int) := by rw [iwc (by omega) (by omega)]; omega
      have hz := fin (si s 125 c 0) (EqP.rf _ _) (by rw [gi_same]; unfold enG; rw [if_neg hcp])
      obtain ⟨f', hf'⟩ : ∃ f', FU = f' + 1 := ⟨FU - 1, by unfold FU; omega⟩
      rw [hf', l_Mo_layJust_19, hM5.2.1, Int.toNat_natCast, hM5.2.2.1.2.1, hi]
      exact wp_oc (by omega) (wp_i (fun _ => hz) (fun _ => wp_b0 (x_canBe hok hM5 c hc) hcp (wp_t rfl hz)))
  · rintro fu' s ⟨hJ, hE⟩
    show Wp (l_Mo_layJust_2 (fu' + 1) ((216 : Nat) : Int) s) _
    rw [l_Mo_layJust_2]
    unfold f_Mo_coupleMany
    exact wp_eq rfl (wp_t (by omega) (wp_some ⟨hJ, hE⟩))
theorem fuL_val {ld : SS} (hok : LdOK ld) : fuL ld = ((2 ^ (gi ld 2 4).toNat : Nat) : Int) - 1 ∧ (0 < gi ld 2 4 → fuL ld ≠ 0) ∧ (gi ld 2 4 ≤ 0 → fuL ld = 0) := by
  have l4 := hok.2.1
  have h2 : 2 ^ (gi ld 2 4).toNat ≤ 2 ^ 14 := Nat.pow_le_pow_right (by omega) (by omega)
  have h1 : 1 ≤ 2 ^ (gi ld 2 4).toNat := Nat.one_le_two_pow
  have e : fuL ld = ((2 ^ (gi ld 2 4).toNat : Nat) : Int) - 1 := by
    unfold fuL
    rw [show gi ld 2 4 = (((gi ld 2 4).toNat : Nat) : Int) by omega, zshl_1 _ (by omega), Int.toNat_natCast, iwc (by omega) (by omega)]
  refine ⟨e, fun h => ?_, fun h => ?_⟩
  · have : 2 ^ 1 ≤ 2 ^ (gi ld 2 4).toNat := Nat.pow_le_pow_right (by omega) (by omega)
    omega
  · rw [e, show (gi ld 2 4).toNat = 0 by omega]; rfl
theorem y_cover : MP f_Qu_cover f_Mo_cover := by
  rintro σ ⟨ld, bk, hok, hL, hM, hEA, hRO, hLY, hRP, hTA⟩
  have hI : Inv σ := ⟨ld, bk, hok, hL, hM, hEA, hRO, hLY, hRP, hTA⟩
  have hTp : TPM ld σ bk (gi σ 47) := tpm_ea hEA hTA
  have l4 := hok.2.1
  unfold f_Qu_cover f_Mo_cover
  refine wp_call (x_endings hok (tp := gi σ 47) σ hL (fun _ _ => rfl)) ?_
  rintro _ s2 ⟨hA2, hE2⟩
  refine wp_call (x_layCover hok _ _ (EL_len hok _) s2 (hL.of hE2 (fun r k z => by omega)) hA2) ?_
  rintro v s4 ⟨hE4, hv⟩
  refine wp_some (wp_os ?_)
  have hE04 : EqP SCl σ s4 := (hE2.mo (fun r k h => by omega)).tr (hE4.mo (fun r k h => by omega))
  have hE1 : EqP SCl σ (si s4 86 62 0) := EqP.si hE04 _ _ _ (by omega)
  have hF1 : EqP (fun r k => r = 86 ∧ k = 62) s4 (si s4 86 62 0) := by repeat (first | exact EqP.rf _ _ | (refine EqP.si ?_ _ _ _ (by omega)) | (refine EqP.sj ?_ _ _ _ (by omega)) | (refine EqP.sr ?_ _ _ (fun k => by omega)))
  have hM1 := hM.of hE1 (fun r k z => by omega)
  have hT1 := hTp.of hE1 (fun r k z => by omega)
  have k62 : gi (si s4 86 62 0) 86 62 = 0 := gi_same _ _ _ _
  generalize si s4 86 62 0 = s1' at hE1 hF1 hM1 hT1 k62 ⊢
  have hb := hM.1
  rw [hM1.2.1, Int.toNat_natCast, hM1.2.2.1.2.1]
  refine wp_oc (by omega) (wp_ol ?_)
  show Wp (if fuL ld = 0 then _ else _) _
  rcases hv with ⟨h0, rfl, hY⟩ | ⟨h0, rfl, hY⟩
  · refine wp_t ((fuL_val hok).2.2 h0) (wp_some ⟨rfl, hI.ly hE1 ⟨0, by omega, ?_, k62, fun j hj => by omega⟩⟩)
    rw [hF1.i _ _ (by omega)]; exact hY.1
  · refine wp_f ((fuL_val hok).2.1 h0) ?_
    refine wp_call (x_just hok (tp := gi σ 47) s1' hM1 hT1) ?_
    rintro _ s6 ⟨hJ6, hE6⟩
    unfold f_Mo_coupleMany
    refine wp_eq rfl ?_
    refine wp_mono (x_rc36 (ld := ld) (enG ld (gi σ 47)) (fuL ld) s6 hJ6 ⟨by rw [hE6.i _ _ (by omega)]; exact k62, fun i hi => absurd hi (Nat.not_lt_zero i)⟩ 216 0 FU (by omega) (by unfold FU; omega)) ?_
    rw [List.drop_zero]
    rintro w τ ⟨hE7, rfl, hYM⟩
    have hsame := cv_same (e := enG ld (gi σ 47)) (fun t => enG_rng hok) ((fuL_val hok).2.1 h0)
    rw [← EL_eq] at hsame
    rw [hsame] at hY ⊢
    have hEt : EqP SCl σ τ := (hE1.tr (hE6.mo (fun r k h => by omega))).tr (hE7.mo (fun r k h => by omega))
    refine ⟨rfl, hI.ly hEt ?_⟩
    have hlen3 : (cvR (enG ld (gi σ 47)) (fuL ld) TRp).length ≤ 3 := by
      unfold cvR
      split
      · simp
      · split
        · simp
        · split <;> simp
    refine ⟨(cvR (enG ld (gi σ 47)) (fuL ld) TRp).length, by omega, ?_, hYM.1, fun j hj => ?_⟩
    · rw [hE7.i _ _ (by omega), hE6.i _ _ (by omega), hF1.i _ _ (by omega)]; exact hY.1
    · rw [hE7.i 65 _ (by omega), hE6.i 65 _ (by omega), hF1.i 65 _ (by omega), hY.2 j hj, hYM.2 j hj]
