/-! a token: the class -/
theorem run_ex (P : Nat → Prop) (N : Nat) : ∀ r p, p + r = N → ∃ e, p ≤ e ∧ e ≤ N ∧ (∀ i, p ≤ i → i < e → P i) ∧ (e = N ∨ ¬ P e) := by
  intro r
  induction r with
  | zero => intro p h; exact ⟨p, by omega, by omega, fun i h1 h2 => by omega, Or.inl (by omega)⟩
  | succ r ih =>
    intro p h
    by_cases hp : P p
    · obtain ⟨e, h1, h2, h3, h4⟩ := ih (p + 1) (by omega)
      refine ⟨e, by omega, h2, fun i k1 k2 => ?_, h4⟩
      by_cases hi : i = p
      · rw [hi]; exact hp
      · exact h3 i (by omega) k2
    · exact ⟨p, by omega, by omega, fun i h1 h2 => by omega, Or.inr hp⟩
/-- where a token is: behind blanks from s on it is at q and ends ahead of e -/
def Cut (B : Nat → Int) (N s q e t : Nat) : Prop := s ≤ q ∧ e ≤ N ∧ (∀ i, s ≤ i → i < q → isBl (B i)) ∧ (q = N ∨ ¬ isBl (B q)) ∧ (t = 0 ∧ q = N ∧ e = N ∨ q < N ∧ q < e ∧ (t = 1 ∧ (∀ i, q ≤ i → i < e → isL (B i)) ∧ (e = N ∨ ¬ isL (B e)) ∨ t = 2 ∧ (∀ i, q ≤ i → i < e → isD (B i)) ∧ (e = N ∨ ¬ isD (B e)) ∨ t = 3 ∧ e = q + 1 ∧ ¬ isL (B q) ∧ ¬ isD (B q)))
theorem cut_ex (B : Nat → Int) (N s : Nat) (h : s ≤ N) : ∃ q e t, Cut B N s q e t := by
  obtain ⟨q, h1, h2, h3, h4⟩ := run_ex (fun i => isBl (B i)) N (N - s) s (by omega)
  by_cases hq : q = N
  · exact ⟨q, N, 0, h1, by omega, h3, h4, Or.inl ⟨rfl, hq, rfl⟩⟩
  · by_cases hl : isL (B q)
    · obtain ⟨e, k1, k2, k3, k4⟩ := run_ex (fun i => isL (B i)) N (N - (q + 1)) (q + 1) (by omega)
      refine ⟨q, e, 1, h1, k2, h3, h4, Or.inr ⟨by omega, by omega, Or.inl ⟨rfl, fun i j1 j2 => ?_, k4⟩⟩⟩
      by_cases hi : i = q
      · rw [hi]; exact hl
      · exact k3 i (by omega) j2
    · by_cases hd : isD (B q)
      · obtain ⟨e, k1, k2, k3, k4⟩ := run_ex (fun i => isD (B i)) N (N - (q + 1)) (q + 1) (by omega)
        refine ⟨q, e, 2, h1, k2, h3, h4, Or.inr ⟨by omega, by omega, Or.inr (Or.inl ⟨rfl, fun i j1 j2 => ?_, k4⟩)⟩⟩
        by_cases hi : i = q
        · rw [hi]; exact hd
        · exact k3 i (by omega) j2
      · exact ⟨q, q + 1, 3, h1, by omega, h3, h4, Or.inr ⟨by omega, by omega, Or.inr (Or.inr ⟨rfl, rfl, hl, hd⟩)⟩⟩
abbrev PTc : Nat → Nat → Prop := fun r k => r = 43 ∧ 2 ≤ k
theorem x_moveB {B : Nat → Int} {N q : Nat} (hq : q ≤ N) (hend : q = N ∨ ¬ isBl (B q)) (σ0 : SS) (Q : Int → SS → Prop) (hQ : ∀ τ, EqP PTc σ0 τ → gi τ 43 2 = q → Wp (j_To_move_38 τ) Q) :
    ∀ (r p fu : Nat) (σ : SS), p + r = q → r < fu → TXC B N σ → EqP PTc σ0 σ → gi σ 43 2 = p → (∀ i, p ≤ i → i < q → isBl (B i)) → Wp (l_To_move_0 fu σ) Q := by
  intro r
  induction r with
  | zero =>
    intro p fu σ hp hfu hT hE h2 _
    obtain ⟨fu, rfl⟩ : ∃ f, fu = f + 1 := ⟨fu - 1, by omega⟩
    have hN := hT.1
    rw [l_To_move_0]
    by_cases h : q = N
    · exact wp_t (by omega) (hQ σ hE (by omega))
    · refine wp_f (by omega) ?_
      rw [h2]
      refine wp_eq (x_signC hT p) ?_
      refine wp_b0 (x_isBlank _ _) ?_ (wp_t rfl (hQ σ hE (by omega)))
      rw [sgC_eq p (by omega), show p = q by omega]
      exact hend.resolve_left h
  | succ r ih =>
    intro p fu σ hp hfu hT hE h2 hb
    obtain ⟨fu, rfl⟩ : ∃ f, fu = f + 1 := ⟨fu - 1, by omega⟩
    have hN := hT.1
    have hN2 := hT.2.1
    rw [l_To_move_0]
    refine wp_f (by omega) ?_
    rw [h2]
    refine wp_eq (x_signC hT p) ?_
    refine wp_b1 (x_isBlank _ _) (by rw [sgC_eq p (by omega)]; exact hb p (by omega) (by omega)) (wp_f (by decide) (wp_os ?_))
    rw [h2, iwc (by omega) (by omega)]
    exact ih (p + 1) fu _ (by omega) (by omega) (hT.of (P := fun r k => r = 43 ∧ k = 2) (EqP.si (EqP.rf _ _) _ _ _ (by omega)) (fun r k z => by omega)) (EqP.si hE _ _ _ (by omega)) (by rw [gi_same]; omega) (fun i h3 h4 => hb i (by omega) h4)
theorem x_word5 {B : Nat → Int} {N q e : Nat} (hqe : q ≤ e ∧ e ≤ N) (hl : ∀ i, q ≤ i → i < e → isL (B i)) (hend : e = N ∨ ¬ isL (B e)) (σ0 : SS) (Q : Int → SS → Prop) (hQ : ∀ τ, EqP PTc σ0 τ → gi τ 43 4 = q → gi τ 43 2 = e → (e - q ≤ 8 → gj τ 43 6 = r32 (wl B q (e - q))) → Wp (j_To_takeWord_70 τ) Q) :
    ∀ (r c fu : Nat) (σ : SS), c + r = e - q → r < fu → TXC B N σ → EqP PTc σ0 σ → gi σ 43 4 = q → gi σ 43 2 = ((q + c : Nat) : Int) → (c ≤ 8 → gj σ 43 6 = r32 (wl B q c)) → Wp (l_To_takeWord_5 fu σ) Q := by
  intro r
  induction r with
  | zero =>
    intro c fu σ hc hfu hT hE h4 h2 h6
    obtain ⟨fu, rfl⟩ : ∃ f, fu = f + 1 := ⟨fu - 1, by omega⟩
    have hN := hT.1
    have hfin : Wp (j_To_takeWord_70 σ) Q := hQ σ hE h4 (by omega) (fun z => by rw [← show c = e - q by omega]; exact h6 (by omega))
    rw [l_To_takeWord_5]
    by_cases h : e = N
    · exact wp_t (by omega) hfin
    · refine wp_f (by omega) ?_
      rw [h2]
      refine wp_eq (x_signC hT (q + c)) ?_
      refine wp_b0 (x_isLetterC _ _) ?_ (wp_t rfl hfin)
      rw [sgC_eq (q + c) (by omega), show q + c = e by omega]
      exact hend.resolve_left h
  | succ r ih =>
    intro c fu σ hc hfu hT hE h4 h2 h6
    obtain ⟨fu, rfl⟩ : ∃ f, fu = f + 1 := ⟨fu - 1, by omega⟩
    have hN := hT.1
    have hN2 := hT.2.1
    have hlq := hl (q + c) (by omega) (by omega)
    rw [l_To_takeWord_5]
    refine wp_f (by omega) ?_
    rw [h2]
    refine wp_eq (x_signC hT (q + c)) ?_
    refine wp_b1 (x_isLetterC _ _) (by rw [sgC_eq _ (by omega)]; exact hlq) (wp_f (by decide) ?_)
    rw [h2]
    refine wp_eq (x_signC hT (q + c)) (wp_os (wp_os ?_))
    rw [gi_sj, h2, sgC_eq _ (by omega), iwc (x := (((q + c : Nat) : Int)) + 1) (by omega) (by omega)]
    refine ih (c + 1) fu _ (by omega) (by omega) (hT.of (P := fun r k => r = 43 ∧ 2 ≤ k) (EqP.si (EqP.sj (EqP.rf _ _) _ _ _ (by omega)) _ _ _ (by omega)) (fun r k z => by omega)) (EqP.si (EqP.sj hE _ _ _ (by omega)) _ _ _ (by omega)) (by simp (disch := omega) only [gi_same, gi_ne_r, gi_ne_k, gi_sr_same, gi_sr_ne, gj_sj_same, gj_sj_ne_r, gj_sj_ne_k, gj_si, gi_sj, gj_sr, iwc, jwc, Int.toNat_natCast, tdn, tmn, b0, b1, yc0, yc1]; exact h4) (by rw [gi_same]; omega) (fun h8 => ?_)
    rw [gj_si, gj_sj_same, h6 (by omega), wl, r32]
    have h32 := r32_8 (wl B q c) (wl_lts B q c (fun i h1 h3 => hl i h1 (by omega))) 0 (by rw [wl_len]; omega)
    rw [jwc (x := 32 * r32 (wl B q c)) (by omega) (by omega), iwc (x := B (q + c) - 97) (by omega) (by omega), iwc (by omega) (by omega), jwc (by omega) (by omega)]
    omega
/-- what the class says of a word -/
def KW (B : Nat → Int) (q e : Nat) (τ : SS) : Prop := 8 < e - q ∧ gi τ 43 3 = 1 ∨ e - q ≤ 8 ∧ gj τ 43 6 = r32 (wl B q (e - q)) ∧ (gi τ 43 3 = 3 ∧ (∀ i, i < 21 → r32 (wl B q (e - q)) ≠ kwC i) ∨ ∃ i, i < 21 ∧ gi τ 43 3 = ((256 + i : Nat) : Int) ∧ r32 (wl B q (e - q)) = kwC i)
theorem x_word70 {B : Nat → Int} {q e : Nat} (he : q ≤ e ∧ e ≤ 1600) {σ : SS} (h4 : gi σ 43 4 = q) (h2 : gi σ 43 2 = e) (h6 : e - q ≤ 8 → gj σ 43 6 = r32 (wl B q (e - q))) : Wp (j_To_takeWord_70 σ) fun _ τ => EqP (fun r k => r = 43 ∧ k = 3) σ τ ∧ KW B q e τ := by
  unfold j_To_takeWord_70 j_To_takeWord_90
  rw [h4, h2, iwc (by omega) (by omega)]
  obtain ⟨f, hf⟩ : ∃ f, FU = f + 1 + 200 := ⟨FU - 201, by unfold FU; omega⟩
  rw [hf]
  by_cases h : e - q ≤ 8
  · refine wp_t (by omega) (wp_os ?_)
    have hE : EqP (fun r k => r = 43 ∧ k = 3) σ (si σ 43 3 3) := EqP.si (EqP.rf _ _) _ _ _ (by omega)
    refine wp_mono (kw_all (si σ 43 3 3) (gi_same _ _ _ _) 21 0 (f + 1 + 200) (by omega) (by omega) (fun i hi => by omega)) ?_
    rintro _ τ ⟨hE2, hk⟩
    have e6 : gj τ 43 6 = r32 (wl B q (e - q)) := by rw [hE2.j _ _ (by omega), gj_si]; exact h6 h
    refine ⟨hE.tr hE2, Or.inr ⟨h, e6, ?_⟩⟩
    rw [gj_si, h6 h] at hk
    exact hk
  · refine wp_f (by omega) (wp_os ?_)
    show Wp (l_To_takeWord_102 ((f + 200) + 1) 256 0 0 (si σ 43 3 1)) _
    rw [l_To_takeWord_102]
    refine wp_f (by omega) (wp_f ?_ (wp_some ⟨EqP.si (EqP.rf _ _) _ _ _ (by omega), Or.inl ⟨by omega, gi_same _ _ _ _⟩⟩))
    rw [gi_same]
    omega
theorem x_num5 {B : Nat → Int} {N q e : Nat} (hqe : q ≤ e ∧ e ≤ N) (hl : ∀ i, q ≤ i → i < e → isD (B i)) (hend : e = N ∨ ¬ isD (B e)) (σ0 : SS) (Q : Int → SS → Prop) (hQ : ∀ τ, TXC B N τ → EqP PTc σ0 τ → gi τ 43 4 = q → gi τ 43 2 = e → (e - q ≤ 4 → gi τ 43 5 = dv B q (e - q)) → Wp (j_To_takeNumber_66 τ) Q) :
    ∀ (r c fu : Nat) (σ : SS), c + r = e - q → r < fu → TXC B N σ → EqP PTc σ0 σ → gi σ 43 4 = q → gi σ 43 2 = ((q + c : Nat) : Int) → (c ≤ 4 → gi σ 43 5 = dv B q c) → Wp (l_To_takeNumber_5 fu σ) Q := by
  intro r
  induction r with
  | zero =>
    intro c fu σ hc hfu hT hE h4 h2 h6
    obtain ⟨fu, rfl⟩ : ∃ f, fu = f + 1 := ⟨fu - 1, by omega⟩
    have hN := hT.1
    have hfin : Wp (j_To_takeNumber_66 σ) Q := hQ σ hT hE h4 (by omega) (fun z => by rw [← show c = e - q by omega]; exact h6 (by omega))
    rw [l_To_takeNumber_5]
    by_cases h : e = N
    · exact wp_t (by omega) hfin
    · refine wp_f (by omega) ?_
      rw [h2]
      refine wp_eq (x_signC hT (q + c)) ?_
      refine wp_b0 (x_isDigitC _ _) ?_ (wp_t rfl hfin)
      rw [sgC_eq (q + c) (by omega), show q + c = e by omega]
      exact hend.resolve_left h
  | succ r ih =>
    intro c fu σ hc hfu hT hE h4 h2 h6
    obtain ⟨fu, rfl⟩ : ∃ f, fu = f + 1 := ⟨fu - 1, by omega⟩
    have hN := hT.1
    have hN2 := hT.2.1
    have hlq := hl (q + c) (by omega) (by omega)
    rw [l_To_takeNumber_5]
    refine wp_f (by omega) ?_
    rw [h2]
    refine wp_eq (x_signC hT (q + c)) ?_
    refine wp_b1 (x_isDigitC _ _) (by rw [sgC_eq _ (by omega)]; exact hlq) (wp_f (by decide) ?_)
    rw [h2]
    refine wp_eq (x_signC hT (q + c)) (wp_os (wp_os ?_))
    rw [gi_ne_k _ _ _ _ (show 2 ≠ 5 by omega), h2, sgC_eq _ (by omega), iwc (x := (((q + c : Nat) : Int)) + 1) (by omega) (by omega)]
    refine ih (c + 1) fu _ (by omega) (by omega) (hT.of (P := fun r k => r = 43 ∧ 2 ≤ k) (EqP.si (EqP.si (EqP.rf _ _) _ _ _ (by omega)) _ _ _ (by omega)) (fun r k z => by omega)) (EqP.si (EqP.si hE _ _ _ (by omega)) _ _ _ (by omega)) (by simp (disch := omega) only [gi_same, gi_ne_r, gi_ne_k, gi_sr_same, gi_sr_ne, gj_sj_same, gj_sj_ne_r, gj_sj_ne_k, gj_si, gi_sj, gj_sr, iwc, jwc, Int.toNat_natCast, tdn, tmn, b0, b1, yc0, yc1]; exact h4) (by rw [gi_same]; omega) (fun h8 => ?_)
    rw [gi_ne_k _ _ _ _ (show 5 ≠ 2 by omega), gi_same, h6 (by omega), dv]
    have h32 := dv_b B q c (fun i h1 h3 => hl i h1 (by omega)) (by omega)
    rw [iwc (x := 10 * dv B q c) (by omega) (by omega), iwc (x := B (q + c) - 48) (by omega) (by omega), iwc (by omega) (by omega)]
/-- what the class says of digits -/
def KD (B : Nat → Int) (N q e : Nat) (τ : SS) : Prop := (4 < e - q ∨ e < N ∧ isL (B e)) ∧ gi τ 43 3 = 1 ∨ ¬ (4 < e - q ∨ e < N ∧ isL (B e)) ∧ gi τ 43 3 = 2 ∧ gi τ 43 5 = dv B q (e - q)
theorem x_num66 {B : Nat → Int} {N q e : Nat} (he : q ≤ e ∧ e ≤ N) {σ : SS} (hT : TXC B N σ) (h4 : gi σ 43 4 = q) (h2 : gi σ 43 2 = e) (h6 : e - q ≤ 4 → gi σ 43 5 = dv B q (e - q)) : Wp (j_To_takeNumber_66 σ) fun _ τ => EqP (fun r k => r = 43 ∧ k = 3) σ τ ∧ KD B N q e τ := by
  have hN2 := hT.2.1
  unfold j_To_takeNumber_66 j_To_takeNumber_94 j_To_takeNumber_99
  rw [h4, h2, iwc (by omega) (by omega)]
  by_cases h : e - q ≤ 4
  · refine wp_f (by omega) ?_
    refine wp_eq (x_signC hT e) ?_
    by_cases hl : e < N ∧ isL (B e)
    · refine wp_b1 (x_isLetterC _ _) ((sg_l (fun i hi => (hT.2.2 i hi).2) e).1.mpr hl) (wp_f (by decide) (wp_os (wp_some ⟨EqP.si (EqP.rf _ _) _ _ _ (by omega), Or.inl ⟨Or.inr hl, gi_same _ _ _ _⟩⟩)))
    · refine wp_b0 (x_isLetterC _ _) (fun z => hl ((sg_l (fun i hi => (hT.2.2 i hi).2) e).1.mp z)) (wp_t rfl (wp_os (wp_some ⟨EqP.si (EqP.rf _ _) _ _ _ (by omega), Or.inr ⟨by omega, gi_same _ _ _ _, ?_⟩⟩)))
      rw [gi_ne_k _ _ _ _ (by omega)]
      exact h6 h
  · exact wp_t (by omega) (wp_os (wp_some ⟨EqP.si (EqP.rf _ _) _ _ _ (by omega), Or.inl ⟨Or.inl (by omega), gi_same _ _ _ _⟩⟩))
def KC (B : Nat → Int) (N q e t : Nat) (τ : SS) : Prop := t = 0 ∧ gi τ 43 3 = 0 ∨ t = 1 ∧ KW B q e τ ∨ t = 2 ∧ KD B N q e τ ∨ t = 3 ∧ (isSg (B q) ∧ gi τ 43 3 = B q ∨ ¬ isSg (B q) ∧ gi τ 43 3 = 1)
theorem x_move {B : Nat → Int} {N s q e t : Nat} {σ : SS} (hT : TXC B N σ) (h2 : gi σ 43 2 = s) (hc : Cut B N s q e t) : Wp (f_To_move σ) fun _ τ => EqP PTc σ τ ∧ gi τ 43 4 = q ∧ gi τ 43 2 = e ∧ KC B N q e t τ := by
  obtain ⟨c1, c2, c3, c4, c5⟩ := hc
  have hN2 := hT.2.1
  have hB : ∀ i, i < N → -128 ≤ B i ∧ B i < 128 := fun i hi => (hT.2.2 i hi).2
  have hqN : q ≤ N := by omega
  unfold f_To_move
  refine x_moveB hqN c4 σ _ ?_ (q - s) s FU σ (by omega) (by unfold FU; omega) hT (EqP.rf _ _) h2 c3
  intro τ hE g2
  have hTt : TXC B N τ := hT.of hE (fun r k z => by omega)
  unfold j_To_move_38
  refine wp_os ?_
  rw [g2]
  have hE1 : EqP PTc σ (si τ 43 4 q) := EqP.si hE _ _ _ (by omega)
  have hT1 : TXC B N (si τ 43 4 q) := hT.of hE1 (fun r k z => by omega)
  have k2 : gi (si τ 43 4 q) 43 2 = q := by rw [gi_ne_k _ _ _ _ (by omega)]; exact g2
  have k4 : gi (si τ 43 4 q) 43 4 = q := gi_same _ _ _ _
  generalize si τ 43 4 q = s1 at hE1 hT1 k2 k4 ⊢
  have k1 := hT1.1
  rw [k2]
  refine wp_eq (x_signC hT1 q) ?_
  rcases c5 with ⟨rfl, h1, h3⟩ | ⟨h1, h3, h5⟩
  · refine wp_f (by omega) (wp_os (wp_some ⟨EqP.si hE1 _ _ _ (by omega), ?_, ?_, Or.inl ⟨rfl, gi_same _ _ _ _⟩⟩))
    · rw [gi_ne_k _ _ _ _ (by omega)]; exact k4
    · rw [gi_ne_k _ _ _ _ (by omega)]; omega
  · refine wp_t (by omega) ?_
    rcases h5 with ⟨rfl, hl, hend⟩ | ⟨rfl, hl, hend⟩ | ⟨rfl, he, hl, hd⟩
    · refine wp_b1 (x_isLetterC _ _) (by rw [sgC_eq q h1]; exact hl q (by omega) (by omega)) (wp_f (by decide) ?_)
      unfold f_To_takeWord
      refine wp_ob (wp_os ?_)
      refine x_word5 (N := N) ⟨by omega, c2⟩ hl hend s1 _ ?_ (e - q) 0 FU _ (by omega) (by unfold FU; omega) (hT1.of (P := PTc) (EqP.sj (EqP.rf _ _) _ _ _ (by omega)) (fun r k z => by omega)) (EqP.sj (EqP.rf _ _) _ _ _ (by omega)) (by rw [gi_sj]; exact k4) (by rw [gi_sj]; exact k2) (fun _ => by rw [gj_sj_same]; rfl)
      intro s2 hE2 j4 j2 j6
      refine wp_mono (x_word70 ⟨by omega, by omega⟩ j4 j2 j6) ?_
      rintro _ s3 ⟨hE3, hK⟩
      exact wp_some ⟨(hE1.tr hE2).tr (hE3.mo (fun r k h => by omega)), by rw [hE3.i _ _ (by omega)]; exact j4, by rw [hE3.i _ _ (by omega)]; exact j2, Or.inr (Or.inl ⟨rfl, hK⟩)⟩
    · have hdq := hl q (by omega) (by omega)
      refine wp_b0 (x_isLetterC _ _) (by rw [sgC_eq q h1]; omega) (wp_t rfl ?_)
      refine wp_b1 (x_isDigitC _ _) (by rw [sgC_eq q h1]; exact hdq) (wp_f (by decide) ?_)
      unfold f_To_takeNumber
      refine wp_ob (wp_os ?_)
      refine x_num5 (N := N) ⟨by omega, c2⟩ hl hend s1 _ ?_ (e - q) 0 FU _ (by omega) (by unfold FU; omega) (hT1.of (P := PTc) (EqP.si (EqP.rf _ _) _ _ _ (by omega)) (fun r k z => by omega)) (EqP.si (EqP.rf _ _) _ _ _ (by omega)) (by rw [gi_ne_k _ _ _ _ (by omega)]; exact k4) (by rw [gi_ne_k _ _ _ _ (by omega)]; exact k2) (fun _ => by rw [gi_same]; rfl)
      intro s2 hT2 hE2 j4 j2 j6
      refine wp_mono (x_num66 ⟨by omega, c2⟩ hT2 j4 j2 j6) ?_
      rintro _ s3 ⟨hE3, hK⟩
      exact wp_some ⟨(hE1.tr hE2).tr (hE3.mo (fun r k h => by omega)), by rw [hE3.i _ _ (by omega)]; exact j4, by rw [hE3.i _ _ (by omega)]; exact j2, Or.inr (Or.inr (Or.inl ⟨rfl, hK⟩))⟩
    · refine wp_b0 (x_isLetterC _ _) (by rw [sgC_eq q h1]; exact hl) (wp_t rfl ?_)
      refine wp_b0 (x_isDigitC _ _) (by rw [sgC_eq q h1]; exact hd) (wp_t rfl (wp_os ?_))
      rw [k2, iwc (by omega) (by omega), sgC_eq q h1]
      unfold j_To_move_125
      by_cases hs : isSg (B q)
      · refine wp_b1 (x_isSignC _ _) hs (wp_f (by decide) (wp_os (wp_some ⟨EqP.si (EqP.si hE1 _ _ _ (by omega)) _ _ _ (by omega), ?_, ?_, Or.inr (Or.inr (Or.inr ⟨rfl, Or.inl ⟨hs, gi_same _ _ _ _⟩⟩))⟩)))
        · simp (disch := omega) only [gi_same, gi_ne_r, gi_ne_k, gi_sr_same, gi_sr_ne, gj_sj_same, gj_sj_ne_r, gj_sj_ne_k, gj_si, gi_sj, gj_sr, iwc, jwc, Int.toNat_natCast, tdn, tmn, b0, b1, yc0, yc1]; exact k4
        · simp (disch := omega) only [gi_same, gi_ne_r, gi_ne_k, gi_sr_same, gi_sr_ne, gj_sj_same, gj_sj_ne_r, gj_sj_ne_k, gj_si, gi_sj, gj_sr, iwc, jwc, Int.toNat_natCast, tdn, tmn, b0, b1, yc0, yc1]; omega
      · refine wp_b0 (x_isSignC _ _) hs (wp_t rfl (wp_os (wp_some ⟨EqP.si (EqP.si hE1 _ _ _ (by omega)) _ _ _ (by omega), ?_, ?_, Or.inr (Or.inr (Or.inr ⟨rfl, Or.inr ⟨hs, gi_same _ _ _ _⟩⟩))⟩)))
        · simp (disch := omega) only [gi_same, gi_ne_r, gi_ne_k, gi_sr_same, gi_sr_ne, gj_sj_same, gj_sj_ne_r, gj_sj_ne_k, gj_si, gi_sj, gj_sr, iwc, jwc, Int.toNat_natCast, tdn, tmn, b0, b1, yc0, yc1]; exact k4
        · simp (disch := omega) only [gi_same, gi_ne_r, gi_ne_k, gi_sr_same, gi_sr_ne, gj_sj_same, gj_sj_ne_r, gj_sj_ne_k, gj_si, gi_sj, gj_sr, iwc, jwc, Int.toNat_natCast, tdn, tmn, b0, b1, yc0, yc1]; omega
