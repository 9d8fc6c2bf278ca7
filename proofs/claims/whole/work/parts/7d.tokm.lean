/-! a token: the reference -/
abbrev PTm : Nat → Nat → Prop := fun r k => r = 86 ∧ 6 ≤ k ∧ k ≤ 10
theorem x_isKept1 (σ : SS) (j : Nat) (hj : j < 21) : f_Mo_isKept (kwM j) σ = some (1, σ) := by
  have h : j = 0 ∨ j = 1 ∨ j = 2 ∨ j = 3 ∨ j = 4 ∨ j = 5 ∨ j = 6 ∨ j = 7 ∨ j = 8 ∨ j = 9 ∨ j = 10 ∨ j = 11 ∨ j = 12 ∨ j = 13 ∨ j = 14 ∨ j = 15 ∨ j = 16 ∨ j = 17 ∨ j = 18 ∨ j = 19 ∨ j = 20 := by omega
  rcases h with rfl | rfl | rfl | rfl | rfl | rfl | rfl | rfl | rfl | rfl | rfl | rfl | rfl | rfl | rfl | rfl | rfl | rfl | rfl | rfl | rfl <;> rfl
theorem x_isKept0 (σ : SS) (a : Int) (h : ∀ j, j < 21 → a ≠ kwM j) : f_Mo_isKept a σ = some (0, σ) := by
  have g : ∀ j, j < 21 → ¬ ycmp a (kwM j) = 0 := fun j hj => by rw [yc0]; exact h j hj
  unfold f_Mo_isKept j_Mo_isKept_93
  rw [if_neg (show ¬ ycmp a 482854658917 = 0 from g 0 (by omega)), if_neg (show ¬ ycmp a 1667329133 = 0 from g 1 (by omega)), if_neg (show ¬ ycmp a 1701013615 = 0 from g 2 (by omega)), if_neg (show ¬ ycmp a 7823737 = 0 from g 3 (by omega)), if_neg (show ¬ ycmp a 29807 = 0 from g 4 (by omega)), if_neg (show ¬ ycmp a 495689623668 = 0 from g 5 (by omega)), if_neg (show ¬ ycmp a 1936684396 = 0 from g 6 (by omega)), if_neg (show ¬ ycmp a 8319403477078864494 = 0 from g 7 (by omega)), if_neg (show ¬ ycmp a 495673373300 = 0 from g 8 (by omega)), if_neg (show ¬ ycmp a 120265333040498 = 0 from g 9 (by omega)), if_neg (show ¬ ycmp a 422877228659 = 0 from g 10 (by omega)), if_pos rfl, if_neg (show ¬ ycmp a 28518 = 0 from g 11 (by omega)), if_neg (show ¬ ycmp a 1751474548 = 0 from g 12 (by omega)), if_neg (show ¬ ycmp a 1650549611 = 0 from g 13 (by omega)), if_neg (show ¬ ycmp a 1685217655 = 0 from g 14 (by omega)), if_neg (show ¬ ycmp a 444301141350 = 0 from g 18 (by omega)), if_neg (show ¬ ycmp a 1835625573 = 0 from g 19 (by omega)), if_neg (show ¬ ycmp a 1818584692 = 0 from g 20 (by omega)), if_neg (show ¬ ycmp a 28530 = 0 from g 15 (by omega)), if_neg (show ¬ ycmp a 6385252 = 0 from g 16 (by omega)), if_neg (show ¬ ycmp a 7237492 = 0 from g 17 (by omega))]
theorem x_goB {B : Nat → Int} {N q : Nat} (hq : q ≤ N) (hend : q = N ∨ ¬ isBl (B q)) (σ0 : SS) (Q : Int → SS → Prop) (hQ : ∀ τ, EqP PTm σ0 τ → gi τ 86 6 = q → Wp (j_Mo_goOn_58 τ) Q) :
    ∀ (r p fu : Nat) (σ : SS), p + r = q → r < fu → TXM B N σ → EqP PTm σ0 σ → gi σ 86 6 = p → (∀ i, p ≤ i → i < q → isBl (B i)) → Wp (l_Mo_goOn_8 fu σ) Q := by
  intro r
  induction r with
  | zero =>
    intro p fu σ hp hfu hT hE h6 _
    obtain ⟨fu, rfl⟩ : ∃ f, fu = f + 1 := ⟨fu - 1, by omega⟩
    have hN := hT.1
    rw [l_Mo_goOn_8]
    by_cases h : q = N
    · exact wp_t (by omega) (hQ σ hE (by omega))
    · have hb := (hT.2.2 q (by omega)).2
      have hnb : ¬ isBl (B q) := hend.resolve_left h
      have hs : sgM B N p = B p ∨ B p < 0 ∧ sgM B N p = B p + 256 := by
        unfold sgM
        rw [if_pos (by omega)]
        by_cases h0 : B p < 0
        · rw [if_pos h0]; omega
        · rw [if_neg h0]; omega
      rw [show q = p by omega] at hnb hb
      refine wp_f (by omega) ?_
      rw [h6]
      refine wp_eq (x_signM hT p) (wp_f (by omega) ?_)
      rw [h6]
      exact wp_eq (x_signM hT p) (wp_f (by omega) (hQ σ hE (by omega)))
  | succ r ih =>
    intro p fu σ hp hfu hT hE h6 hb
    obtain ⟨fu, rfl⟩ : ∃ f, fu = f + 1 := ⟨fu - 1, by omega⟩
    have hN := hT.1
    have hN2 := hT.2.1
    have hbp := hb p (by omega) (by omega)
    have hs : sgM B N p = B p := sgM_eq p (by omega) (by omega)
    have hnext : Wp (j_Mo_goOn_45 (l_Mo_goOn_8 fu) σ) Q := by
      unfold j_Mo_goOn_45
      refine wp_os ?_
      rw [h6, iwc (by omega) (by omega)]
      exact ih (p + 1) fu _ (by omega) (by omega) (hT.of (P := PTm) (EqP.si (EqP.rf _ _) _ _ _ (by omega)) (fun r k z => by omega)) (EqP.si hE _ _ _ (by omega)) (by rw [gi_same]; omega) (fun i h3 h4 => hb i (by omega) h4)
    rw [l_Mo_goOn_8]
    refine wp_f (by omega) ?_
    rw [h6]
    refine wp_eq (x_signM hT p) ?_
    by_cases h32 : sgM B N p = 32
    · exact wp_t h32 hnext
    · refine wp_f h32 ?_
      rw [h6]
      exact wp_eq (x_signM hT p) (wp_t (by omega) hnext)
/-- what the reference says of a word -/
def KWM (B : Nat → Int) (q e : Nat) (τ : SS) : Prop := 8 < e - q ∧ gi τ 86 8 = 1 ∨ e - q ≤ 8 ∧ gj τ 86 10 = r256 (wl B q (e - q)) ∧ (gi τ 86 8 = 2 ∧ (∀ i, i < 21 → r256 (wl B q (e - q)) ≠ kwM i) ∨ gi τ 86 8 = 3 ∧ ∃ i, i < 21 ∧ r256 (wl B q (e - q)) = kwM i)
theorem x_go199 {B : Nat → Int} {q e : Nat} (he : q ≤ e ∧ e ≤ 1600) {σ : SS} (h6 : gi σ 86 6 = q) (h7 : gi σ 86 7 = e) (hn : e - q ≤ 8 → gj σ 86 10 = r256 (wl B q (e - q))) : Wp (j_Mo_goOn_199 σ) fun _ τ => EqP (fun r k => r = 86 ∧ k = 8) σ τ ∧ KWM B q e τ := by
  unfold j_Mo_goOn_199 j_Mo_goOn_233
  rw [h6, h7, iwc (by omega) (by omega)]
  by_cases h : e - q ≤ 8
  · refine wp_t (by omega) ?_
    have hnn := hn h
    by_cases hk : ∃ j, j < 21 ∧ gj σ 86 10 = kwM j
    · obtain ⟨j, hj, hk⟩ := hk
      rw [hk]
      refine wp_eq (x_isKept1 σ j hj) (wp_f (by decide) (wp_os (wp_some ⟨EqP.si (EqP.rf _ _) _ _ _ (by omega), Or.inr ⟨h, ?_, Or.inr ⟨gi_same _ _ _ _, j, hj, ?_⟩⟩⟩)))
      · rw [gj_si]; exact hnn
      · rw [← hnn]; exact hk
    · have hk2 : ∀ j, j < 21 → gj σ 86 10 ≠ kwM j := fun j hj z => hk ⟨j, hj, z⟩
      refine wp_eq (x_isKept0 σ _ hk2) (wp_t rfl (wp_os (wp_some ⟨EqP.si (EqP.rf _ _) _ _ _ (by omega), Or.inr ⟨h, ?_, Or.inl ⟨gi_same _ _ _ _, ?_⟩⟩⟩)))
      · rw [gj_si]; exact hnn
      · rw [← hnn]; exact hk2
  · exact wp_f (by omega) (wp_os (wp_some ⟨EqP.si (EqP.rf _ _) _ _ _ (by omega), Or.inl ⟨by omega, gi_same _ _ _ _⟩⟩))
theorem x_go156 {B : Nat → Int} {N q e : Nat} (hqe : q ≤ e ∧ e ≤ N) (hl : ∀ i, q ≤ i → i < e → isL (B i)) (σ0 : SS) :
    ∀ (r c fu : Nat) (σ : SS), c + r = e - q → r < fu → TXM B N σ → EqP PTm σ0 σ → gi σ 86 6 = q → gi σ 86 7 = e → c ≤ 8 → gj σ 86 10 = r256 (wl B q c) → Wp (l_Mo_goOn_156 fu ((q + c : Nat) : Int) σ) fun _ τ => EqP PTm σ0 τ ∧ gi τ 86 6 = q ∧ gi τ 86 7 = e ∧ KWM B q e τ := by
  have fin : ∀ σ, (e ≤ 1600) → EqP PTm σ0 σ → gi σ 86 6 = q → gi σ 86 7 = e → (e - q ≤ 8 → gj σ 86 10 = r256 (wl B q (e - q))) → Wp (j_Mo_goOn_199 σ) fun _ τ => EqP PTm σ0 τ ∧ gi τ 86 6 = q ∧ gi τ 86 7 = e ∧ KWM B q e τ := by
    intro σ h16 hE h6 h7 hn
    refine wp_mono (x_go199 ⟨hqe.1, h16⟩ h6 h7 hn) ?_
    rintro _ τ ⟨hE2, hK⟩
    exact ⟨hE.tr (hE2.mo (fun r k h => by omega)), by rw [hE2.i _ _ (by omega)]; exact h6, by rw [hE2.i _ _ (by omega)]; exact h7, hK⟩
  intro r
  induction r with
  | zero =>
    intro c fu σ hc hfu hT hE h6 h7 h8 hn
    obtain ⟨fu, rfl⟩ : ∃ f, fu = f + 1 := ⟨fu - 1, by omega⟩
    have hN2 := hT.2.1
    rw [l_Mo_goOn_156]
    exact wp_t (by omega) (fin σ (by omega) hE h6 h7 (fun _ => by rw [← show c = e - q by omega]; exact hn))
  | succ r ih =>
    intro c fu σ hc hfu hT hE h6 h7 h8 hn
    obtain ⟨fu, rfl⟩ : ∃ f, fu = f + 1 := ⟨fu - 1, by omega⟩
    have hN2 := hT.2.1
    have hlq := hl (q + c) (by omega) (by omega)
    rw [l_Mo_goOn_156]
    refine wp_f (by omega) ?_
    rw [h6, iwc (x := (q : Int) + 8) (by omega) (by omega)]
    by_cases hc8 : c = 8
    · exact wp_t (by omega) (fin σ (by omega) hE h6 h7 (fun z => by omega))
    · refine wp_f (by omega) ?_
      refine wp_eq (x_signM hT (q + c)) (wp_os ?_)
      have hw := wl_lts B q c (fun i h1 h3 => hl i h1 (by omega))
      have h56 := r256_8 (wl B q c) hw (by rw [wl_len]; omega)
      rw [hn, sgM_eq _ (by omega) (by omega), y_name _ _ h56 (by omega), show iw (((q + c : Nat) : Int) + 1) = ((q + (c + 1) : Nat) : Int) by rw [iwc (by omega) (by omega)]; omega]
      refine ih (c + 1) fu _ (by omega) (by omega) (hT.of (P := PTm) (EqP.sj (EqP.rf _ _) _ _ _ (by omega)) (fun r k z => by omega)) (EqP.sj hE _ _ _ (by omega)) (by rw [gi_sj]; exact h6) (by rw [gi_sj]; exact h7) (by omega) ?_
      rw [gj_sj_same, wl, r256]
      omega
theorem x_go119 {B : Nat → Int} {N q e : Nat} (hqe : q < e ∧ e ≤ N) (hl : ∀ i, q ≤ i → i < e → isL (B i)) (hend : e = N ∨ ¬ isL (B e)) (σ0 : SS) :
    ∀ (r c fu : Nat) (σ : SS), c + r = e → r < fu → q ≤ c → TXM B N σ → EqP PTm σ0 σ → gi σ 86 6 = q → gi σ 86 7 = c → Wp (l_Mo_goOn_119 fu σ) fun _ τ => EqP PTm σ0 τ ∧ gi τ 86 6 = q ∧ gi τ 86 7 = e ∧ KWM B q e τ := by
  intro r
  induction r with
  | zero =>
    intro c fu σ hc hfu hqc hT hE h6 h7
    obtain ⟨fu, rfl⟩ : ∃ f, fu = f + 1 := ⟨fu - 1, by omega⟩
    have hN2 := hT.2.1
    obtain rfl : c = e := by omega
    rw [l_Mo_goOn_119, h7]
    refine wp_eq (x_signM hT c) ?_
    have hnl : ¬ isL (sgM B N c) := fun z => by
      have h2 := (sg_l (fun i hi => (hT.2.2 i hi).2) c).2.1.mp z
      rcases hend with h3 | h3
      · omega
      · exact h3 h2.2
    refine wp_b0 (x_isLetterM _ _) hnl (wp_t rfl (wp_os (wp_ol ?_)))
    rw [gi_sj, h6]
    have := x_go156 (N := N) ⟨by omega, hqe.2⟩ hl σ0 (c - q) 0 FU (sj σ 86 10 0) (by omega) (by unfold FU; omega) (hT.of (P := PTm) (EqP.sj (EqP.rf _ _) _ _ _ (by omega)) (fun r k z => by omega)) (EqP.sj hE _ _ _ (by omega)) (by rw [gi_sj]; exact h6) (by rw [gi_sj]; exact h7) (by omega) (by rw [gj_sj_same]; rfl)
    exact this
  | succ r ih =>
    intro c fu σ hc hfu hqc hT hE h6 h7
    obtain ⟨fu, rfl⟩ : ∃ f, fu = f + 1 := ⟨fu - 1, by omega⟩
    have hN2 := hT.2.1
    rw [l_Mo_goOn_119, h7]
    refine wp_eq (x_signM hT c) ?_
    refine wp_b1 (x_isLetterM _ _) ((sg_l (fun i hi => (hT.2.2 i hi).2) c).2.1.mpr ⟨by omega, hl c hqc (by omega)⟩) (wp_f (by decide) (wp_os ?_))
    rw [h7, iwc (by omega) (by omega)]
    exact ih (c + 1) fu _ (by omega) (by omega) (by omega) (hT.of (P := PTm) (EqP.si (EqP.rf _ _) _ _ _ (by omega)) (fun r k z => by omega)) (EqP.si hE _ _ _ (by omega)) (by rw [gi_ne_k _ _ _ _ (by omega)]; exact h6) (by rw [gi_same]; omega)
/-- what the reference says of digits -/
def KDM (B : Nat → Int) (N q e : Nat) (τ : SS) : Prop := (4 < e - q ∨ e < N ∧ isL (B e)) ∧ gi τ 86 8 = 1 ∨ ¬ (4 < e - q ∨ e < N ∧ isL (B e)) ∧ gi τ 86 8 = 4 ∧ gi τ 86 9 = dv B q (e - q)
theorem x_go259 {B : Nat → Int} {N q e : Nat} (hqe : q ≤ e ∧ e ≤ N) (hl : ∀ i, q ≤ i → i < e → isD (B i)) (hend : e = N ∨ ¬ isD (B e)) (σ0 : SS) :
    ∀ (r c fu : Nat) (σ : SS), c + r = e - q → r < fu → TXM B N σ → EqP PTm σ0 σ → gi σ 86 6 = q → gi σ 86 7 = ((q + c : Nat) : Int) → (c ≤ 4 → gi σ 86 9 = dv B q c) → Wp (l_Mo_goOn_259 fu σ) fun _ τ => EqP PTm σ0 τ ∧ gi τ 86 6 = q ∧ gi τ 86 7 = e ∧ KDM B N q e τ := by
  intro r
  induction r with
  | zero =>
    intro c fu σ hc hfu hT hE h6 h7 h9
    obtain ⟨fu, rfl⟩ : ∃ f, fu = f + 1 := ⟨fu - 1, by omega⟩
    have hN2 := hT.2.1
    obtain rfl : e = q + c := by omega
    have hB := fun i hi => (hT.2.2 i hi).2
    have hnd : ¬ isD (sgM B N (q + c)) := fun z => by
      have h2 := (sg_l hB (q + c)).2.2.2.mp z
      rcases hend with h3 | h3
      · omega
      · exact h3 h2.2
    rw [l_Mo_goOn_259, h7]
    refine wp_eq (x_signM hT (q + c)) ?_
    refine wp_b0 (x_isDigitM _ _) hnd (wp_t rfl ?_)
    unfold j_Mo_goOn_350 j_Mo_goOn_355
    rw [h6, h7, iwc (by omega) (by omega)]
    by_cases h : c ≤ 4
    · refine wp_f (by omega) ?_
      refine wp_eq (x_signM hT (q + c)) ?_
      by_cases hlt : q + c < N ∧ isL (B (q + c))
      · refine wp_b1 (x_isLetterM _ _) ((sg_l hB (q + c)).2.1.mpr hlt) (wp_f (by decide) (wp_os (wp_some ⟨EqP.si hE _ _ _ (by omega), ?_, ?_, Or.inl ⟨Or.inr hlt, gi_same _ _ _ _⟩⟩)))
        · rw [gi_ne_k _ _ _ _ (by omega)]; exact h6
        · rw [gi_ne_k _ _ _ _ (by omega)]; exact h7
      · refine wp_b0 (x_isLetterM _ _) (fun z => hlt ((sg_l hB (q + c)).2.1.mp z)) (wp_t rfl (wp_os (wp_some ⟨EqP.si hE _ _ _ (by omega), ?_, ?_, Or.inr ⟨by omega, gi_same _ _ _ _, ?_⟩⟩)))
        · rw [gi_ne_k _ _ _ _ (by omega)]; exact h6
        · rw [gi_ne_k _ _ _ _ (by omega)]; exact h7
        · rw [gi_ne_k _ _ _ _ (by omega), show q + c - q = c by omega]; exact h9 h
    · refine wp_t (by omega) (wp_os (wp_some ⟨EqP.si hE _ _ _ (by omega), ?_, ?_, Or.inl ⟨Or.inl (by omega), gi_same _ _ _ _⟩⟩))
      · rw [gi_ne_k _ _ _ _ (by omega)]; exact h6
      · rw [gi_ne_k _ _ _ _ (by omega)]; exact h7
  | succ r ih =>
    intro c fu σ hc hfu hT hE h6 h7 h9
    obtain ⟨fu, rfl⟩ : ∃ f, fu = f + 1 := ⟨fu - 1, by omega⟩
    have hN2 := hT.2.1
    have hlq := hl (q + c) (by omega) (by omega)
    have hB := fun i hi => (hT.2.2 i hi).2
    rw [l_Mo_goOn_259, h7]
    refine wp_eq (x_signM hT (q + c)) ?_
    refine wp_b1 (x_isDigitM _ _) ((sg_l hB (q + c)).2.2.2.mpr ⟨by omega, hlq⟩) (wp_f (by decide) ?_)
    unfold j_Mo_goOn_309
    rw [h6, h7, iwc (x := ((q + c : Nat) : Int) - (q : Int)) (by omega) (by omega)]
    by_cases h4 : 4 ≤ c
    · refine wp_t (by omega) (wp_os ?_)
      rw [iwc (by omega) (by omega)]
      exact ih (c + 1) fu _ (by omega) (by omega) (hT.of (P := PTm) (EqP.si (EqP.rf _ _) _ _ _ (by omega)) (fun r k z => by omega)) (EqP.si hE _ _ _ (by omega)) (by rw [gi_ne_k _ _ _ _ (by omega)]; exact h6) (by rw [gi_same]; omega) (fun z => by omega)
    · refine wp_f (by omega) ?_
      refine wp_eq (x_signM hT (q + c)) (wp_os (wp_os ?_))
      have h32 := dv_b B q c (fun i h1 h3 => hl i h1 (by omega)) (by omega)
      rw [gi_ne_k _ _ _ _ (show 7 ≠ 9 by omega), h7, iwc (x := ((q + c : Nat) : Int) + 1) (by omega) (by omega), h9 (by omega), sgM_eq _ (by omega) (by omega), iwc (x := 10 * dv B q c) (by omega) (by omega), iwc (x := 10 * dv B q c + B (q + c)) (by omega) (by omega), iwc (by omega) (by omega)]
      refine ih (c + 1) fu _ (by omega) (by omega) (hT.of (P := PTm) (EqP.si (EqP.si (EqP.rf _ _) _ _ _ (by omega)) _ _ _ (by omega)) (fun r k z => by omega)) (EqP.si (EqP.si hE _ _ _ (by omega)) _ _ _ (by omega)) (by simp (disch := omega) only [gi_same, gi_ne_r, gi_ne_k, gi_sr_same, gi_sr_ne, gj_sj_same, gj_sj_ne_r, gj_sj_ne_k, gj_si, gi_sj, gj_sr, iwc, jwc, Int.toNat_natCast, tdn, tmn, b0, b1, yc0, yc1]; exact h6) (by rw [gi_same]; omega) (fun _ => ?_)
      rw [gi_ne_k _ _ _ _ (by omega), gi_same, dv]
      omega
def KM (B : Nat → Int) (N q e t : Nat) (τ : SS) : Prop := t = 0 ∧ gi τ 86 8 = 0 ∨ t = 1 ∧ KWM B q e τ ∨ t = 2 ∧ KDM B N q e τ ∨ t = 3 ∧ (isSg (B q) ∧ gi τ 86 8 = 5 ∨ ¬ isSg (B q) ∧ gi τ 86 8 = 1)
theorem x_goOnM {B : Nat → Int} {N s q e t : Nat} {σ : SS} (hT : TXM B N σ) (h7 : gi σ 86 7 = s) (hc : Cut B N s q e t) : Wp (f_Mo_goOn σ) fun _ τ => EqP PTm σ τ ∧ gi τ 86 6 = q ∧ gi τ 86 7 = e ∧ KM B N q e t τ := by
  obtain ⟨c1, c2, c3, c4, c5⟩ := hc
  have hN2 := hT.2.1
  have hB : ∀ i, i < N → -128 ≤ B i ∧ B i < 128 := fun i hi => (hT.2.2 i hi).2
  have hqN : q ≤ N := by omega
  unfold f_Mo_goOn
  refine wp_os ?_
  rw [h7]
  refine x_goB hqN c4 σ _ ?_ (q - s) s FU _ (by omega) (by unfold FU; omega) (hT.of (P := PTm) (EqP.si (EqP.rf _ _) _ _ _ (by omega)) (fun r k z => by omega)) (EqP.si (EqP.rf _ _) _ _ _ (by omega)) (gi_same _ _ _ _) c3
  intro τ hE g6
  have hTt : TXM B N τ := hT.of hE (fun r k z => by omega)
  unfold j_Mo_goOn_58
  rw [g6]
  refine wp_eq (x_signM hTt q) (wp_os ?_)
  rw [g6, iwc (by omega) (by omega), show (q : Int) + 1 = ((q + 1 : Nat) : Int) by omega]
  have hE1 : EqP PTm σ (si τ 86 7 ((q + 1 : Nat) : Int)) := EqP.si hE _ _ _ (by omega)
  have hT1 : TXM B N (si τ 86 7 ((q + 1 : Nat) : Int)) := hT.of hE1 (fun r k z => by omega)
  have k6 : gi (si τ 86 7 ((q + 1 : Nat) : Int)) 86 6 = q := by rw [gi_ne_k _ _ _ _ (by omega)]; exact g6
  have k7 : gi (si τ 86 7 ((q + 1 : Nat) : Int)) 86 7 = ((q + 1 : Nat) : Int) := gi_same _ _ _ _
  generalize si τ 86 7 ((q + 1 : Nat) : Int) = s1 at hE1 hT1 k6 k7 ⊢
  have k1 := hT1.1
  rcases c5 with ⟨rfl, h1, h3⟩ | ⟨h1, h3, h5⟩
  · refine wp_f (by omega) (wp_os (wp_os (wp_os (wp_some ⟨EqP.si (EqP.si (EqP.si hE1 _ _ _ (by omega)) _ _ _ (by omega)) _ _ _ (by omega), ?_, ?_, Or.inl ⟨rfl, ?_⟩⟩))))
    · simp (disch := omega) only [gi_same, gi_ne_r, gi_ne_k, gi_sr_same, gi_sr_ne, gj_sj_same, gj_sj_ne_r, gj_sj_ne_k, gj_si, gi_sj, gj_sr, iwc, jwc, Int.toNat_natCast, tdn, tmn, b0, b1, yc0, yc1]; omega
    · simp (disch := omega) only [gi_same, gi_ne_r, gi_ne_k, gi_sr_same, gi_sr_ne, gj_sj_same, gj_sj_ne_r, gj_sj_ne_k, gj_si, gi_sj, gj_sr, iwc, jwc, Int.toNat_natCast, tdn, tmn, b0, b1, yc0, yc1]; omega
    · simp (disch := omega) only [gi_same, gi_ne_r, gi_ne_k, gi_sr_same, gi_sr_ne, gj_sj_same, gj_sj_ne_r, gj_sj_ne_k, gj_si, gi_sj, gj_sr, iwc, jwc, Int.toNat_natCast, tdn, tmn, b0, b1, yc0, yc1]
  · refine wp_t (by omega) ?_
    rcases h5 with ⟨rfl, hl, hend⟩ | ⟨rfl, hl, hend⟩ | ⟨rfl, he, hl, hd⟩
    · have hlq := hl q (by omega) (by omega)
      refine wp_b1 (x_isLetterM _ _) (by rw [sgM_eq q h1 (by omega)]; exact hlq) (wp_f (by decide) ?_)
      refine wp_mono (x_go119 (N := N) ⟨h3, c2⟩ hl hend σ (e - (q + 1)) (q + 1) FU s1 (by omega) (by unfold FU; omega) (by omega) hT1 hE1 k6 k7) ?_
      rintro _ s2 ⟨a1, a2, a3, a4⟩
      exact ⟨a1, a2, a3, Or.inr (Or.inl ⟨rfl, a4⟩)⟩
    · have hlq := hl q (by omega) (by omega)
      refine wp_b0 (x_isLetterM _ _) (by rw [sgM_eq q h1 (by omega)]; omega) (wp_t rfl ?_)
      refine wp_b1 (x_isDigitM _ _) (by rw [sgM_eq q h1 (by omega)]; exact hlq) (wp_f (by decide) (wp_os (wp_os ?_)))
      rw [gi_ne_k _ _ _ _ (show 6 ≠ 9 by omega), k6]
      refine wp_mono (x_go259 (N := N) ⟨by omega, c2⟩ hl hend σ (e - q) 0 FU _ (by omega) (by unfold FU; omega) (hT1.of (P := PTm) (EqP.si (EqP.si (EqP.rf _ _) _ _ _ (by omega)) _ _ _ (by omega)) (fun r k z => by omega)) (EqP.si (EqP.si hE1 _ _ _ (by omega)) _ _ _ (by omega)) (by simp (disch := omega) only [gi_same, gi_ne_r, gi_ne_k, gi_sr_same, gi_sr_ne, gj_sj_same, gj_sj_ne_r, gj_sj_ne_k, gj_si, gi_sj, gj_sr, iwc, jwc, Int.toNat_natCast, tdn, tmn, b0, b1, yc0, yc1]; exact k6) (by rw [gi_same]; rfl) (fun _ => by rw [gi_ne_k _ _ _ _ (by omega), gi_same]; rfl)) ?_
      rintro _ s2 ⟨a1, a2, a3, a4⟩
      exact ⟨a1, a2, a3, Or.inr (Or.inr (Or.inl ⟨rfl, a4⟩))⟩
    · have hsl := sg_l hB q
      refine wp_b0 (x_isLetterM _ _) (fun z => hl (hsl.2.1.mp z).2) (wp_t rfl ?_)
      refine wp_b0 (x_isDigitM _ _) (fun z => hd (hsl.2.2.2.mp z).2) (wp_t rfl ?_)
      unfold j_Mo_goOn_374
      have hsg : isSg (sgM B N q) ↔ isSg (B q) := by
        have := hB q h1
        unfold sgM
        rw [if_pos h1]
        by_cases h0 : B q < 0
        · rw [if_pos h0]; omega
        · rw [if_neg h0]
      have f6 : ∀ v, gi (si s1 86 8 v) 86 6 = q := fun v => by rw [gi_ne_k _ _ _ _ (by omega)]; exact k6
      have f7 : ∀ v, gi (si s1 86 8 v) 86 7 = e := fun v => by rw [gi_ne_k _ _ _ _ (by omega)]; omega
      by_cases hs : isSg (B q)
      · exact wp_b1 (x_isSignM _ _) (hsg.mpr hs) (wp_f (by decide) (wp_os (wp_some ⟨EqP.si hE1 _ _ _ (by omega), f6 _, f7 _, Or.inr (Or.inr (Or.inr ⟨rfl, Or.inl ⟨hs, gi_same _ _ _ _⟩⟩))⟩)))
      · exact wp_b0 (x_isSignM _ _) (fun z => hs (hsg.mp z)) (wp_t rfl (wp_os (wp_some ⟨EqP.si hE1 _ _ _ (by omega), f6 _, f7 _, Or.inr (Or.inr (Or.inr ⟨rfl, Or.inr ⟨hs, gi_same _ _ _ _⟩⟩))⟩)))
