/-! names; a line that tells a place -/
theorem w2_call2 {x y : OO} {k : Int → SS → OO} {f g : Int → SS → OO} {R Q : Int → SS → Int → SS → Prop} (h : W2 x (ob y f) R) (hk : ∀ r σ r' τ, R r σ r' τ → W2 (k r σ) (g r' τ) Q) : W2 (ob x k) (ob y fun r s => ob (f r s) g) Q := by
  rw [← ob_as]
  exact w2_call h hk
def ixF (f : Nat → Int) (v : Int) : Nat → Nat → Int
  | _, 0 => -1
  | c, r + 1 => if f c = v then (c : Int) else ixF f v (c + 1) r
theorem ixF_cg {f g : Nat → Int} {v w : Int} : ∀ r c, (∀ i, c ≤ i → i < c + r → (f i = v ↔ g i = w)) → ixF f v c r = ixF g w c r := by
  intro r
  induction r with
  | zero => intro c _; rfl
  | succ r ih =>
    intro c h
    rw [ixF, ixF, ih (c + 1) (fun i h1 h2 => h i (by omega) (by omega))]
    by_cases hc : f c = v
    · rw [if_pos hc, if_pos ((h c (by omega) (by omega)).mp hc)]
    · rw [if_neg hc, if_neg (fun z => hc ((h c (by omega) (by omega)).mpr z))]
theorem ixF_rng {f : Nat → Int} {v : Int} : ∀ r c, ixF f v c r = -1 ∨ (c : Int) ≤ ixF f v c r ∧ ixF f v c r < ((c + r : Nat) : Int) := by
  intro r
  induction r with
  | zero => intro c; exact Or.inl rfl
  | succ r ih =>
    intro c
    rw [ixF]
    by_cases hc : f c = v
    · rw [if_pos hc]; omega
    · rw [if_neg hc]
      have := ih (c + 1)
      omega
theorem x_indexOf (cu C : Nat) (hC : C ≤ rN cu) (hc : C ≤ 100) (v : Int) (σ : SS) : ∀ (r c fu : Nat), c + r = C → r < fu → l_Re_indexOf_3 cu (C : Int) v fu (c : Int) σ = some (ixF (gj σ cu) v c r, σ) := by
  intro r
  induction r with
  | zero =>
    intro c fu h hfu
    obtain ⟨fu, rfl⟩ : ∃ f, fu = f + 1 := ⟨fu - 1, by omega⟩
    rw [l_Re_indexOf_3, if_pos (by omega)]
    rfl
  | succ r ih =>
    intro c fu h hfu
    obtain ⟨fu, rfl⟩ : ∃ f, fu = f + 1 := ⟨fu - 1, by omega⟩
    rw [l_Re_indexOf_3, if_neg (by omega), if_neg (by omega), oc_pos (by omega), Int.toNat_natCast, ixF]
    by_cases hc2 : gj σ cu c = v
    · rw [if_pos (show ycmp (gj σ cu c) v = 0 by rw [yc0]; exact hc2), if_pos hc2]
    · rw [if_neg (show ¬ ycmp (gj σ cu c) v = 0 by rw [yc0]; exact hc2), if_neg hc2, iwc (by omega) (by omega), show (c : Int) + 1 = ((c + 1 : Nat) : Int) by omega, ih (c + 1) fu (by omega) (by omega)]
theorem x_hereN (rm off C : Nat) (hC : off + C ≤ rN rm) (hc : off + C ≤ 100) (τ : SS) (h8 : gi τ 86 8 = 2) : ∀ (r c fu : Nat), c + r = C → r < fu → l_Mo_here_3 rm (off : Int) (C : Int) fu (c : Int) τ = some (ixF (fun i => gj τ rm (off + i)) (gj τ 86 10) c r, τ) := by
  intro r
  induction r with
  | zero =>
    intro c fu h hfu
    obtain ⟨fu, rfl⟩ : ∃ f, fu = f + 1 := ⟨fu - 1, by omega⟩
    rw [l_Mo_here_3, if_pos (by omega)]
    rfl
  | succ r ih =>
    intro c fu h hfu
    obtain ⟨fu, rfl⟩ : ∃ f, fu = f + 1 := ⟨fu - 1, by omega⟩
    have e : iw ((off : Int) + (c : Int)) = ((off + c : Nat) : Int) := by rw [iwc (by omega) (by omega)]; omega
    rw [l_Mo_here_3, if_neg (by omega), if_pos h8, e, oc_pos (by omega), Int.toNat_natCast, ixF]
    by_cases hc2 : gj τ rm (off + c) = gj τ 86 10
    · rw [if_pos (show ycmp (gj τ rm (off + c)) (gj τ 86 10) = 0 by rw [yc0]; exact hc2), if_pos hc2]
    · rw [if_neg (show ¬ ycmp (gj τ rm (off + c)) (gj τ 86 10) = 0 by rw [yc0]; exact hc2), if_neg hc2, iwc (by omega) (by omega), show (c : Int) + 1 = ((c + 1 : Nat) : Int) by omega, ih (c + 1) fu (by omega) (by omega)]
theorem x_here0 (rm off C : Nat) (hc : C ≤ 100) (τ : SS) (h8 : gi τ 86 8 ≠ 2) : ∀ (r c fu : Nat), c + r = C → r < fu → l_Mo_here_3 rm (off : Int) (C : Int) fu (c : Int) τ = some (-1, τ) := by
  intro r
  induction r with
  | zero =>
    intro c fu h hfu
    obtain ⟨fu, rfl⟩ : ∃ f, fu = f + 1 := ⟨fu - 1, by omega⟩
    rw [l_Mo_here_3, if_pos (by omega)]
  | succ r ih =>
    intro c fu h hfu
    obtain ⟨fu, rfl⟩ : ∃ f, fu = f + 1 := ⟨fu - 1, by omega⟩
    rw [l_Mo_here_3, if_neg (by omega), if_neg h8, iwc (by omega) (by omega), show (c : Int) + 1 = ((c + 1 : Nat) : Int) by omega, ih (c + 1) fu (by omega) (by omega)]
theorem TK.name {B : Nat → Int} {N : Nat} {σ τ : SS} {k : Int} {p n : Nat} (h : TK B N σ τ k p n) : k = 3 ∧ gi τ 86 8 = 2 ∧ NR (gj σ 43 6) (gj τ 86 10) ∨ k ≠ 3 ∧ gi τ 86 8 ≠ 2 := by
  obtain ⟨_, _, _, _, _, _, _, _, h9⟩ := h
  rcases h9 with ⟨rfl, h2, _⟩ | ⟨_, ⟨rfl, h2⟩ | ⟨rfl, h2, _⟩ | ⟨rfl, h2, h3⟩ | ⟨hs, h2, _⟩ | ⟨i, hi, rfl, h2, h3⟩⟩
  · exact Or.inr ⟨by omega, by omega⟩
  · exact Or.inr ⟨by omega, by omega⟩
  · exact Or.inr ⟨by omega, by omega⟩
  · exact Or.inl ⟨rfl, h2, h3⟩
  · exact Or.inr ⟨by omega, by omega⟩
  · exact Or.inr ⟨by omega, by omega⟩
section
variable {u b : Nat} {B : Nat → Int} {N : Nat} {σ0 τ0 σ τ : SS} {k : Int} {p n : Nat}
theorem g_newName (hu : u = 2 ∨ u = 22) (h : GS u b B N σ0 τ0 σ τ k p n) (cu rm off C : Nat) (hcu : C < rN cu) (hcu2 : u ≤ cu ∧ cu ≤ u + 18) (hrm : off + C ≤ rN rm) (h100 : off + C ≤ 90) (hN : ∀ i, i < C → NR (gj σ cu i) (gj τ rm (off + i))) : W2 (f_Re_readNewName cu (C : Int) σ) (ob (f_Mo_here rm (off : Int) (C : Int) τ) fun r8 s8 => f_Mo_fresh r8 s8) fun r σ' v τ' => (r = 1 ∧ NR (gj σ' cu C) v ∧ ∃ k' p' n', GS u b B N σ0 τ0 σ' τ' k' p' n' ∧ n ≤ p' ∧ EqP (fun r k => r = 43 ∧ 2 ≤ k ∨ r = cu ∧ k = C) σ σ' ∧ EqP PTm τ τ') ∨ (r = 0 ∧ BS u b σ0 τ0 σ' τ') := by
  obtain ⟨e3, e4, e6, _, _, _⟩ := h.k2
  have hf := h.2.1.1
  unfold f_Re_readNewName
  have bad37 : ∀ (i : Int) s, gi s 86 4 ≠ 0 → j_Mo_fresh_37 s = some (gj s 86 10, s) := by
    intro i s hs
    unfold j_Mo_fresh_37
    rw [ol_eq, x_isGoodB hs, ob_eq, if_pos rfl]
  rcases h.1.name with ⟨rfl, h8, hnr⟩ | ⟨hk, h8⟩
  · have e0 : f_Mo_here rm (off : Int) (C : Int) τ = some (ixF (fun i => gj τ rm (off + i)) (gj τ 86 10) 0 C, τ) := x_hereN rm off C hrm (by omega) τ h8 C 0 FU (by omega) (by unfold FU; omega)
    have e1 : f_Re_indexOf cu (C : Int) (gj σ 43 6) σ = some (ixF (gj σ cu) (gj σ 43 6) 0 C, σ) := x_indexOf cu C (by omega) (by omega) _ σ C 0 FU (by omega) (by unfold FU; omega)
    have e2 : ixF (gj σ cu) (gj σ 43 6) 0 C = ixF (fun i => gj τ rm (off + i)) (gj τ 86 10) 0 C := ixF_cg C 0 (fun i _ hi => NR_eq (hN i (by omega)) hnr)
    rw [e2] at e1
    have hr := ixF_rng (f := fun i => gj τ rm (off + i)) (v := gj τ 86 10) C 0
    generalize ixF (fun i => gj τ rm (off + i)) (gj τ 86 10) 0 C = x at e0 e1 hr
    refine w2_l (fun _ z => wp_t (by omega) (wp_eq e1 z)) (w2_r (fun _ => wp_eq e0) ?_)
    unfold f_Mo_fresh
    refine w2_r (fun _ z => wp_eq (x_isGoodG hf) (wp_f (by decide) (wp_t h8 z))) ?_
    by_cases hx : x = -1
    · refine w2_l (fun _ z => wp_t hx (wp_f (by omega) (wp_f (by omega) (wp_oc (by omega) (wp_os z))))) (w2_r (fun _ => wp_t (by omega)) ?_)
      try simp only [Int.toNat_natCast]
      unfold j_Re_readNewName_65 j_Mo_fresh_37
      refine w2_r (fun _ z => wp_ol (wp_eq (x_isGoodG hf) (wp_f (by decide) z))) ?_
      have hG := h.wr (P := fun r k => r = cu ∧ k = C) (P' := fun _ _ => False) (EqP.sj (EqP.rf _ _) cu C (gj σ 43 6) (by omega)) (EqP.rf _ _) (fun r k z => by omega) (fun r k z => z.elim)
      refine w2_call (g_move hu hG) ?_
      rintro _ σ' _ τ' ⟨k', p', n', hG', hp, hE, hE'⟩
      refine w2_d (Or.inl ⟨rfl, ?_, k', p', n', hG', hp, ?_, hE'⟩)
      · rw [hE.j _ _ (by omega), gj_sj_same]; exact hnr
      · have : EqP (fun r k => r = 43 ∧ 2 ≤ k ∨ r = cu ∧ k = C) σ (sj σ cu C (gj σ 43 6)) := EqP.sj (EqP.rf _ _) _ _ _ (by omega)
        exact this.tr (hE.mo (fun r k z => by omega))
    · refine w2_l (fun _ => wp_f hx) (w2_r (fun _ => wp_f (by omega)) ?_)
      rw [e4, e6]
      refine w2_call (g_fail h 3 (by omega) p) ?_
      rintro r σ' r' τ' ⟨k1, k2⟩
      rw [bad37 0 τ' k2.1.1]
      exact w2_d (Or.inr ⟨k1, k2⟩)
  · have e0 : f_Mo_here rm (off : Int) (C : Int) τ = some (-1, τ) := x_here0 rm off C (by omega) τ h8 C 0 FU (by omega) (by unfold FU; omega)
    refine w2_l (fun _ => wp_f (by omega)) (w2_r (fun _ => wp_eq e0) ?_)
    unfold f_Mo_fresh
    refine w2_r (fun _ z => wp_eq (x_isGoodG hf) (wp_f (by decide) (wp_f h8 z))) ?_
    refine w2_call (g_refuse h) ?_
    rintro r σ' r' τ' ⟨k1, k2⟩
    rw [bad37 0 τ' k2.1.1]
    exact w2_d (Or.inr ⟨k1, k2⟩)
theorem LR.prim {P W S M t0 t1 c : Nat} {σ' τ' : SS} (hu : u = 2 ∨ u = 22) (h : LR u b σ τ P W S M t0 t1 c) (he : EqP PS σ σ') (he' : EqP PTm τ τ') : LR u b σ' τ' P W S M t0 t1 c := h.cg (fun r k z => he r k (by omega)) (fun r k z => he' r k (by omega))
/-- what a line comes to -/
def LO (u b : Nat) (B : Nat → Int) (N : Nat) (σ0 τ0 : SS) (n : Nat) (r : Int) (σ τ : SS) : Prop := (r = 1 ∧ ∃ k' p' n' P W S M t0 t1 c, GS u b B N σ0 τ0 σ τ k' p' n' ∧ n ≤ p' ∧ LR u b σ τ P W S M t0 t1 c) ∨ (r = 0 ∧ BS u b σ0 τ0 σ τ) ∨ (r = 1 ∧ gi σ 43 3 = 2 ∧ gi σ 43 4 = gi τ 86 5 ∧ gi τ 86 4 = 2 ∧ EqP (PC u) σ0 σ ∧ EqP (PM b) τ0 τ ∧ gi τ 86 41 = b ∧ gi τ 86 3 ≤ 1600 ∧ 0 ≤ gi τ 86 6)
end
section
variable {u b : Nat} {B : Nat → Int} {N : Nat} {σ0 τ0 σ τ : SS} {k : Int} {p n : Nat} {P W S M t0 t1 c : Nat}
abbrev PP (b x : Nat) : Nat → Nat → Prop := fun r k => (r = 95 ∨ r = 96) ∧ k = x ∨ r = 89 ∧ k = b
theorem x_place125 (hb : b < 2) (x : Nat) (hx : x < 16) (h41 : gi τ 86 41 = b) {P : Nat} (hP : gi τ 89 b = P) (h8 : P < 8) (v : Int) : j_Mo_readPlace_125 (x : Int) v τ = some (0, si (si τ 96 x v) 89 b ((P + 1 : Nat) : Int)) := by
  unfold j_Mo_readPlace_125
  have e1 : gi (si τ 96 x v) 86 41 = b := by rw [gi_ne_r _ _ _ _ (by omega)]; exact h41
  have e2 : gi (si τ 96 x v) 89 b = P := by rw [gi_ne_r _ _ _ _ (by omega)]; exact hP
  rw [oc_pos (by omega), os_eq, Int.toNat_natCast, e1, oc_pos (by omega), oc_pos (by omega), os_eq, Int.toNat_natCast, e2, iwc (by omega) (by omega), show (P : Int) + 1 = ((P + 1 : Nat) : Int) by omega]
theorem x_place125B (hb : b < 2) (x : Nat) (hx : x < 16) (h41 : gi τ 86 41 = b) (v : Int) : Wp (j_Mo_readPlace_125 (x : Int) v τ) fun _ τ' => EqP (PP b x) τ τ' := by
  unfold j_Mo_readPlace_125
  have e1 : gi (si τ 96 x v) 86 41 = b := by rw [gi_ne_r _ _ _ _ (by omega)]; exact h41
  refine wp_oc (by omega) (wp_os ?_)
  simp only [Int.toNat_natCast, e1]
  refine wp_oc (by omega) (wp_oc (by omega) (wp_os (wp_some ?_)))
  try simp only [Int.toNat_natCast]
  exact EqP.si (EqP.si (EqP.rf _ _) _ _ _ (by omega)) _ _ _ (by omega)
theorem x_place88B (hb : b < 2) (x : Nat) (hx : x < 16) (h41 : gi τ 86 41 = b) (hbad : gi τ 86 4 ≠ 0) (v : Int) : Wp (j_Mo_readPlace_88 (x : Int) (x : Int) v τ) fun _ τ' => EqP (PP b x) τ τ' := by
  unfold j_Mo_readPlace_88 j_Mo_readPlace_124
  have e1 : gi (si τ 95 x v) 86 41 = b := by rw [gi_ne_r _ _ _ _ (by omega)]; exact h41
  have e3 : gi (si τ 95 x v) 86 4 ≠ 0 := by rw [gi_ne_r _ _ _ _ (by omega)]; exact hbad
  refine wp_oc (by omega) (wp_os ?_)
  try simp only [Int.toNat_natCast]
  refine wp_eq (x_isGoodB e3) (wp_t rfl (wp_mono (x_place125B hb x hx e1 0) (fun _ τ' hE => ?_)))
  have h0 : EqP (PP b x) τ (si τ 95 x v) := EqP.si (EqP.rf _ _) _ _ _ (by omega)
  exact h0.tr hE
/-- the place's numbers are there: one place more -/
theorem LR.place (hu : u = 2 ∨ u = 22) (h : LR u b σ τ P W S M t0 t1 c) (h8 : P < 8) {σ' τ' : SS} (hE : EqP (fun r k => r = u ∧ k = 0) σ σ') (hE' : EqP (fun r k => r = 89 ∧ k = b) τ τ') (c0 : gi σ' u 0 = ((P + 1 : Nat) : Int)) (m0 : gi τ' 89 b = ((P + 1 : Nat) : Int)) (a1 : gi τ 95 (8 * b + P) = gi σ (u + 2) P ∧ 0 ≤ gi σ (u + 2) P ∧ gi σ (u + 2) P ≤ 9) (a2 : gi τ 96 (8 * b + P) = gi σ (u + 3) P ∧ 0 ≤ gi σ (u + 3) P ∧ gi σ (u + 3) P ≤ 9) (a3 : NR (gj σ (u + 1) P) (gj τ 110 (8 * b + P))) : LR u b σ' τ' (P + 1) W S M t0 t1 c := by
  obtain ⟨⟨p1, p2, p3, p4⟩, hw, hs, hm, hd, hr⟩ := h
  refine ⟨⟨by omega, c0, m0, fun i hi => ?_⟩, hw.cg (fun r k z => hE.i r k (by omega)) (fun r k z => hE'.i r k (by omega)) (by omega), hs.cg (fun r k z => hE r k (by omega)) (fun r k z => hE' r k (by omega)), hm.cg (fun r k z => hE r k (by omega)) (fun r k z => hE' r k (by omega)), hd.cg (fun r k z => hE.i r k (by omega)) (fun r k z => hE'.i r k (by omega)), hr.cg (fun r k z => hE.i r k (by omega)) (fun r k z => hE'.i r k (by omega))⟩
  rw [hE.i (u + 2) i (by omega), hE.i (u + 3) i (by omega), hE.j (u + 1) i (by omega), hE'.i 95 _ (by omega), hE'.i 96 _ (by omega), hE'.j 110 _ (by omega)]
  by_cases h1 : i = P
  · rw [h1]; exact ⟨a1, a2, a3⟩
  · exact p4 i (by omega)
theorem g_place93 (hu : u = 2 ∨ u = 22) (hb : b < 2) (h : GS u b B N σ0 τ0 σ τ k p n) (hL : LR u b σ τ P W S M t0 t1 c) (h8 : P < 8) (v : Int) (hv : 0 ≤ v ∧ v ≤ 9) (g2 : gi σ (u + 2) P = v) (g3 : gi σ (u + 3) P = 0) (gn : NR (gj σ (u + 1) P) (gj τ 110 (8 * b + P))) : W2 (j_Re_readPlace_93 u (P : Int) σ) (j_Mo_readPlace_88 ((8 * b + P : Nat) : Int) ((8 * b + P : Nat) : Int) v τ) fun r σ' _ τ' => LO u b B N σ0 τ0 p r σ' τ' := by
  have h41 := h.2.2.2.2
  have hp0 := hL.1.2.1
  have hm0 := hL.1.2.2.1
  unfold j_Re_readPlace_93 j_Mo_readPlace_88 j_Mo_readPlace_124 j_Re_readPlace_131
  refine w2_r (fun _ z => wp_oc (by omega) (wp_os z)) ?_
  try simp only [Int.toNat_natCast]
  have hG1 := h.wr (P := fun _ _ => False) (P' := fun r k => r = 95 ∧ k = 8 * b + P) (EqP.rf _ _) (EqP.si (EqP.rf _ _) 95 (8 * b + P) v (by omega)) (fun r k z => z.elim) (fun r k z => ⟨by first | exact pmA (by omega) | exact pmB (by omega) | exact pmC (by omega) | exact pmD (by omega) | exact pmE (by omega) | exact pmF (by omega) | exact pmG (by omega) | exact pmH (by omega) | exact pmI (by omega) | (rcases z with z | z <;> first | exact pmA (by omega) | exact pmB (by omega) | exact pmC (by omega) | exact pmD (by omega) | exact pmE (by omega) | exact pmF (by omega) | exact pmG (by omega) | exact pmH (by omega) | exact pmI (by omega)) | (rcases z with z | z | z <;> first | exact pmA (by omega) | exact pmB (by omega) | exact pmC (by omega) | exact pmD (by omega) | exact pmE (by omega) | exact pmF (by omega) | exact pmG (by omega) | exact pmH (by omega) | exact pmI (by omega)), by omega⟩)
  have hL1 : LR u b σ (si τ 95 (8 * b + P) v) P W S M t0 t1 c := hL.cg (fun r k z => ⟨rfl, rfl⟩) (fun r k z => ⟨by rw [gi_si, if_neg (by omega)], by rw [gj_si]⟩)
  have m95 : gi (si τ 95 (8 * b + P) v) 95 (8 * b + P) = v := gi_same _ _ _ _
  have gn1 : NR (gj σ (u + 1) P) (gj (si τ 95 (8 * b + P) v) 110 (8 * b + P)) := by rw [gj_si]; exact gn
  generalize si τ 95 (8 * b + P) v = τ1 at hG1 hL1 m95 gn1 ⊢
  refine w2_r (fun _ z => wp_eq (x_isGoodG hG1.2.1.1) (wp_f (by decide) z)) ?_
  have ew := x_isWord hG1.1 2 (by omega)
  have ek := hG1.k2.1
  have fin : ∀ (σ2 τ2 : SS) (w : Int) (k' : Int) (p' n' : Nat), GS u b B N σ0 τ0 σ2 τ2 k' p' n' → p ≤ p' → LR u b σ2 τ2 P W S M t0 t1 c → 0 ≤ w ∧ w ≤ 9 → gi σ2 (u + 2) P = v → gi σ2 (u + 3) P = w → NR (gj σ2 (u + 1) P) (gj τ2 110 (8 * b + P)) → gi τ2 95 (8 * b + P) = v → W2 (os (si σ2 u 0 (iw (gi σ2 u 0 + 1))) fun s1 => some (1, s1)) (j_Mo_readPlace_125 ((8 * b + P : Nat) : Int) w τ2) fun r σ' _ τ' => LO u b B N σ0 τ0 p r σ' τ' := by
    intro σ2 τ2 w k' p' n' hG2 hp' hL2 hw c2 c3 cn m2
    refine w2_l (fun _ z => wp_os z) ?_
    rw [x_place125 hb (8 * b + P) (by omega) hG2.2.2.2.2 hL2.1.2.2.1 h8 w, hL2.1.2.1, iwc (x := (P : Int) + 1) (by omega) (by omega), show (P : Int) + 1 = ((P + 1 : Nat) : Int) by omega]
    have hL3 : LR u b σ2 (si τ2 96 (8 * b + P) w) P W S M t0 t1 c := hL2.cg (fun r k z => ⟨rfl, rfl⟩) (fun r k z => ⟨by rw [gi_si, if_neg (by omega)], by rw [gj_si]⟩)
    have hG3 := hG2.wr (P := fun r k => r = u ∧ k = 0) (P' := PP b (8 * b + P)) (EqP.si (EqP.rf _ _) u 0 ((P + 1 : Nat) : Int) (by omega)) (EqP.si (EqP.si (EqP.rf _ _) 96 (8 * b + P) w (by omega)) 89 b ((P + 1 : Nat) : Int) (by omega)) (fun r k z => by omega) (fun r k z => ⟨by first | exact pmA (by omega) | exact pmB (by omega) | exact pmC (by omega) | exact pmD (by omega) | exact pmE (by omega) | exact pmF (by omega) | exact pmG (by omega) | exact pmH (by omega) | exact pmI (by omega) | (rcases z with z | z <;> first | exact pmA (by omega) | exact pmB (by omega) | exact pmC (by omega) | exact pmD (by omega) | exact pmE (by omega) | exact pmF (by omega) | exact pmG (by omega) | exact pmH (by omega) | exact pmI (by omega)) | (rcases z with z | z | z <;> first | exact pmA (by omega) | exact pmB (by omega) | exact pmC (by omega) | exact pmD (by omega) | exact pmE (by omega) | exact pmF (by omega) | exact pmG (by omega) | exact pmH (by omega) | exact pmI (by omega)), by omega⟩)
    refine w2_d (Or.inl ⟨rfl, k', p', n', P + 1, W, S, M, t0, t1, c, hG3, hp', hL3.place hu h8 (EqP.si (EqP.rf _ _) _ _ _ (by omega)) (EqP.si (EqP.rf _ _) _ _ _ (by omega)) (gi_same _ _ _ _) (gi_same _ _ _ _) ?_ ?_ ?_⟩)
    · rw [gi_ne_r _ _ _ _ (by omega), m2, c2]; exact ⟨rfl, hv⟩
    · rw [gi_same, c3]; exact ⟨rfl, hw⟩
    · rw [gj_si]; exact cn
  by_cases he : k = ((256 + 2 : Nat) : Int)
  · rw [if_pos he] at ew
    refine w2_l (fun _ => wp_t (by omega)) (w2_r (fun _ z => wp_eq ew (wp_f (by decide) z)) ?_)
    refine w2_call (g_behind hu hG1 2 (by omega) 0 9 rfl rfl) ?_
    rintro r σ2 w τ2 (⟨rfl, hk, hw, w1, w2, k2, p2, n2, hG2, hp2, hE2, hE2'⟩ | ⟨rfl, hB⟩)
    · refine w2_l (fun _ z => wp_f (by decide) (wp_oc (by omega) (wp_os z))) ?_
      try simp only [Int.toNat_natCast]
      rw [hw]
      have hL2 := hL1.prim hu hE2 hE2'
      have hk2 := hG1.k2
      have hG3 := hG2.wr (P := fun r k => r = u + 3 ∧ k = P) (P' := fun _ _ => False) (EqP.si (EqP.rf _ _) (u + 3) P w (by omega)) (EqP.rf _ _) (fun r k z => by omega) (fun r k z => z.elim)
      refine fin _ _ w k2 p2 n2 hG3 (by omega) (hL2.cg (fun r k z => ⟨by rw [gi_si, if_neg (by omega)], by rw [gj_si]⟩) (fun r k z => ⟨rfl, rfl⟩)) ⟨w1, w2⟩ ?_ (gi_same _ _ _ _) ?_ ?_
      · rw [gi_ne_r _ _ _ _ (by omega), hE2.i _ _ (by omega)]; exact g2
      · rw [gj_si, hE2.j _ _ (by omega), hE2'.j _ _ (by omega)]; exact gn1
      · rw [hE2'.i _ _ (by omega)]; exact m95
    · refine w2_l (fun _ => wp_t rfl) (w2_dl ?_)
      exact wp_mono (x_place125B hb (8 * b + P) (by omega) hB.2.2.2.1 w) (fun _ τ' hE => Or.inr (Or.inl ⟨rfl, hB.wr hE (fun r k z => ⟨by first | exact pmA (by omega) | exact pmB (by omega) | exact pmC (by omega) | exact pmD (by omega) | exact pmE (by omega) | exact pmF (by omega) | exact pmG (by omega) | exact pmH (by omega) | exact pmI (by omega) | (rcases z with z | z <;> first | exact pmA (by omega) | exact pmB (by omega) | exact pmC (by omega) | exact pmD (by omega) | exact pmE (by omega) | exact pmF (by omega) | exact pmG (by omega) | exact pmH (by omega) | exact pmI (by omega)) | (rcases z with z | z | z <;> first | exact pmA (by omega) | exact pmB (by omega) | exact pmC (by omega) | exact pmD (by omega) | exact pmE (by omega) | exact pmF (by omega) | exact pmG (by omega) | exact pmH (by omega) | exact pmI (by omega)), by omega⟩)⟩))
  · rw [if_neg he] at ew
    refine w2_l (fun _ => wp_f (by omega)) (w2_r (fun _ z => wp_eq ew (wp_t rfl z)) ?_)
    exact fin σ τ1 0 k p n hG1 (Nat.le_refl _) hL1 (by omega) g2 g3 gn1 m95
theorem g_place (hu : u = 2 ∨ u = 22) (hb : b < 2) (h : GS u b B N σ0 τ0 σ τ k p n) (hL : LR u b σ τ P W S M t0 t1 c) (h8 : P < 8) : W2 (f_Re_readPlace u σ) (ob (f_Mo_goOn τ) fun _ s => f_Mo_readPlace s) fun r σ' _ τ' => LO u b B N σ0 τ0 n r σ' τ' := by
  have hp0 := hL.1.2.1
  unfold f_Re_readPlace
  refine w2_l (fun _ z => wp_ol (wp_f (by omega) (wp_t (by omega) z))) ?_
  refine w2_call (g_move hu h) ?_
  rintro _ σ1 _ τ1 ⟨k1, p1, n1, hG1, hp1, hE1, hE1'⟩
  have hL1 := hL.prim hu (hE1.mo (fun r k z => Or.inl z)) hE1'
  have h41 := hG1.2.2.2.2
  have hP0 := hL1.1.2.1
  have hm0 := hL1.1.2.2.1
  have e8 : iw (8 * (b : Int)) = ((8 * b : Nat) : Int) := by rw [iwc (by omega) (by omega)]; omega
  have e9 : iw (((8 * b : Nat) : Int) + (P : Int)) = ((8 * b + P : Nat) : Int) := by rw [iwc (by omega) (by omega)]; omega
  unfold f_Mo_readPlace j_Mo_readPlace_87
  rw [h41]
  try simp only [Int.toNat_natCast]
  rw [hm0, e8, e9, hp0]
  refine w2_r (fun _ z => wp_oc (by omega) (wp_ol (wp_oc (by omega) z))) ?_
  refine w2_call2 (g_newName hu hG1 (u + 1) 110 (8 * b) P (by rcases hu with rfl | rfl <;> exact h8) (by omega) (by show _ ≤ 16; omega) (by omega) (fun i hi => (hL1.1.2.2.2 i hi).2.2)) ?_
  rintro r σ2 v τ2 (⟨rfl, hnr, k2, p2, n2, hG2, hp2, hE2, hE2'⟩ | ⟨rfl, hB⟩)
  · have hL2 : LR u b σ2 τ2 P W S M t0 t1 c := hL1.cg (fun r k z => hE2 r k (by omega)) (fun r k z => hE2' r k (by omega))
    have hk1 := hG1.k2
    refine w2_l (fun _ z => wp_f (by decide) (wp_oc (by omega) (wp_os (wp_oc (by omega) (wp_os z))))) (w2_r (fun _ z => wp_oc (by omega) (wp_os z)) ?_)
    try simp only [Int.toNat_natCast]
    have hEc : EqP (fun r k => (r = u + 2 ∨ r = u + 3) ∧ k = P) σ2 (si (si σ2 (u + 2) P 0) (u + 3) P 0) := EqP.si (EqP.si (EqP.rf _ _) _ _ _ (by omega)) _ _ _ (by omega)
    have hEm : EqP (fun r k => r = 110 ∧ k = 8 * b + P) τ2 (sj τ2 110 (8 * b + P) v) := EqP.sj (EqP.rf _ _) _ _ _ (by omega)
    have hG3 := hG2.wr hEc hEm (fun r k z => by omega) (fun r k z => ⟨by first | exact pmA (by omega) | exact pmB (by omega) | exact pmC (by omega) | exact pmD (by omega) | exact pmE (by omega) | exact pmF (by omega) | exact pmG (by omega) | exact pmH (by omega) | exact pmI (by omega) | (rcases z with z | z <;> first | exact pmA (by omega) | exact pmB (by omega) | exact pmC (by omega) | exact pmD (by omega) | exact pmE (by omega) | exact pmF (by omega) | exact pmG (by omega) | exact pmH (by omega) | exact pmI (by omega)) | (rcases z with z | z | z <;> first | exact pmA (by omega) | exact pmB (by omega) | exact pmC (by omega) | exact pmD (by omega) | exact pmE (by omega) | exact pmF (by omega) | exact pmG (by omega) | exact pmH (by omega) | exact pmI (by omega)), by omega⟩)
    have hL3 := hL2.cg (fun r k z => hEc r k (by omega)) (fun r k z => hEm r k (by omega))
    have c2 : gi (si (si σ2 (u + 2) P 0) (u + 3) P 0) (u + 2) P = 0 := by rw [gi_ne_r _ _ _ _ (by omega), gi_same]
    have c3 : gi (si (si σ2 (u + 2) P 0) (u + 3) P 0) (u + 3) P = 0 := gi_same _ _ _ _
    have cn : NR (gj (si (si σ2 (u + 2) P 0) (u + 3) P 0) (u + 1) P) (gj (sj τ2 110 (8 * b + P) v) 110 (8 * b + P)) := by rw [gj_si, gj_si, gj_sj_same]; exact hnr
    generalize si (si σ2 (u + 2) P 0) (u + 3) P 0 = σ3 at hEc hG3 hL3 c2 c3 cn ⊢
    generalize sj τ2 110 (8 * b + P) v = τ3 at hEm hG3 hL3 cn ⊢
    have ew := x_isWord hG3.1 1 (by omega)
    have ek := hG3.k2.1
    refine w2_r (fun _ z => wp_eq (x_isGoodG hG3.2.1.1) (wp_f (by decide) z)) ?_
    have lo : ∀ {q : Nat} {r : Int} {σ' τ' : SS}, n ≤ q → LO u b B N σ0 τ0 q r σ' τ' → LO u b B N σ0 τ0 n r σ' τ' := by
      rintro q r σ' τ' hq (⟨a, k', p', n', P', W', S', M', t0', t1', c', hG, hp, hL⟩ | hB)
      · exact Or.inl ⟨a, k', p', n', P', W', S', M', t0', t1', c', hG, by omega, hL⟩
      · exact Or.inr hB
    by_cases he : k2 = ((256 + 1 : Nat) : Int)
    · rw [if_pos he] at ew
      refine w2_l (fun _ => wp_t (by omega)) (w2_r (fun _ z => wp_eq ew (wp_f (by decide) z)) ?_)
      refine w2_call (g_behind hu hG3 1 (by omega) 0 9 rfl rfl) ?_
      rintro r σ4 w τ4 (⟨rfl, hk, hw, w1, w2, k4, p4, n4, hG4, hp4, hE4, hE4'⟩ | ⟨rfl, hB⟩)
      · refine w2_l (fun _ z => wp_f (by decide) (wp_oc (by omega) (wp_os z))) ?_
        try simp only [Int.toNat_natCast]
        rw [hw]
        have hL4 := hL3.prim hu hE4 hE4'
        have hk3 := hG3.k2
        have hG5 := hG4.wr (P := fun r k => r = u + 2 ∧ k = P) (P' := fun _ _ => False) (EqP.si (EqP.rf _ _) (u + 2) P w (by omega)) (EqP.rf _ _) (fun r k z => by omega) (fun r k z => z.elim)
        have hL5 : LR u b (si σ4 (u + 2) P w) τ4 P W S M t0 t1 c := hL4.cg (fun r k z => ⟨by rw [gi_si, if_neg (by omega)], by rw [gj_si]⟩) (fun r k z => ⟨rfl, rfl⟩)
        refine w2_mono (g_place93 hu hb hG5 hL5 h8 w ⟨w1, w2⟩ (gi_same _ _ _ _) ?_ ?_) (fun r σ' r' τ' z => lo (by omega) z)
        · rw [gi_ne_r _ _ _ _ (by omega), hE4.i _ _ (by omega)]; exact c3
        · rw [gj_si, hE4.j _ _ (by omega), hE4'.j _ _ (by omega)]; exact cn
      · refine w2_l (fun _ => wp_t rfl) (w2_dl ?_)
        exact wp_mono (x_place88B hb (8 * b + P) (by omega) hB.2.2.2.1 hB.1.1 w) (fun _ τ' hE => Or.inr (Or.inl ⟨rfl, hB.wr hE (fun r k z => ⟨by first | exact pmA (by omega) | exact pmB (by omega) | exact pmC (by omega) | exact pmD (by omega) | exact pmE (by omega) | exact pmF (by omega) | exact pmG (by omega) | exact pmH (by omega) | exact pmI (by omega) | (rcases z with z | z <;> first | exact pmA (by omega) | exact pmB (by omega) | exact pmC (by omega) | exact pmD (by omega) | exact pmE (by omega) | exact pmF (by omega) | exact pmG (by omega) | exact pmH (by omega) | exact pmI (by omega)) | (rcases z with z | z | z <;> first | exact pmA (by omega) | exact pmB (by omega) | exact pmC (by omega) | exact pmD (by omega) | exact pmE (by omega) | exact pmF (by omega) | exact pmG (by omega) | exact pmH (by omega) | exact pmI (by omega)), by omega⟩)⟩))
    · rw [if_neg he] at ew
      refine w2_l (fun _ => wp_f (by omega)) (w2_r (fun _ z => wp_eq ew (wp_t rfl z)) ?_)
      exact w2_mono (g_place93 hu hb hG3 hL3 h8 0 (by omega) c2 c3 cn) (fun r σ' r' τ' z => lo (by omega) z)
  · refine w2_l (fun _ => wp_t rfl) (w2_dl ?_)
    refine wp_oc (by omega) (wp_os ?_)
    try simp only [Int.toNat_natCast]
    have hB2 := hB.wr (P' := fun r k => r = 110 ∧ k = 8 * b + P) (EqP.sj (EqP.rf _ _) 110 (8 * b + P) v (by omega)) (fun r k z => ⟨by first | exact pmA (by omega) | exact pmB (by omega) | exact pmC (by omega) | exact pmD (by omega) | exact pmE (by omega) | exact pmF (by omega) | exact pmG (by omega) | exact pmH (by omega) | exact pmI (by omega) | (rcases z with z | z <;> first | exact pmA (by omega) | exact pmB (by omega) | exact pmC (by omega) | exact pmD (by omega) | exact pmE (by omega) | exact pmF (by omega) | exact pmG (by omega) | exact pmH (by omega) | exact pmI (by omega)) | (rcases z with z | z | z <;> first | exact pmA (by omega) | exact pmB (by omega) | exact pmC (by omega) | exact pmD (by omega) | exact pmE (by omega) | exact pmF (by omega) | exact pmG (by omega) | exact pmH (by omega) | exact pmI (by omega)), by omega⟩)
    refine wp_eq (x_isGoodB hB2.1.1) (wp_t rfl ?_)
    exact wp_mono (x_place88B hb (8 * b + P) (by omega) hB2.2.2.2.1 hB2.1.1 0) (fun _ τ' hE => Or.inr (Or.inl ⟨rfl, hB2.wr hE (fun r k z => ⟨by first | exact pmA (by omega) | exact pmB (by omega) | exact pmC (by omega) | exact pmD (by omega) | exact pmE (by omega) | exact pmF (by omega) | exact pmG (by omega) | exact pmH (by omega) | exact pmI (by omega) | (rcases z with z | z <;> first | exact pmA (by omega) | exact pmB (by omega) | exact pmC (by omega) | exact pmD (by omega) | exact pmE (by omega) | exact pmF (by omega) | exact pmG (by omega) | exact pmH (by omega) | exact pmI (by omega)) | (rcases z with z | z | z <;> first | exact pmA (by omega) | exact pmB (by omega) | exact pmC (by omega) | exact pmD (by omega) | exact pmE (by omega) | exact pmF (by omega) | exact pmG (by omega) | exact pmH (by omega) | exact pmI (by omega)), by omega⟩)⟩))
end
