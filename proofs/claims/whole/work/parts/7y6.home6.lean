/-! home: the reference -/
def R7 (τ : SS) (l : List Nat) : Prop := ∀ j (h : j < l.length), gi τ 127 j = (l[j] : Int)
theorem R7_snoc {τ : SS} {l : List Nat} {x : Nat} (h : R7 τ l) (hx : gi τ 127 l.length = (x : Int)) : R7 τ (l ++ [x]) := by
  intro j hj
  have hj' : j < l.length + 1 := by rw [List.length_append] at hj; exact hj
  by_cases e : j < l.length
  · rw [List.getElem_append_left e]; exact h j e
  · obtain rfl : j = l.length := by omega
    rw [List.getElem_append_right (by omega)]
    simp only [Nat.sub_self, List.getElem_cons_zero]
    exact hx
theorem digL_len (W : Nat) : ∀ k v, (digL W k v).length = k := by
  intro k
  induction k with
  | zero => intro v; rfl
  | succ k ih => intro v; rw [digL, List.length_cons, ih]
theorem digL_snoc {W : Nat} (hW : 1 ≤ W) : ∀ k v, v < W ^ (k + 1) → digL W (k + 1) v = digL W k (v / W) ++ [v % W] := by
  intro k
  induction k with
  | zero =>
    intro v hv
    rw [Nat.zero_add, Nat.pow_one] at hv
    show [v / W ^ 0] = [v % W]
    rw [Nat.pow_zero, Nat.div_one, Nat.mod_eq_of_lt hv]
  | succ k ih =>
    intro v hv
    have hp : 0 < W ^ (k + 1) := Nat.pow_pos (by omega)
    rw [digL, ih (v % W ^ (k + 1)) (Nat.mod_lt _ hp), digL]
    have e1 : v / W ^ (k + 1) = v / W / W ^ k := by rw [Nat.div_div_eq_div_mul, Nat.pow_succ, Nat.mul_comm]
    have e2 : v % W ^ (k + 1) / W = v / W % W ^ k := by rw [Nat.pow_succ, Nat.mul_comm, Nat.mod_mul_right_div_self]
    have e3 : v % W ^ (k + 1) % W = v % W := Nat.mod_mod_of_dvd _ ⟨W ^ k, by rw [Nat.pow_succ, Nat.mul_comm]⟩
    rw [e1, e2, e3]
    rfl
theorem digL_lt {W : Nat} (hW : 1 ≤ W) : ∀ k v, v < W ^ k → ∀ w ∈ digL W k v, w < W := by
  intro k
  induction k with
  | zero => intro v _ w h; exact absurd h (by simp [digL])
  | succ k ih =>
    intro v hv w h
    have hp : 0 < W ^ k := Nat.pow_pos (by omega)
    rw [digL, List.mem_cons] at h
    rcases h with rfl | h
    · rw [Nat.div_lt_iff_lt_mul hp]
      rw [Nat.pow_succ, Nat.mul_comm] at hv
      exact hv
    · exact ih _ (Nat.mod_lt _ hp) w h
theorem x_dl58 {ld : SS} (hok : LdOK ld) {bk W : Nat} (hW : gi ld 2 4 = (W : Int)) {tt : Int} (k : Nat) (hk : k ≤ 4) {σ : SS} (hM : LM ld σ bk) : ∀ (l2 : List Nat) (i fu : Nat) (p : Int), (∀ j (h : j < l2.length), gi σ 127 (i + j) = (l2[j] : Int)) → (∀ w ∈ l2, w < W) → i + l2.length = k → l2.length < fu → l_Mo_doesLead_58 k tt fu p i σ = some (if leadE ld l2 p = tt then 1 else 0, σ) := by
  intro l2
  induction l2 with
  | nil =>
    intro i fu p _ _ hi hfu
    obtain ⟨fu, rfl⟩ : ∃ f, fu = f + 1 := ⟨fu - 1, by omega⟩
    have hi' : i = k := hi
    rw [l_Mo_doesLead_58, if_pos (by omega), leadE]
    unfold j_Mo_doesLead_90
    by_cases h : p = tt
    · rw [if_pos h, if_pos h]
    · rw [if_neg h, if_neg h]
  | cons w l2 ih =>
    intro i fu p hr hw hi hfu
    rw [List.length_cons] at hi hfu
    obtain ⟨fu, rfl⟩ : ∃ f, fu = f + 1 := ⟨fu - 1, by omega⟩
    have h0 : gi σ 127 i = (w : Int) := hr 0 (by simp)
    have hw0 := hw w (List.mem_cons_self ..)
    rw [l_Mo_doesLead_58, if_neg (by omega), leadE]
    by_cases hp : p < 0
    · rw [if_pos hp, if_pos hp]
      unfold j_Mo_doesLead_90
      by_cases h : p = tt
      · rw [if_pos h, if_pos h]
      · rw [if_neg h, if_neg h]
    · rw [if_neg hp, if_neg hp, oc_pos (by omega), Int.toNat_natCast, h0, x_otherM hok hM (y := (w : Int)) (by omega) p, ob_eq, show iw ((i : Int) + 1) = ((i + 1 : Nat) : Int) by rw [iwc (by omega) (by omega)]; omega]
      exact ih (i + 1) fu _ (fun j hj => by
        have := hr (j + 1) (by rw [List.length_cons]; omega)
        rw [show i + (j + 1) = i + 1 + j by omega] at this
        exact this) (fun x hx => hw x (List.mem_cons_of_mem _ hx)) (by omega) (by omega)
theorem x_dl8 {ld : SS} (hok : LdOK ld) {bk W : Nat} (hW : gi ld 2 4 = (W : Int)) (k : Nat) (p tt : Int) (hW1 : 1 ≤ W ∧ W ≤ 14) (σ0 : SS) (Q : Int → SS → Prop) : ∀ (r v fu : Nat) (σ : SS), r ≤ 4 → v < W ^ r → v < 1000000 → r < fu → LM ld σ bk → EqP (fun r _ => r = 127) σ0 σ → (∀ τ, EqP (fun r _ => r = 127) σ0 τ → R7 τ (digL W r v) → (∀ j, r ≤ j → gi τ 127 j = gi σ 127 j) → Wp (l_Mo_doesLead_58 k tt FU p 0 τ) Q) → Wp (l_Mo_doesLead_8 k p tt fu v ((r : Int) - 1) σ) Q := by
  intro r
  induction r with
  | zero =>
    intro v fu σ _ _ _ hfu hM hE hQ
    obtain ⟨fu, rfl⟩ : ∃ f, fu = f + 1 := ⟨fu - 1, by omega⟩
    rw [l_Mo_doesLead_8]
    exact wp_t (by omega) (hQ σ hE (fun j h => absurd h (Nat.not_lt_zero _)) (fun j _ => rfl))
  | succ r ih =>
    intro v fu σ hr hv hv6 hfu hM hE hQ
    obtain ⟨fu, rfl⟩ : ∃ f, fu = f + 1 := ⟨fu - 1, by omega⟩
    have hb := hM.1
    have hbk : gi σ 86 40 = bk := hM.2.1
    have h90 : gi σ 90 bk = W := by rw [← hW]; exact hM.2.2.1.2.1
    rw [l_Mo_doesLead_8, show ((r + 1 : Nat) : Int) - 1 = (r : Int) by omega]
    refine wp_f (by omega) (wp_oc (by omega) ?_)
    rw [hbk, Int.toNat_natCast, h90]
    refine wp_oc (by omega) (wp_oc (by omega) (wp_os ?_))
    have et : Int.tmod (v : Int) (W : Int) = ((v % W : Nat) : Int) := by rw [tmn _ (by omega)]; rfl
    have ed : Int.tdiv (v : Int) (W : Int) = ((v / W : Nat) : Int) := by rw [tdn _ (by omega)]; rfl
    rw [et, Int.toNat_natCast]
    have hE1 : EqP (fun r _ => r = 127) σ (si σ 127 r ((v % W : Nat) : Int)) := EqP.si (EqP.rf _ _) _ _ _ (by omega)
    have kr : gi (si σ 127 r ((v % W : Nat) : Int)) 127 r = ((v % W : Nat) : Int) := gi_same _ _ _ _
    have kj : ∀ j, r + 1 ≤ j → gi (si σ 127 r ((v % W : Nat) : Int)) 127 j = gi σ 127 j := fun j hj => gi_ne_k _ _ _ _ (by omega)
    generalize si σ 127 r ((v % W : Nat) : Int) = s1 at hE1 kr kj ⊢
    have hM1 := hM.of hE1 (fun r k z => by omega)
    have hbk1 : gi s1 86 40 = bk := hM1.2.1
    have h901 : gi s1 90 bk = W := by rw [← hW]; exact hM1.2.2.1.2.1
    rw [hbk1, Int.toNat_natCast, h901]
    refine wp_oc (by omega) (wp_oc (by omega) (wp_ol ?_))
    have hvd : v / W ≤ v := Nat.div_le_self _ _
    have hvi : iw ((v / W : Nat) : Int) = ((v / W : Nat) : Int) := by
      generalize v / W = u at hvd ⊢
      exact iwc (by omega) (by omega)
    have hv7 : v / W < 1000000 := Nat.lt_of_le_of_lt hvd hv6
    rw [ed, hvi, show iw ((r : Int) + -1) = (r : Int) - 1 by rw [iwc (by omega) (by omega)]; omega]
    refine ih (v / W) fu s1 (by omega) ?_ hv7 (by omega) hM1 (hE.tr hE1) ?_
    · rw [Nat.div_lt_iff_lt_mul (by omega), ← Nat.pow_succ]; exact hv
    · intro τ u1 u2 u3
      refine hQ τ u1 ?_ (fun j hj => by rw [u3 j (by omega)]; exact kj j hj)
      rw [digL_snoc hW1.1 r v hv]
      exact R7_snoc u2 (by rw [digL_len, u3 r (by omega)]; exact kr)
theorem x_doesLead {ld : SS} (hok : LdOK ld) {bk W : Nat} (hW : gi ld 2 4 = (W : Int)) (hW1 : 1 ≤ W ∧ W ≤ 14) {k v p : Nat} (hk : 1 ≤ k ∧ k ≤ 4) (hv : v < W ^ k) (hv6 : v < 1000000) {tt : Int} {σ : SS} (hM : LM ld σ bk) : Wp (f_Mo_doesLead v k p tt σ) fun r τ => r = (if leadE ld (digL W k v) p = tt then 1 else 0) ∧ R7 τ (digL W k v) ∧ EqP (fun r _ => r = 127) σ τ := by
  unfold f_Mo_doesLead
  refine wp_ol ?_
  rw [iwc (x := (k : Int) - 1) (by omega) (by omega)]
  refine x_dl8 hok hW k p tt hW1 σ _ k v FU σ hk.2 hv hv6 (by unfold FU; omega) hM (EqP.rf _ _) ?_
  intro τ hE h7 _
  have hl := digL_len W k v
  have z := x_dl58 hok hW (tt := tt) k hk.2 (hM.of hE (fun r k z => by omega)) (digL W k v) 0 FU p (fun j hj => by rw [Nat.zero_add]; exact h7 j hj) (digL_lt hW1.1 k v hv) (by omega) (by unfold FU; omega)
  exact wp_eqe z ⟨rfl, h7, hE⟩
abbrev PHm : Nat → Nat → Prop := fun r k => r = 127 ∨ r = 122 ∨ r = 119 ∨ r = 117 ∨ r = 86 ∧ (46 ≤ k ∧ k ≤ 51 ∨ 62 ≤ k ∧ k ≤ 64)
theorem x_endsJustH {ld : SS} (hok : LdOK ld) {bk W : Nat} (hW : gi ld 2 4 = (W : Int)) {tp : Nat → Int} {a b m c : Nat} (hca : c / 36 = a) (hcb : c / 6 % 6 = b) (hcm : c % 6 = m) (hc : CPL ld a b m) {l : List Nat} {k p : Nat} {tt : Int} (hp : (p : Int) < gi ld 2 0) (hlk : l.length = k) (hk : 1 ≤ k ∧ k ≤ 4) (hlw : ∀ w ∈ l, w < W) (htt : 0 ≤ tt) (hlead : leadE ld l p = tt) {σ : SS} (hM : LM ld σ bk) (hT : TPM ld σ bk tp) (h7 : R7 σ l) :
    Wp (f_Mo_endsJust c k p σ) fun r τ => r = (if okH ld tp a b tt l p (begP ld m) = true then 1 else 0) ∧ EqP (fun r k => r = 119 ∨ r = 117 ∨ r = 86 ∧ (46 ≤ k ∧ k ≤ 51 ∨ 63 ≤ k ∧ k ≤ 64)) σ τ := by
  subst hca hcb hcm
  subst hlk
  obtain ⟨wf, ef, hP, _, hwf, hpe⟩ := lead_pth hok (p0 := p) l 0 (fun _ => 0) (fun _ => 0) tt ⟨hp, by omega, fun i hi => absurd hi (Nat.not_lt_zero _)⟩ (by omega) (fun w hw => by have := hlw w hw; omega) hlead htt
  rw [Nat.zero_add] at hP hpe
  have hwf' : ∀ j (h : j < l.length), wf j = l[j] := fun j h => by have := hwf j h; rw [Nat.zero_add] at this; exact this
  have hlast : (ef (l.length - 1) : Int) = tt := by
    unfold pend at hpe
    rw [if_neg (by omega)] at hpe
    exact hpe
  have hgo := okH_go (ld := ld) (tp := tp) (a := c / 36) (b := c / 6 % 6) (tt := tt) (wf := wf) (ef := ef) l 0 p (begP ld (c % 6)) (fun j h => by rw [Nat.zero_add]; exact hwf' j h) (fun j h => by
    have := hP.ot hok h
    rw [Nat.zero_add]
    exact this) (fun z => by rw [z] at hk; exact absurd hk.1 (by decide))
  rw [Nat.zero_add] at hgo
  obtain ⟨bq1, bq2⟩ := begP_ok hok hc.2.2.2.1
  unfold f_Mo_endsJust
  refine wp_call (x_beginBy hok hM c hc) ?_
  rintro _ s1 ⟨hT1, hE1⟩
  refine wp_call (x_along (u1 := 127) (tp := tp) hok (hM.of hE1 (fun r k z => by omega)) (by omega) (hT.of hE1 (fun r k z => by omega)) hc hP (show l.length ≤ rN 127 from Nat.le_trans hk.2 (by decide)) (fun j hj => by rw [hE1.i _ _ (by omega), h7 j hj, hwf' j hj]) hT1 bq1 bq2) ?_
  rintro _ s3 ⟨_, h63, h64, hE3⟩
  have hE : EqP (fun r k => r = 119 ∨ r = 117 ∨ r = 86 ∧ (46 ≤ k ∧ k ≤ 51 ∨ 63 ≤ k ∧ k ≤ 64)) σ s3 := (hE1.mo (fun r k z => by omega)).tr (hE3.mo (fun r k z => by omega))
  have hg := goP_rng (ld := ld) (tp := tp) (a := c / 36) (b := c / 6 % 6) (wf := wf) (ef := ef) l.length 0 0 (begP ld (c % 6))
  generalize goP ld tp (c / 36) (c / 6 % 6) wf ef l.length 0 0 (begP ld (c % 6)) = G at h63 h64 hgo hg
  rw [h63, h64, iwc (x := (l.length : Int) - 1) (by omega) (by omega)]
  have no : okH ld tp (c / 36) (c / 6 % 6) tt l p (begP ld (c % 6)) ≠ true → (0 : Int) = (if okH ld tp (c / 36) (c / 6 % 6) tt l p (begP ld (c % 6)) = true then 1 else 0) := fun z => (if_neg z).symm
  by_cases hG : G.1 = true
  · rw [if_pos hG, if_pos hG]
    have hgr := hg hG
    by_cases hl : G.2.1 = l.length - 1
    · refine wp_t (by omega) (wp_oc (by omega) ?_)
      rw [show ((l.length : Int) - 1).toNat = l.length - 1 by omega, hE.i 127 _ (by omega), h7 (l.length - 1) (by omega)]
      have hlw' := hlw l[l.length - 1] (List.getElem_mem _)
      refine wp_eq (x_milesOf hok (hM.of hE (fun r k z => by omega)) (by omega)) ?_
      rw [Int.toNat_natCast, ← hwf' (l.length - 1) (by omega)]
      by_cases hm : G.2.2.1 = gi ld 8 (wf (l.length - 1))
      · refine wp_t hm (wp_some ⟨?_, hE⟩)
        exact (if_pos (hgo.mpr ⟨hG, hl, hm, hlast⟩)).symm
      · exact wp_f hm (wp_some ⟨no (fun z => hm (hgo.mp z).2.2.1), hE⟩)
    · exact wp_f (by omega) (wp_some ⟨no (fun z => hl (hgo.mp z).2.1), hE⟩)
  · rw [if_neg hG]
    exact wp_f (by omega) (wp_some ⟨no (fun z => hG (hgo.mp z).1), hE⟩)
