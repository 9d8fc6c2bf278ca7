/-! other tempers: the reference's search -/
def dgV (v i : Nat) : Nat := if i = 0 then v / 1000 % 10 else if i = 1 then v / 100 % 10 else if i = 2 then v / 10 % 10 else v % 10
def dsV (nw : Nat → Int) (v : Nat) : Int := ds nw (dgV v 0) (dgV v 1) (dgV v 2) (dgV v 3)
def gdV (ld : SS) (a b m mi v : Nat) : Prop := gd ld a b m mi (dgV v 0) (dgV v 1) (dgV v 2) (dgV v 3)
/-- the best so far -/
def Bst (ld : SS) (nw : Nat → Int) (a b m mi : Nat) (τ : SS) (v : Nat) (least : Int) : Prop := (least = -1 ∧ ∀ w, w < v → ¬ gdV ld a b m mi w) ∨ (0 ≤ least ∧ ∃ v0, v0 < v ∧ gdV ld a b m mi v0 ∧ dsV nw v0 = least ∧ (∀ i, i < 4 → gi τ 129 i = dgV v0 i) ∧ ∀ w, w < v → gdV ld a b m mi w → least < dsV nw w ∨ least = dsV nw w ∧ v0 ≤ w)
abbrev PTr (a b : Nat) : Nat → Nat → Prop := fun r k => r = 118 ∧ (k = 1 + 2 * a ∨ k = 1 + 2 * a + 1 ∨ k = 1 + 2 * b ∨ k = 1 + 2 * b + 1) ∨ r = 129 ∨ r = 130 ∨ PMk 119 r k
section
variable {ld : SS} {nw : Nat → Int} {a b m mi bk : Nat}
theorem x_apart (x y : Int) (h : -1000 ≤ x - y ∧ x - y ≤ 1000) (σ : SS) : f_Mo_apart x y σ = some (ab (x - y), σ) := by
  unfold f_Mo_apart ab
  by_cases hxy : y ≤ x
  · rw [if_pos hxy, if_pos (by omega), iwc (by omega) (by omega)]
  · rw [if_neg hxy, if_neg (by omega), iwc (by omega) (by omega)]
    congr 2
    omega
theorem x_layTempersM (hab : a < 6 ∧ b < 6 ∧ a ≠ b) (u : Nat) (hu : u = 128 ∨ u = 130) (σ : SS) : f_Mo_layTempers (a : Int) (b : Int) u σ = some (0, si (si (si (si σ 118 (1 + 2 * a) (gi σ u 0)) 118 (1 + 2 * a + 1) (gi σ u 1)) 118 (1 + 2 * b) (gi σ u 2)) 118 (1 + 2 * b + 1) (gi σ u 3)) := by
  have hN : rN u = 4 := by rcases hu with rfl | rfl <;> rfl
  have i1 : iw (1 + iw (2 * (a : Int))) = ((1 + 2 * a : Nat) : Int) := by rw [iwc (x := 2 * (a : Int)) (by omega) (by omega), iwc (by omega) (by omega)]; omega
  have i2 : iw (((1 + 2 * a : Nat) : Int) + 1) = ((1 + 2 * a + 1 : Nat) : Int) := by rw [iwc (by omega) (by omega)]; omega
  have i3 : iw (1 + iw (2 * (b : Int))) = ((1 + 2 * b : Nat) : Int) := by rw [iwc (x := 2 * (b : Int)) (by omega) (by omega), iwc (by omega) (by omega)]; omega
  have i4 : iw (((1 + 2 * b : Nat) : Int) + 1) = ((1 + 2 * b + 1 : Nat) : Int) := by rw [iwc (by omega) (by omega)]; omega
  have e : ∀ (s : SS) k v j, gi (si s 118 k v) u j = gi s u j := fun s k v j => gi_ne_r _ _ _ _ (by omega)
  unfold f_Mo_layTempers
  rw [hN, oc_pos (by decide), i1, oc_pos (by omega), os_eq, Int.toNat_natCast, oc_pos (by decide), i2, oc_pos (by omega), os_eq, Int.toNat_natCast, e, oc_pos (by decide), i3, oc_pos (by omega), os_eq, Int.toNat_natCast, e, e, oc_pos (by decide), i4, oc_pos (by omega), os_eq, Int.toNat_natCast, e, e, e]
/-- the digits of a number, and their sum of changes -/
theorem x_digits (hnw : ∀ i, i < 4 → 0 ≤ nw i ∧ nw i ≤ 9) (self6 : Int → Int → SS → OO) (y1 y2 y3 y4 y5 : Int) (v : Nat) (hv : v < 10000) (fu : Nat) (σ : SS) (h128 : ∀ i, i < 4 → gi σ 128 i = nw i) : ∃ τ, l_Mo_changes_24 self6 y1 y2 y3 y4 y5 (v : Int) (fu + 1 + 1 + 1 + 1 + 1) (v : Int) 0 3 σ = (if y5 < 0 then (j_Mo_changes_91 self6 y1 y2 y3 y4 y5 (v : Int) (dsV nw v) τ) else (if dsV nw v < y5 then (j_Mo_changes_91 self6 y1 y2 y3 y4 y5 (v : Int) (dsV nw v) τ) else (self6 y5 (iw ((v : Int) + 1)) τ))) ∧ EqP (fun r _ => r = 130) σ τ ∧ ∀ i, i < 4 → gi τ 130 i = dgV v i := by
  have n0 := hnw 0 (by omega)
  have n1 := hnw 1 (by omega)
  have n2 := hnw 2 (by omega)
  have n3 := hnw 3 (by omega)
  have step : ∀ (i : Nat) (rest : Nat) (sum : Int) (f : Nat) (s : SS), i < 4 → rest < 10000 → 0 ≤ sum ∧ sum ≤ 100 → gi s 128 i = nw i → l_Mo_changes_24 self6 y1 y2 y3 y4 y5 (v : Int) (f + 1) (rest : Int) sum (i : Int) s = l_Mo_changes_24 self6 y1 y2 y3 y4 y5 (v : Int) f ((rest / 10 : Nat) : Int) (sum + ab (((rest % 10 : Nat) : Int) - nw i)) ((i : Int) - 1) (si s 130 i ((rest % 10 : Nat) : Int)) := by
    intro i rest sum f s hi hr hs hg
    have hn := hnw i hi
    have ha := ab_v (((rest % 10 : Nat) : Int) - nw i)
    rw [l_Mo_changes_24, if_neg (by omega), oc_pos (by omega), os_eq, ol_eq, oc_pos (by omega), oc_pos (by omega), Int.toNat_natCast, show Int.tmod (rest : Int) 10 = ((rest % 10 : Nat) : Int) by rw [tmn _ (by omega)]; omega, show Int.tdiv (rest : Int) 10 = ((rest / 10 : Nat) : Int) by rw [tdn _ (by omega)]; omega, gi_same, gi_ne_r _ _ _ _ (show 128 ≠ 130 by omega), hg, x_apart _ _ (by omega), ob_eq, ol_eq, iwc (x := sum + ab (((rest % 10 : Nat) : Int) - nw i)) (by omega) (by omega), iwc (by omega) (by omega), show (i : Int) + -1 = (i : Int) - 1 by omega]
  have m3 := ab_v (((v % 10 : Nat) : Int) - nw 3)
  have m2 := ab_v (((v / 10 % 10 : Nat) : Int) - nw 2)
  have m1 := ab_v (((v / 10 / 10 % 10 : Nat) : Int) - nw 1)
  have m0 := ab_v (((v / 10 / 10 / 10 % 10 : Nat) : Int) - nw 0)
  have s3 := step 3 v 0 (fu + 1 + 1 + 1 + 1) σ (by omega) hv (by omega) (h128 3 (by omega))
  have s2 := step 2 (v / 10) (0 + ab (((v % 10 : Nat) : Int) - nw 3)) (fu + 1 + 1 + 1) (si σ 130 3 ((v % 10 : Nat) : Int)) (by omega) (by omega) (by omega) (by rw [gi_ne_r _ _ _ _ (by omega)]; exact h128 2 (by omega))
  have s1 := step 1 (v / 10 / 10) (0 + ab (((v % 10 : Nat) : Int) - nw 3) + ab (((v / 10 % 10 : Nat) : Int) - nw 2)) (fu + 1 + 1) (si (si σ 130 3 ((v % 10 : Nat) : Int)) 130 2 ((v / 10 % 10 : Nat) : Int)) (by omega) (by omega) (by omega) (by rw [gi_ne_r _ _ _ _ (by omega), gi_ne_r _ _ _ _ (by omega)]; exact h128 1 (by omega))
  have s0 := step 0 (v / 10 / 10 / 10) (0 + ab (((v % 10 : Nat) : Int) - nw 3) + ab (((v / 10 % 10 : Nat) : Int) - nw 2) + ab (((v / 10 / 10 % 10 : Nat) : Int) - nw 1)) (fu + 1) (si (si (si σ 130 3 ((v % 10 : Nat) : Int)) 130 2 ((v / 10 % 10 : Nat) : Int)) 130 1 ((v / 10 / 10 % 10 : Nat) : Int)) (by omega) (by omega) (by omega) (by rw [gi_ne_r _ _ _ _ (by omega), gi_ne_r _ _ _ _ (by omega), gi_ne_r _ _ _ _ (by omega)]; exact h128 0 (by omega))
  have e3 : ((3 : Nat) : Int) - 1 = ((2 : Nat) : Int) := by omega
  have e2 : ((2 : Nat) : Int) - 1 = ((1 : Nat) : Int) := by omega
  have e1 : ((1 : Nat) : Int) - 1 = ((0 : Nat) : Int) := by omega
  rw [e3] at s3
  rw [e2] at s2
  rw [e1] at s1
  have es : 0 + ab (((v % 10 : Nat) : Int) - nw 3) + ab (((v / 10 % 10 : Nat) : Int) - nw 2) + ab (((v / 10 / 10 % 10 : Nat) : Int) - nw 1) + ab (((v / 10 / 10 / 10 % 10 : Nat) : Int) - nw 0) = dsV nw v := by
    have d0 : dgV v 0 = v / 10 / 10 / 10 % 10 := by show v / 1000 % 10 = _; omega
    have d1 : dgV v 1 = v / 10 / 10 % 10 := by show v / 100 % 10 = _; omega
    have d2 : dgV v 2 = v / 10 % 10 := rfl
    have d3 : dgV v 3 = v % 10 := rfl
    unfold dsV ds
    rw [d0, d1, d2, d3]
    omega
  refine ⟨si (si (si (si σ 130 3 ((v % 10 : Nat) : Int)) 130 2 ((v / 10 % 10 : Nat) : Int)) 130 1 ((v / 10 / 10 % 10 : Nat) : Int)) 130 0 ((v / 10 / 10 / 10 % 10 : Nat) : Int), ?_, EqP.si (P := fun r _ => r = 130) (EqP.si (P := fun r _ => r = 130) (EqP.si (P := fun r _ => r = 130) (EqP.si (P := fun r _ => r = 130) (EqP.rf _ _) _ _ _ rfl) _ _ _ rfl) _ _ _ rfl) _ _ _ rfl, fun i hi => ?_⟩
  · have s3' : l_Mo_changes_24 self6 y1 y2 y3 y4 y5 (v : Int) (fu + 1 + 1 + 1 + 1 + 1) (v : Int) 0 3 σ = _ := s3
    rw [s3', s2, s1, s0, l_Mo_changes_24, if_pos (by omega), es]
  · have h4 : i = 0 ∨ i = 1 ∨ i = 2 ∨ i = 3 := by omega
    rcases h4 with rfl | rfl | rfl | rfl
    · rw [gi_same]
      show ((v / 10 / 10 / 10 % 10 : Nat) : Int) = ((v / 1000 % 10 : Nat) : Int)
      omega
    · rw [gi_ne_k _ _ _ _ (by omega), gi_same]
      show ((v / 10 / 10 % 10 : Nat) : Int) = ((v / 100 % 10 : Nat) : Int)
      omega
    · rw [gi_ne_k _ _ _ _ (by omega), gi_ne_k _ _ _ _ (by omega), gi_same]
      rfl
    · rw [gi_ne_k _ _ _ _ (by omega), gi_ne_k _ _ _ _ (by omega), gi_ne_k _ _ _ _ (by omega), gi_same]
      rfl
theorem x_changes (hok : LdOK ld) (hc : CPL ld a b m) (hmi : 1 ≤ mi ∧ mi ≤ 60) (hnw : ∀ i, i < 4 → 0 ≤ nw i ∧ nw i ≤ 9) (σ0 : SS) : ∀ (d v fu : Nat) (least : Int) (σ : SS), v + d = 10000 → d < fu → LM ld σ bk → gi σ 86 54 = 0 → (∀ i, i < 4 → gi σ 128 i = nw i) → EqP (PTr a b) σ0 σ → Bst ld nw a b m mi σ v least → Wp (l_Mo_changes_6 (a : Int) (b : Int) (m : Int) (mi : Int) fu least (v : Int) σ) fun r τ => EqP (PTr a b) σ0 τ ∧ Bst ld nw a b m mi τ 10000 r := by
  obtain ⟨q1, q2, q3⟩ : a < 6 ∧ b < 6 ∧ m < 6 := ⟨by have := hc.1; have := hok.2.2.1; omega, by have := hc.2.1; have := hok.2.2.1; omega, by have := hc.2.2.2.1; have := hok.2.2.2.1; omega⟩
  have hab : a ≠ b := hc.2.2.1
  intro d
  induction d with
  | zero =>
    intro v fu least σ hv hfu _ _ _ hE hB
    obtain ⟨fu, rfl⟩ : ∃ f, fu = f + 1 := ⟨fu - 1, by omega⟩
    obtain rfl : v = 10000 := by omega
    rw [l_Mo_changes_6]
    exact wp_t (by omega) (wp_some ⟨hE, hB⟩)
  | succ d ih =>
    intro v fu least σ hv hfu hM h54 h128 hE hB
    obtain ⟨fu, rfl⟩ : ∃ f, fu = f + 1 := ⟨fu - 1, by omega⟩
    have hv1 : iw ((v : Int) + 1) = ((v + 1 : Nat) : Int) := by rw [iwc (by omega) (by omega)]; omega
    rw [l_Mo_changes_6]
    refine wp_f (by omega) ?_
    obtain ⟨F, hF⟩ : ∃ F, FU = F + 1 + 1 + 1 + 1 + 1 := ⟨FU - 5, by unfold FU; omega⟩
    rw [hF]
    obtain ⟨σ1, e1, hE1, h130⟩ := x_digits hnw (l_Mo_changes_6 (a : Int) (b : Int) (m : Int) (mi : Int) fu) (a : Int) (b : Int) (m : Int) (mi : Int) least v (by omega) F σ h128
    rw [e1, hv1]
    have hE01 : EqP (PTr a b) σ0 σ1 := hE.tr (hE1.mo (fun r k z => by omega))
    have hB1 : Bst ld nw a b m mi σ1 v least := by
      rcases hB with h | ⟨h0, v0, h1, h2, h3, h4, h5⟩
      · exact Or.inl h
      · exact Or.inr ⟨h0, v0, h1, h2, h3, fun i hi => by rw [hE1.i _ _ (by omega)]; exact h4 i hi, h5⟩
    have hsame : ¬ (least < 0 ∨ dsV nw v < least) → Bst ld nw a b m mi σ1 (v + 1) least := by
      intro hn
      rcases hB1 with ⟨h, _⟩ | ⟨h0, v0, h1, h2, h3, h4, h5⟩
      · omega
      · refine Or.inr ⟨h0, v0, by omega, h2, h3, h4, fun w hw hg => ?_⟩
        by_cases e : w = v
        · rw [e]; omega
        · exact h5 w (by omega) hg
    have hM1 := hM.of hE1 (fun r k z => by omega)
    -- a number that may be better
    have try91 : (least < 0 ∨ dsV nw v < least) → Wp (j_Mo_changes_91 (l_Mo_changes_6 (a : Int) (b : Int) (m : Int) (mi : Int) fu) (a : Int) (b : Int) (m : Int) (mi : Int) least (v : Int) (dsV nw v) σ1) fun r τ => EqP (PTr a b) σ0 τ ∧ Bst ld nw a b m mi τ 10000 r := by
      intro hbt
      unfold j_Mo_changes_91
      rw [x_layTempersM ⟨q1, q2, hab⟩ 130 (Or.inr rfl), ob_eq, h130 0 (by omega), h130 1 (by omega), h130 2 (by omega), h130 3 (by omega)]
      have hE2 : EqP (fun r k => r = 118 ∧ (k = 1 + 2 * a ∨ k = 1 + 2 * a + 1 ∨ k = 1 + 2 * b ∨ k = 1 + 2 * b + 1)) σ1 (si (si (si (si σ1 118 (1 + 2 * a) (dgV v 0 : Int)) 118 (1 + 2 * a + 1) (dgV v 1 : Int)) 118 (1 + 2 * b) (dgV v 2 : Int)) 118 (1 + 2 * b + 1) (dgV v 3 : Int)) := EqP.si (EqP.si (EqP.si (EqP.si (EqP.rf _ _) _ _ _ (by omega)) _ _ _ (by omega)) _ _ _ (by omega)) _ _ _ (by omega)
      have w0 : gi (si (si (si (si σ1 118 (1 + 2 * a) (dgV v 0 : Int)) 118 (1 + 2 * a + 1) (dgV v 1 : Int)) 118 (1 + 2 * b) (dgV v 2 : Int)) 118 (1 + 2 * b + 1) (dgV v 3 : Int)) 118 (1 + 2 * a) = dgV v 0 := by rw [gi_ne_k _ _ _ _ (by omega), gi_ne_k _ _ _ _ (by omega), gi_ne_k _ _ _ _ (by omega), gi_same]
      have w1 : gi (si (si (si (si σ1 118 (1 + 2 * a) (dgV v 0 : Int)) 118 (1 + 2 * a + 1) (dgV v 1 : Int)) 118 (1 + 2 * b) (dgV v 2 : Int)) 118 (1 + 2 * b + 1) (dgV v 3 : Int)) 118 (1 + (2 * a + 1)) = dgV v 1 := by rw [gi_ne_k _ _ _ _ (by omega), gi_ne_k _ _ _ _ (by omega), show 1 + (2 * a + 1) = 1 + 2 * a + 1 by omega, gi_same]
      have w2 : gi (si (si (si (si σ1 118 (1 + 2 * a) (dgV v 0 : Int)) 118 (1 + 2 * a + 1) (dgV v 1 : Int)) 118 (1 + 2 * b) (dgV v 2 : Int)) 118 (1 + 2 * b + 1) (dgV v 3 : Int)) 118 (1 + 2 * b) = dgV v 2 := by rw [gi_ne_k _ _ _ _ (by omega), gi_same]
      have w3 : gi (si (si (si (si σ1 118 (1 + 2 * a) (dgV v 0 : Int)) 118 (1 + 2 * a + 1) (dgV v 1 : Int)) 118 (1 + 2 * b) (dgV v 2 : Int)) 118 (1 + 2 * b + 1) (dgV v 3 : Int)) 118 (1 + (2 * b + 1)) = dgV v 3 := by rw [show 1 + (2 * b + 1) = 1 + 2 * b + 1 by omega, gi_same]
      generalize si (si (si (si σ1 118 (1 + 2 * a) (dgV v 0 : Int)) 118 (1 + 2 * a + 1) (dgV v 1 : Int)) 118 (1 + 2 * b) (dgV v 2 : Int)) 118 (1 + 2 * b + 1) (dgV v 3 : Int) = σ2 at hE2 w0 w1 w2 w3 ⊢
      have hM2 := hM1.of hE2 (fun r k z => by omega)
      have h542 : gi σ2 86 54 = 0 := by rw [hE2.i _ _ (by omega), hE1.i _ _ (by omega)]; exact h54
      have hTp : TPM ld σ2 bk (fun j => gi σ2 118 (1 + j)) := Or.inl ⟨h542, fun j _ => rfl⟩
      refine wp_call (x_openLengthM hok hM2 hTp hc) ?_
      rintro r σ3 ⟨hr, hE3⟩
      have hgd : gdV ld a b m mi v ↔ r = mi := by
        unfold gdV
        rw [gd_tp hab (tp := fun j => gi σ2 118 (1 + j)) w0 w1 w2 w3, hr]
        rfl
      have hM3 := hM2.of hE3 (fun r k z => by omega)
      have h543 : gi σ3 86 54 = 0 := by rw [hE3.i _ _ (by omega)]; exact h542
      have h1283 : ∀ i, i < 4 → gi σ3 128 i = nw i := fun i hi => by rw [hE3.i _ _ (by omega), hE2.i _ _ (by omega), hE1.i _ _ (by omega)]; exact h128 i hi
      have hE03 : EqP (PTr a b) σ0 σ3 := (hE01.tr (hE2.mo (fun r k z => Or.inl z))).tr (hE3.mo (fun r k z => Or.inr (Or.inr (Or.inr z))))
      have h129 : ∀ i, gi σ3 129 i = gi σ1 129 i := fun i => by rw [hE3.i _ _ (by omega), hE2.i _ _ (by omega)]
      have h1303 : ∀ i, i < 4 → gi σ3 130 i = dgV v i := fun i hi => by rw [hE3.i _ _ (by omega), hE2.i _ _ (by omega)]; exact h130 i hi
      have hds0 : 0 ≤ dsV nw v := by
        unfold dsV ds
        have := ab_v ((dgV v 0 : Int) - nw 0)
        have := ab_v ((dgV v 1 : Int) - nw 1)
        have := ab_v ((dgV v 2 : Int) - nw 2)
        have := ab_v ((dgV v 3 : Int) - nw 3)
        omega
      by_cases hrm : r = mi
      · refine wp_t hrm ?_
        have hcp : ∃ τ, l_Mo_changes_123 (l_Mo_changes_6 (a : Int) (b : Int) (m : Int) (mi : Int) fu) (a : Int) (b : Int) (m : Int) (mi : Int) (dsV nw v) (v : Int) FU 0 σ3 = l_Mo_changes_6 (a : Int) (b : Int) (m : Int) (mi : Int) fu (dsV nw v) ((v + 1 : Nat) : Int) τ ∧ EqP (fun r _ => r = 129) σ3 τ ∧ ∀ i, i < 4 → gi τ 129 i = dgV v i := by
          have z := cp_loop (fun f i s => l_Mo_changes_123 (l_Mo_changes_6 (a : Int) (b : Int) (m : Int) (mi : Int) fu) (a : Int) (b : Int) (m : Int) (mi : Int) (dsV nw v) (v : Int) f i s) (fun τ => l_Mo_changes_6 (a : Int) (b : Int) (m : Int) (mi : Int) fu (dsV nw v) ((v + 1 : Nat) : Int) τ) 129 130 4 0 0 (by omega) (fun _ => True) (fun _ _ _ _ => trivial) (fun f i s _ hi => by
            show l_Mo_changes_123 _ _ _ _ _ _ _ (f + 1) (i : Int) s = _
            rw [l_Mo_changes_123, if_neg (by omega), oc_pos (by omega), oc_pos (by omega), os_eq, Int.toNat_natCast, Nat.zero_add, show iw ((i : Int) + 1) = ((i + 1 : Nat) : Int) by rw [iwc (by omega) (by omega)]; omega]) (fun f s _ => by
            show l_Mo_changes_123 _ _ _ _ _ _ _ (f + 1) ((4 : Nat) : Int) s = _
            rw [l_Mo_changes_123, if_pos (by omega), hv1]) 4 0 FU σ3 (by omega) (by unfold FU; omega) trivial
          refine ⟨_, z, EqP.sr (EqP.rf _ _) _ _ (fun k => rfl), fun i hi => ?_⟩
          rw [gi_sr_same, if_pos (by omega), show 0 + (i - 0) = i by omega]
          exact h1303 i hi
        obtain ⟨σ4, e4, hE4, h1294⟩ := hcp
        rw [e4]
        refine ih (v + 1) fu (dsV nw v) σ4 (by omega) (by omega) (hM3.of hE4 (fun r k z => by omega)) (by rw [hE4.i _ _ (by omega)]; exact h543) (fun i hi => by rw [hE4.i _ _ (by omega)]; exact h1283 i hi) (hE03.tr (hE4.mo (fun r k z => by omega))) (Or.inr ⟨hds0, v, by omega, hgd.mpr hrm, rfl, h1294, fun w hw hg => ?_⟩)
        by_cases e : w = v
        · rw [e]; exact Or.inr ⟨rfl, Nat.le_refl _⟩
        · rcases hB1 with ⟨h, hno⟩ | ⟨h0, v0, h1, h2, h3, h4, h5⟩
          · exact absurd hg (hno w (by omega))
          · have := h5 w (by omega) hg
            left
            omega
      · refine wp_f hrm ?_
        rw [hv1]
        refine ih (v + 1) fu least σ3 (by omega) (by omega) hM3 h543 h1283 hE03 ?_
        rcases hB1 with ⟨h, hno⟩ | ⟨h0, v0, h1, h2, h3, h4, h5⟩
        · refine Or.inl ⟨h, fun w hw => ?_⟩
          by_cases e : w = v
          · rw [e]; exact fun z => hrm (hgd.mp z)
          · exact hno w (by omega)
        · refine Or.inr ⟨h0, v0, by omega, h2, h3, fun i hi => by rw [h129]; exact h4 i hi, fun w hw hg => ?_⟩
          by_cases e : w = v
          · rw [e] at hg; exact absurd (hgd.mp hg) hrm
          · exact h5 w (by omega) hg
    by_cases hl : least < 0
    · exact wp_t hl (try91 (Or.inl hl))
    · refine wp_f hl ?_
      by_cases hl2 : dsV nw v < least
      · exact wp_t hl2 (try91 (Or.inr hl2))
      · refine wp_f hl2 (ih (v + 1) fu least σ1 (by omega) (by omega) hM1 (by rw [hE1.i _ _ (by omega)]; exact h54) (fun i hi => by rw [hE1.i _ _ (by omega)]; exact h128 i hi) hE01 (hsame (by omega)))
end
