/-! the reference's quarrel -/
def LM (ld σ : SS) (b : Nat) : Prop := b < 2 ∧ gi σ 86 40 = b ∧ (gi σ 89 b = gi ld 2 0 ∧ gi σ 90 b = gi ld 2 4 ∧ gi σ 91 b = gi ld 2 9 ∧ gi σ 92 b = gi ld 2 12 ∧ gi σ 93 b = iw (gi ld 16 3 + gi ld 19 3) ∧ gi σ 94 b = gi ld 2 17) ∧
  (∀ p : Nat, (p : Int) < gi ld 2 0 → gi σ 95 (8 * b + p) = gi ld 4 p ∧ gi σ 96 (8 * b + p) = gi ld 5 p) ∧
  (∀ y : Nat, (y : Int) < gi ld 2 4 → gi σ 97 (14 * b + y) = gi ld 6 y ∧ gi σ 98 (14 * b + y) = gi ld 7 y ∧ gi σ 99 (14 * b + y) = gi ld 8 y ∧ gi σ 100 (14 * b + y) = gi ld 9 y) ∧
  (∀ s : Nat, (s : Int) < gi ld 2 9 → gi σ 101 (6 * b + s) = gi ld 11 (2 * s) ∧ gi σ 102 (6 * b + s) = gi ld 11 (2 * s + 1)) ∧
  (∀ m : Nat, (m : Int) < gi ld 2 12 → gi σ 103 (6 * b + m) = gi ld 13 m ∧ gi σ 104 (6 * b + m) = gi ld 14 m ∧ ∀ i : Nat, (i : Int) < gi ld 14 m → gi σ 105 (8 * (6 * b + m) + i) = gi ld 15 (8 * m + i)) ∧
  RM ld σ 16 0 b ∧ RM ld σ 19 1 b
theorem LM.of {P : Nat → Nat → Prop} {ld σ τ : SS} {b : Nat} (h : LM ld σ b) (he : EqP P σ τ) (hp : ∀ r k, (89 ≤ r ∧ r ≤ 109 ∨ r = 113 ∨ r = 114 ∨ r = 86 ∧ k = 40) → ¬ P r k) : LM ld τ b := by
  have g : ∀ r k, (89 ≤ r ∧ r ≤ 109 ∨ r = 113 ∨ r = 114 ∨ r = 86 ∧ k = 40) → gi τ r k = gi σ r k := fun r k z => he.i r k (hp r k z)
  obtain ⟨h1, h2, ⟨h3, h4, h5, h6, h7, h8⟩, h9, h10, h11, h12, h13, h14⟩ := h
  refine ⟨h1, by rw [g _ _ (by omega)]; exact h2, ⟨by rw [g _ _ (by omega)]; exact h3, by rw [g _ _ (by omega)]; exact h4, by rw [g _ _ (by omega)]; exact h5, by rw [g _ _ (by omega)]; exact h6, by rw [g _ _ (by omega)]; exact h7, by rw [g _ _ (by omega)]; exact h8⟩, ?_, ?_, ?_, ?_, ?_, ?_⟩
  · intro p hp; rw [g _ _ (by omega), g _ _ (by omega)]; exact h9 p hp
  · intro p hp; rw [g _ _ (by omega), g _ _ (by omega), g _ _ (by omega), g _ _ (by omega)]; exact h10 p hp
  · intro p hp; rw [g _ _ (by omega), g _ _ (by omega)]; exact h11 p hp
  · intro p hp
    rw [g _ _ (by omega), g _ _ (by omega)]
    obtain ⟨k1, k2, k3⟩ := h12 p hp
    exact ⟨k1, k2, fun i hi => by rw [g _ _ (by omega)]; exact k3 i hi⟩
  · obtain ⟨k1, k2⟩ := h13
    refine ⟨by rw [g _ _ (by omega)]; exact k1, fun z => ?_⟩
    obtain ⟨fr, j1, j2, j3, j4⟩ := k2 z
    exact ⟨fr, by rw [g _ _ (by omega)]; exact j1, by rw [g _ _ (by omega)]; exact j2, j3, fun j hj => by rw [g _ _ (by omega), g _ _ (by omega)]; exact j4 j hj⟩
  · obtain ⟨k1, k2⟩ := h14
    refine ⟨by rw [g _ _ (by omega)]; exact k1, fun z => ?_⟩
    obtain ⟨fr, j1, j2, j3, j4⟩ := k2 z
    exact ⟨fr, by rw [g _ _ (by omega)]; exact j1, by rw [g _ _ (by omega)]; exact j2, j3, fun j hj => by rw [g _ _ (by omega), g _ _ (by omega)]; exact j4 j hj⟩
/-- the tempers that the reference asks for -/
def TPM (ld σ : SS) (b : Nat) (tp : Nat → Int) : Prop := (gi σ 86 54 = 0 ∧ ∀ j, j < 12 → gi σ 118 (1 + j) = tp j) ∨ (gi σ 86 54 ≠ 0 ∧ ∀ s : Nat, (s : Int) < gi ld 2 9 → gi σ 101 (6 * b + s) = tp (2 * s) ∧ gi σ 102 (6 * b + s) = tp (2 * s + 1))
theorem TPM.of {P : Nat → Nat → Prop} {ld σ τ : SS} {b : Nat} {tp : Nat → Int} (h : TPM ld σ b tp) (he : EqP P σ τ) (hp : ∀ r k, (r = 86 ∧ k = 54 ∨ r = 118 ∧ 1 ≤ k ∧ k < 13 ∨ r = 101 ∨ r = 102) → ¬ P r k) : TPM ld τ b tp := by
  have g : ∀ r k, (r = 86 ∧ k = 54 ∨ r = 118 ∧ 1 ≤ k ∧ k < 13 ∨ r = 101 ∨ r = 102) → gi τ r k = gi σ r k := fun r k z => he.i r k (hp r k z)
  rcases h with ⟨h1, h2⟩ | ⟨h1, h2⟩
  · exact Or.inl ⟨by rw [g _ _ (by omega)]; exact h1, fun j hj => by rw [g _ _ (by omega)]; exact h2 j hj⟩
  · exact Or.inr ⟨by rw [g _ _ (by omega)]; exact h1, fun s hs => by rw [g _ _ (by omega), g _ _ (by omega)]; exact h2 s hs⟩
theorem x_temperOf {ld σ : SS} {b : Nat} {tp : Nat → Int} (hb : b < 2) (hbk : gi σ 86 40 = b) (h : TPM ld σ b tp) (s k : Nat) (hs : (s : Int) < gi ld 2 9) (h6 : s < 6) (hk : k < 2) : f_Mo_temperOf s k σ = some (tp (2 * s + k), σ) := by
  unfold f_Mo_temperOf
  rcases h with ⟨h1, h2⟩ | ⟨h1, h2⟩
  · rw [if_pos h1, show iw (iw (1 + iw (2 * (s : Int))) + (k : Int)) = ((1 + (2 * s + k) : Nat) : Int) by simp (disch := omega) only [iwc]; omega, oc_pos (by omega), Int.toNat_natCast, h2 _ (by omega)]
  · obtain ⟨k1, k2⟩ := h2 s hs
    rw [if_neg h1, hbk, ix6 b s ⟨hb, by omega⟩]
    have hk2 : k = 0 ∨ k = 1 := by omega
    rcases hk2 with rfl | rfl
    · rw [if_pos (by omega), oc_pos (by omega), Int.toNat_natCast, k1]; rfl
    · rw [if_neg (by omega), oc_pos (by omega), Int.toNat_natCast, k2]
noncomputable def endM (ld : SS) (x3 : Int) (q : QQ) : QQ := if 0 ≤ x3 then calmP ld x3.toNat q else q
noncomputable def midM (ld : SS) (x2 x3 : Int) (q : QQ) : QQ := endM ld x3 (if x2 < 0 then q else sightP ld x2.toNat q)
theorem x_m216 {ld σ : SS} {bk : Nat} (hok : LdOK ld) (hM : LM ld σ bk) {u a b m : Nat} (hu : u = 118 ∨ u = 119) {q : QQ} (hT : TM σ u a b m q) (hq : QOK q) (x3 : Int) (h3 : x3 < gi ld 2 0) : Wp (j_Mo_say_216 u x3 σ) fun _ τ => TM τ u a b m (endM ld x3 q) ∧ EqP (PMk u) σ τ := by
  have hrn : rN u = 44 := by rcases hu with rfl | rfl <;> rfl
  have hb := hM.1
  have hbk := hM.2.1
  have l0 := hok.1
  obtain ⟨c1, c2, c3, c4, c5, c6, c7⟩ := id hT
  obtain ⟨v1, v2, v3⟩ := hq
  unfold j_Mo_say_216 endM
  by_cases h0 : 0 ≤ x3
  · obtain ⟨e, rfl⟩ : ∃ n : Nat, x3 = n := ⟨x3.toNat, by omega⟩
    obtain ⟨pl1, pl2⟩ := hok.pl h3
    obtain ⟨m95, m96⟩ := hM.2.2.2.1 e h3
    refine wp_t h0 ?_
    rw [if_pos h0, Int.toNat_natCast, hbk, ix8 bk e ⟨by omega, by omega⟩, hrn]
    repeat (first | with_reducible refine wp_os ?_ | with_reducible refine wp_ol ?_ | (with_reducible refine wp_oc ?_ ?_; · (first | omega | (simp (disch := omega) only [gi_same, gi_ne_r, gi_ne_k, gi_sr_same, gi_sr_ne, gj_sj_same, gj_sj_ne_r, gj_sj_ne_k, gj_si, gi_sj, gj_sr, iwc, jwc, Int.toNat_natCast, tdn, tmn, b0, b1, yc0, yc1]; try omega))) | (with_reducible refine wp_t ?_ ?_; · (first | omega | (simp (disch := omega) only [gi_same, gi_ne_r, gi_ne_k, gi_sr_same, gi_sr_ne, gj_sj_same, gj_sj_ne_r, gj_sj_ne_k, gj_si, gi_sj, gj_sr, iwc, jwc, Int.toNat_natCast, tdn, tmn, b0, b1, yc0, yc1]; try omega))) | (with_reducible refine wp_f ?_ ?_; · (first | omega | (simp (disch := omega) only [gi_same, gi_ne_r, gi_ne_k, gi_sr_same, gi_sr_ne, gj_sj_same, gj_sj_ne_r, gj_sj_ne_k, gj_si, gi_sj, gj_sr, iwc, jwc, Int.toNat_natCast, tdn, tmn, b0, b1, yc0, yc1]; try omega))))
    refine wp_eq (x_warm _ _) ?_
    repeat (first | with_reducible refine wp_os ?_ | with_reducible refine wp_ol ?_ | (with_reducible refine wp_oc ?_ ?_; · (first | omega | (simp (disch := omega) only [gi_same, gi_ne_r, gi_ne_k, gi_sr_same, gi_sr_ne, gj_sj_same, gj_sj_ne_r, gj_sj_ne_k, gj_si, gi_sj, gj_sr, iwc, jwc, Int.toNat_natCast, tdn, tmn, b0, b1, yc0, yc1]; try omega))) | (with_reducible refine wp_t ?_ ?_; · (first | omega | (simp (disch := omega) only [gi_same, gi_ne_r, gi_ne_k, gi_sr_same, gi_sr_ne, gj_sj_same, gj_sj_ne_r, gj_sj_ne_k, gj_si, gi_sj, gj_sr, iwc, jwc, Int.toNat_natCast, tdn, tmn, b0, b1, yc0, yc1]; try omega))) | (with_reducible refine wp_f ?_ ?_; · (first | omega | (simp (disch := omega) only [gi_same, gi_ne_r, gi_ne_k, gi_sr_same, gi_sr_ne, gj_sj_same, gj_sj_ne_r, gj_sj_ne_k, gj_si, gi_sj, gj_sr, iwc, jwc, Int.toNat_natCast, tdn, tmn, b0, b1, yc0, yc1]; try omega))))
    rw [show iw (gi σ u 20 - gi σ 95 (((8 * bk + e : Nat) : Int)).toNat) = q.1 - gi ld 4 e by simp (disch := omega) only [gi_same, gi_ne_r, gi_ne_k, gi_sr_same, gi_sr_ne, gj_sj_same, gj_sj_ne_r, gj_sj_ne_k, gj_si, gi_sj, gj_sr, iwc, jwc, Int.toNat_natCast, tdn, tmn, b0, b1, yc0, yc1, c4, m95]]
    have hw : cl 0 (q.1 - gi ld 4 e) 99 = zmax 0 (q.1 - gi ld 4 e) := by unfold cl zmax; split <;> split <;> omega
    rw [hw]
    have k40 : gi (si σ u 20 (zmax 0 (q.1 - gi ld 4 e))) 86 40 = bk := by simp (disch := omega) only [gi_same, gi_ne_r, gi_ne_k, gi_sr_same, gi_sr_ne, gj_sj_same, gj_sj_ne_r, gj_sj_ne_k, gj_si, gi_sj, gj_sr, iwc, jwc, Int.toNat_natCast, tdn, tmn, b0, b1, yc0, yc1, hbk]
    rw [k40, ix8 bk e ⟨by omega, by omega⟩]
    have k96 : gi (si σ u 20 (zmax 0 (q.1 - gi ld 4 e))) 96 (8 * bk + e) = gi ld 5 e := by simp (disch := omega) only [gi_same, gi_ne_r, gi_ne_k, gi_sr_same, gi_sr_ne, gj_sj_same, gj_sj_ne_r, gj_sj_ne_k, gj_si, gi_sj, gj_sr, iwc, jwc, Int.toNat_natCast, tdn, tmn, b0, b1, yc0, yc1, m96]
    repeat (first | with_reducible refine wp_os ?_ | with_reducible refine wp_ol ?_ | (with_reducible refine wp_oc ?_ ?_; · (first | omega | (simp (disch := omega) only [gi_same, gi_ne_r, gi_ne_k, gi_sr_same, gi_sr_ne, gj_sj_same, gj_sj_ne_r, gj_sj_ne_k, gj_si, gi_sj, gj_sr, iwc, jwc, Int.toNat_natCast, tdn, tmn, b0, b1, yc0, yc1]; try omega))) | (with_reducible refine wp_t ?_ ?_; · (first | omega | (simp (disch := omega) only [gi_same, gi_ne_r, gi_ne_k, gi_sr_same, gi_sr_ne, gj_sj_same, gj_sj_ne_r, gj_sj_ne_k, gj_si, gi_sj, gj_sr, iwc, jwc, Int.toNat_natCast, tdn, tmn, b0, b1, yc0, yc1]; try omega))) | (with_reducible refine wp_f ?_ ?_; · (first | omega | (simp (disch := omega) only [gi_same, gi_ne_r, gi_ne_k, gi_sr_same, gi_sr_ne, gj_sj_same, gj_sj_ne_r, gj_sj_ne_k, gj_si, gi_sj, gj_sr, iwc, jwc, Int.toNat_natCast, tdn, tmn, b0, b1, yc0, yc1]; try omega))))
    rw [Int.toNat_natCast, k96]
    have k21 : gi (si σ u 20 (zmax 0 (q.1 - gi ld 4 e))) u 21 = (q.2.2.length : Int) := by simp (disch := omega) only [gi_same, gi_ne_r, gi_ne_k, gi_sr_same, gi_sr_ne, gj_sj_same, gj_sj_ne_r, gj_sj_ne_k, gj_si, gi_sj, gj_sr, iwc, jwc, Int.toNat_natCast, tdn, tmn, b0, b1, yc0, yc1, c6]
    unfold calmP
    by_cases h5 : gi ld 5 e ≤ 0
    · refine wp_t h5 (wp_some ⟨⟨?_, ?_, ?_, ?_, ?_, ?_, ?_⟩, ?_⟩)
      · simp (disch := omega) only [gi_same, gi_ne_r, gi_ne_k, gi_sr_same, gi_sr_ne, gj_sj_same, gj_sj_ne_r, gj_sj_ne_k, gj_si, gi_sj, gj_sr, iwc, jwc, Int.toNat_natCast, tdn, tmn, b0, b1, yc0, yc1, c1]
      · simp (disch := omega) only [gi_same, gi_ne_r, gi_ne_k, gi_sr_same, gi_sr_ne, gj_sj_same, gj_sj_ne_r, gj_sj_ne_k, gj_si, gi_sj, gj_sr, iwc, jwc, Int.toNat_natCast, tdn, tmn, b0, b1, yc0, yc1, c2]
      · simp (disch := omega) only [gi_same, gi_ne_r, gi_ne_k, gi_sr_same, gi_sr_ne, gj_sj_same, gj_sj_ne_r, gj_sj_ne_k, gj_si, gi_sj, gj_sr, iwc, jwc, Int.toNat_natCast, tdn, tmn, b0, b1, yc0, yc1, c3]
      · simp (disch := omega) only [gi_same, gi_ne_r, gi_ne_k, gi_sr_same, gi_sr_ne, gj_sj_same, gj_sj_ne_r, gj_sj_ne_k, gj_si, gi_sj, gj_sr, iwc, jwc, Int.toNat_natCast, tdn, tmn, b0, b1, yc0, yc1]
      · simp (disch := omega) only [gi_same, gi_ne_r, gi_ne_k, gi_sr_same, gi_sr_ne, gj_sj_same, gj_sj_ne_r, gj_sj_ne_k, gj_si, gi_sj, gj_sr, iwc, jwc, Int.toNat_natCast, tdn, tmn, b0, b1, yc0, yc1, c5]
      · rw [if_pos (Or.inl h5)]; exact k21
      · rw [if_pos (Or.inl h5)]; conv => rhs; rw [← c7]
        refine rowl_congr fun i _ => ?_
        simp (disch := omega) only [gi_same, gi_ne_r, gi_ne_k, gi_sr_same, gi_sr_ne, gj_sj_same, gj_sj_ne_r, gj_sj_ne_k, gj_si, gi_sj, gj_sr, iwc, jwc, Int.toNat_natCast, tdn, tmn, b0, b1, yc0, yc1]
      · repeat (first | exact EqP.rf _ _ | (refine EqP.si ?_ _ _ _ (by omega)) | (refine EqP.sj ?_ _ _ _ (by omega)) | (refine EqP.sr ?_ _ _ (fun k => by omega)))
    · refine wp_f h5 ?_
      repeat (first | with_reducible refine wp_os ?_ | with_reducible refine wp_ol ?_ | (with_reducible refine wp_oc ?_ ?_; · (first | omega | (simp (disch := omega) only [gi_same, gi_ne_r, gi_ne_k, gi_sr_same, gi_sr_ne, gj_sj_same, gj_sj_ne_r, gj_sj_ne_k, gj_si, gi_sj, gj_sr, iwc, jwc, Int.toNat_natCast, tdn, tmn, b0, b1, yc0, yc1]; try omega))) | (with_reducible refine wp_t ?_ ?_; · (first | omega | (simp (disch := omega) only [gi_same, gi_ne_r, gi_ne_k, gi_sr_same, gi_sr_ne, gj_sj_same, gj_sj_ne_r, gj_sj_ne_k, gj_si, gi_sj, gj_sr, iwc, jwc, Int.toNat_natCast, tdn, tmn, b0, b1, yc0, yc1]; try omega))) | (with_reducible refine wp_f ?_ ?_; · (first | omega | (simp (disch := omega) only [gi_same, gi_ne_r, gi_ne_k, gi_sr_same, gi_sr_ne, gj_sj_same, gj_sj_ne_r, gj_sj_ne_k, gj_si, gi_sj, gj_sr, iwc, jwc, Int.toNat_natCast, tdn, tmn, b0, b1, yc0, yc1]; try omega))))
      rw [k21]
      by_cases h20 : 20 ≤ q.2.2.length
      · refine wp_t (by omega) (wp_some ⟨⟨?_, ?_, ?_, ?_, ?_, ?_, ?_⟩, ?_⟩)
        · simp (disch := omega) only [gi_same, gi_ne_r, gi_ne_k, gi_sr_same, gi_sr_ne, gj_sj_same, gj_sj_ne_r, gj_sj_ne_k, gj_si, gi_sj, gj_sr, iwc, jwc, Int.toNat_natCast, tdn, tmn, b0, b1, yc0, yc1, c1]
        · simp (disch := omega) only [gi_same, gi_ne_r, gi_ne_k, gi_sr_same, gi_sr_ne, gj_sj_same, gj_sj_ne_r, gj_sj_ne_k, gj_si, gi_sj, gj_sr, iwc, jwc, Int.toNat_natCast, tdn, tmn, b0, b1, yc0, yc1, c2]
        · simp (disch := omega) only [gi_same, gi_ne_r, gi_ne_k, gi_sr_same, gi_sr_ne, gj_sj_same, gj_sj_ne_r, gj_sj_ne_k, gj_si, gi_sj, gj_sr, iwc, jwc, Int.toNat_natCast, tdn, tmn, b0, b1, yc0, yc1, c3]
        · simp (disch := omega) only [gi_same, gi_ne_r, gi_ne_k, gi_sr_same, gi_sr_ne, gj_sj_same, gj_sj_ne_r, gj_sj_ne_k, gj_si, gi_sj, gj_sr, iwc, jwc, Int.toNat_natCast, tdn, tmn, b0, b1, yc0, yc1]
        · simp (disch := omega) only [gi_same, gi_ne_r, gi_ne_k, gi_sr_same, gi_sr_ne, gj_sj_same, gj_sj_ne_r, gj_sj_ne_k, gj_si, gi_sj, gj_sr, iwc, jwc, Int.toNat_natCast, tdn, tmn, b0, b1, yc0, yc1, c5]
        · rw [if_pos (Or.inr h20)]; exact k21
        · rw [if_pos (Or.inr h20)]; conv => rhs; rw [← c7]
          refine rowl_congr fun i _ => ?_
          simp (disch := omega) only [gi_same, gi_ne_r, gi_ne_k, gi_sr_same, gi_sr_ne, gj_sj_same, gj_sj_ne_r, gj_sj_ne_k, gj_si, gi_sj, gj_sr, iwc, jwc, Int.toNat_natCast, tdn, tmn, b0, b1, yc0, yc1]
        · repeat (first | exact EqP.rf _ _ | (refine EqP.si ?_ _ _ _ (by omega)) | (refine EqP.sj ?_ _ _ _ (by omega)) | (refine EqP.sr ?_ _ _ (fun k => by omega)))
      · refine wp_f (by omega) ?_
        repeat (first | with_reducible refine wp_os ?_ | with_reducible refine wp_ol ?_ | (with_reducible refine wp_oc ?_ ?_; · (first | omega | (simp (disch := omega) only [gi_same, gi_ne_r, gi_ne_k, gi_sr_same, gi_sr_ne, gj_sj_same, gj_sj_ne_r, gj_sj_ne_k, gj_si, gi_sj, gj_sr, iwc, jwc, Int.toNat_natCast, tdn, tmn, b0, b1, yc0, yc1]; try omega))) | (with_reducible refine wp_t ?_ ?_; · (first | omega | (simp (disch := omega) only [gi_same, gi_ne_r, gi_ne_k, gi_sr_same, gi_sr_ne, gj_sj_same, gj_sj_ne_r, gj_sj_ne_k, gj_si, gi_sj, gj_sr, iwc, jwc, Int.toNat_natCast, tdn, tmn, b0, b1, yc0, yc1]; try omega))) | (with_reducible refine wp_f ?_ ?_; · (first | omega | (simp (disch := omega) only [gi_same, gi_ne_r, gi_ne_k, gi_sr_same, gi_sr_ne, gj_sj_same, gj_sj_ne_r, gj_sj_ne_k, gj_si, gi_sj, gj_sr, iwc, jwc, Int.toNat_natCast, tdn, tmn, b0, b1, yc0, yc1]; try omega))))
        refine wp_eq (x_push u hrn _ _ k21 (by omega)) (wp_some ⟨⟨?_, ?_, ?_, ?_, ?_, ?_, ?_⟩, ?_⟩)
        · simp (disch := omega) only [gi_same, gi_ne_r, gi_ne_k, gi_sr_same, gi_sr_ne, gj_sj_same, gj_sj_ne_r, gj_sj_ne_k, gj_si, gi_sj, gj_sr, iwc, jwc, Int.toNat_natCast, tdn, tmn, b0, b1, yc0, yc1, c1]
        · simp (disch := omega) only [gi_same, gi_ne_r, gi_ne_k, gi_sr_same, gi_sr_ne, gj_sj_same, gj_sj_ne_r, gj_sj_ne_k, gj_si, gi_sj, gj_sr, iwc, jwc, Int.toNat_natCast, tdn, tmn, b0, b1, yc0, yc1, c2]
        · simp (disch := omega) only [gi_same, gi_ne_r, gi_ne_k, gi_sr_same, gi_sr_ne, gj_sj_same, gj_sj_ne_r, gj_sj_ne_k, gj_si, gi_sj, gj_sr, iwc, jwc, Int.toNat_natCast, tdn, tmn, b0, b1, yc0, yc1, c3]
        · simp (disch := omega) only [gi_same, gi_ne_r, gi_ne_k, gi_sr_same, gi_sr_ne, gj_sj_same, gj_sj_ne_r, gj_sj_ne_k, gj_si, gi_sj, gj_sr, iwc, jwc, Int.toNat_natCast, tdn, tmn, b0, b1, yc0, yc1]
        · simp (disch := omega) only [gi_same, gi_ne_r, gi_ne_k, gi_sr_same, gi_sr_ne, gj_sj_same, gj_sj_ne_r, gj_sj_ne_k, gj_si, gi_sj, gj_sr, iwc, jwc, Int.toNat_natCast, tdn, tmn, b0, b1, yc0, yc1, c5]
        · rw [if_neg (by omega), List.length_cons]; simp (disch := omega) only [gi_same, gi_ne_r, gi_ne_k, gi_sr_same, gi_sr_ne, gj_sj_same, gj_sj_ne_r, gj_sj_ne_k, gj_si, gi_sj, gj_sr, iwc, jwc, Int.toNat_natCast, tdn, tmn, b0, b1, yc0, yc1]
          omega
        · rw [if_neg (by omega), List.length_cons, rowl_s]
          simp (disch := omega) only [gi_same, gi_ne_r, gi_ne_k, gi_sr_same, gi_sr_ne, gj_sj_same, gj_sj_ne_r, gj_sj_ne_k, gj_si, gi_sj, gj_sr, iwc, jwc, Int.toNat_natCast, tdn, tmn, b0, b1, yc0, yc1, k96]
          congr 1
          conv => rhs; rw [← c7]
          refine rowl_congr fun i _ => ?_
          simp (disch := omega) only [gi_same, gi_ne_r, gi_ne_k, gi_sr_same, gi_sr_ne, gj_sj_same, gj_sj_ne_r, gj_sj_ne_k, gj_si, gi_sj, gj_sr, iwc, jwc, Int.toNat_natCast, tdn, tmn, b0, b1, yc0, yc1]
        · repeat (first | exact EqP.rf _ _ | (refine EqP.si ?_ _ _ _ (by omega)) | (refine EqP.sj ?_ _ _ _ (by omega)) | (refine EqP.sr ?_ _ _ (fun k => by omega)))
  · refine wp_f h0 (wp_some ?_)
    rw [if_neg h0]
    exact ⟨hT, EqP.rf _ _⟩
theorem x_m186 {ld σ : SS} {bk : Nat} (hok : LdOK ld) (hM : LM ld σ bk) {u a b m : Nat} (hu : u = 118 ∨ u = 119) {q : QQ} (hT : TM σ u a b m q) (hq : QOK q) (x2 x3 : Int) (h2 : x2 < gi ld 2 4) (h3 : x3 < gi ld 2 0) : Wp (j_Mo_say_186 u x2 x3 σ) fun _ τ => TM τ u a b m (midM ld x2 x3 q) ∧ EqP (PMk u) σ τ := by
  have hrn : rN u = 44 := by rcases hu with rfl | rfl <;> rfl
  have hb := hM.1
  have hbk := hM.2.1
  have l4 := hok.2.1
  unfold j_Mo_say_186 midM
  by_cases h0 : x2 < 0
  · refine wp_t h0 ?_
    rw [if_pos h0]
    exact x_m216 hok hM hu hT hq x3 h3
  · refine wp_f h0 ?_
    rw [if_neg h0]
    obtain ⟨y, rfl⟩ : ∃ n : Nat, x2 = n := ⟨x2.toNat, by omega⟩
    obtain ⟨c1, c2, c3, c4, c5, c6, c7⟩ := id hT
    obtain ⟨wy1, wy2, wy3, wy4, wy5⟩ := hok.wy h2
    obtain ⟨_, _, _, m100⟩ := hM.2.2.2.2.1 y h2
    rw [hbk, ix14 bk y ⟨by omega, by omega⟩, hrn, Int.toNat_natCast]
    repeat (first | with_reducible refine wp_os ?_ | with_reducible refine wp_ol ?_ | (with_reducible refine wp_oc ?_ ?_; · (first | omega | (simp (disch := omega) only [gi_same, gi_ne_r, gi_ne_k, gi_sr_same, gi_sr_ne, gj_sj_same, gj_sj_ne_r, gj_sj_ne_k, gj_si, gi_sj, gj_sr, iwc, jwc, Int.toNat_natCast, tdn, tmn, b0, b1, yc0, yc1]; try omega))) | (with_reducible refine wp_t ?_ ?_; · (first | omega | (simp (disch := omega) only [gi_same, gi_ne_r, gi_ne_k, gi_sr_same, gi_sr_ne, gj_sj_same, gj_sj_ne_r, gj_sj_ne_k, gj_si, gi_sj, gj_sr, iwc, jwc, Int.toNat_natCast, tdn, tmn, b0, b1, yc0, yc1]; try omega))) | (with_reducible refine wp_f ?_ ?_; · (first | omega | (simp (disch := omega) only [gi_same, gi_ne_r, gi_ne_k, gi_sr_same, gi_sr_ne, gj_sj_same, gj_sj_ne_r, gj_sj_ne_k, gj_si, gi_sj, gj_sr, iwc, jwc, Int.toNat_natCast, tdn, tmn, b0, b1, yc0, yc1]; try omega))))
    refine wp_eq (x_warm _ _) ?_
    repeat (first | with_reducible refine wp_os ?_ | with_reducible refine wp_ol ?_ | (with_reducible refine wp_oc ?_ ?_; · (first | omega | (simp (disch := omega) only [gi_same, gi_ne_r, gi_ne_k, gi_sr_same, gi_sr_ne, gj_sj_same, gj_sj_ne_r, gj_sj_ne_k, gj_si, gi_sj, gj_sr, iwc, jwc, Int.toNat_natCast, tdn, tmn, b0, b1, yc0, yc1]; try omega))) | (with_reducible refine wp_t ?_ ?_; · (first | omega | (simp (disch := omega) only [gi_same, gi_ne_r, gi_ne_k, gi_sr_same, gi_sr_ne, gj_sj_same, gj_sj_ne_r, gj_sj_ne_k, gj_si, gi_sj, gj_sr, iwc, jwc, Int.toNat_natCast, tdn, tmn, b0, b1, yc0, yc1]; try omega))) | (with_reducible refine wp_f ?_ ?_; · (first | omega | (simp (disch := omega) only [gi_same, gi_ne_r, gi_ne_k, gi_sr_same, gi_sr_ne, gj_sj_same, gj_sj_ne_r, gj_sj_ne_k, gj_si, gi_sj, gj_sr, iwc, jwc, Int.toNat_natCast, tdn, tmn, b0, b1, yc0, yc1]; try omega))))
    rw [Int.toNat_natCast, m100, c4, iwc (by have := hq.1; omega) (by have := hq.1; omega)]
    have hT1 : TM (si σ u 20 (cl 0 (q.1 + gi ld 9 y) 99)) u a b m (sightP ld y q) := by
      refine ⟨?_, ?_, ?_, ?_, ?_, ?_, ?_⟩
      · simp (disch := omega) only [gi_same, gi_ne_r, gi_ne_k, gi_sr_same, gi_sr_ne, gj_sj_same, gj_sj_ne_r, gj_sj_ne_k, gj_si, gi_sj, gj_sr, iwc, jwc, Int.toNat_natCast, tdn, tmn, b0, b1, yc0, yc1, c1]
      · simp (disch := omega) only [gi_same, gi_ne_r, gi_ne_k, gi_sr_same, gi_sr_ne, gj_sj_same, gj_sj_ne_r, gj_sj_ne_k, gj_si, gi_sj, gj_sr, iwc, jwc, Int.toNat_natCast, tdn, tmn, b0, b1, yc0, yc1, c2]
      · simp (disch := omega) only [gi_same, gi_ne_r, gi_ne_k, gi_sr_same, gi_sr_ne, gj_sj_same, gj_sj_ne_r, gj_sj_ne_k, gj_si, gi_sj, gj_sr, iwc, jwc, Int.toNat_natCast, tdn, tmn, b0, b1, yc0, yc1, c3]
      · simp (disch := omega) only [gi_same, gi_ne_r, gi_ne_k, gi_sr_same, gi_sr_ne, gj_sj_same, gj_sj_ne_r, gj_sj_ne_k, gj_si, gi_sj, gj_sr, iwc, jwc, Int.toNat_natCast, tdn, tmn, b0, b1, yc0, yc1, sightP]
      · simp (disch := omega) only [gi_same, gi_ne_r, gi_ne_k, gi_sr_same, gi_sr_ne, gj_sj_same, gj_sj_ne_r, gj_sj_ne_k, gj_si, gi_sj, gj_sr, iwc, jwc, Int.toNat_natCast, tdn, tmn, b0, b1, yc0, yc1, c5, sightP]
      · simp (disch := omega) only [gi_same, gi_ne_r, gi_ne_k, gi_sr_same, gi_sr_ne, gj_sj_same, gj_sj_ne_r, gj_sj_ne_k, gj_si, gi_sj, gj_sr, iwc, jwc, Int.toNat_natCast, tdn, tmn, b0, b1, yc0, yc1, c6, sightP]
      · unfold sightP; dsimp only; conv => rhs; rw [← c7]
        refine rowl_congr fun i _ => ?_
        simp (disch := omega) only [gi_same, gi_ne_r, gi_ne_k, gi_sr_same, gi_sr_ne, gj_sj_same, gj_sj_ne_r, gj_sj_ne_k, gj_si, gi_sj, gj_sr, iwc, jwc, Int.toNat_natCast, tdn, tmn, b0, b1, yc0, yc1]
    have hE1 : EqP (PMk u) σ (si σ u 20 (cl 0 (q.1 + gi ld 9 y) 99)) := by repeat (first | exact EqP.rf _ _ | (refine EqP.si ?_ _ _ _ (by omega)) | (refine EqP.sj ?_ _ _ _ (by omega)) | (refine EqP.sr ?_ _ _ (fun k => by omega)))
    refine wp_mono (x_m216 hok (hM.of hE1 (fun r k z => by omega)) hu hT1 (sightP_ok hq) x3 h3) ?_
    rintro _ τ ⟨k1, k2⟩
    exact ⟨k1, hE1.tr k2⟩
theorem x_m152 {ld σ : SS} {bk : Nat} (hok : LdOK ld) (hM : LM ld σ bk) {u a b m : Nat} (hu : u = 118 ∨ u = 119) {h w : Int} {p : List Int} (c1 : gi σ u 13 = a) (c2 : gi σ u 14 = b) (c3 : gi σ u 15 = m) (c5 : gi σ u 19 = w) (c6 : gi σ u 21 = (p.length : Int)) (c7 : rowl (fun i => gi σ u (22 + i)) p.length = p) (hp : p.length < 20) (hw : rI w) (x2 x3 x5 z0 : Int) (h2 : x2 < gi ld 2 4) (h3 : x3 < gi ld 2 0) : Wp (j_Mo_say_152 u x2 x3 x5 z0 σ) fun _ τ => TM τ u a b m (midM ld x2 x3 (cl 0 x5 99, w, if z0 ≤ 0 then p else zmin z0 9 :: p)) ∧ EqP (PMk u) σ τ := by
  have hrn : rN u = 44 := by rcases hu with rfl | rfl <;> rfl
  unfold j_Mo_say_152
  refine wp_eq (x_warm _ _) ?_
  rw [hrn]
  repeat (first | with_reducible refine wp_os ?_ | with_reducible refine wp_ol ?_ | (with_reducible refine wp_oc ?_ ?_; · (first | omega | (simp (disch := omega) only [gi_same, gi_ne_r, gi_ne_k, gi_sr_same, gi_sr_ne, gj_sj_same, gj_sj_ne_r, gj_sj_ne_k, gj_si, gi_sj, gj_sr, iwc, jwc, Int.toNat_natCast, tdn, tmn, b0, b1, yc0, yc1]; try omega))) | (with_reducible refine wp_t ?_ ?_; · (first | omega | (simp (disch := omega) only [gi_same, gi_ne_r, gi_ne_k, gi_sr_same, gi_sr_ne, gj_sj_same, gj_sj_ne_r, gj_sj_ne_k, gj_si, gi_sj, gj_sr, iwc, jwc, Int.toNat_natCast, tdn, tmn, b0, b1, yc0, yc1]; try omega))) | (with_reducible refine wp_f ?_ ?_; · (first | omega | (simp (disch := omega) only [gi_same, gi_ne_r, gi_ne_k, gi_sr_same, gi_sr_ne, gj_sj_same, gj_sj_ne_r, gj_sj_ne_k, gj_si, gi_sj, gj_sr, iwc, jwc, Int.toNat_natCast, tdn, tmn, b0, b1, yc0, yc1]; try omega))))
  have hcl := cl_99 x5
  by_cases hz : z0 ≤ 0
  · refine wp_t hz ?_
    rw [if_pos hz]
    have hT1 : TM (si σ u 20 (cl 0 x5 99)) u a b m (cl 0 x5 99, w, p) := by
      refine ⟨?_, ?_, ?_, ?_, ?_, ?_, ?_⟩
      · simp (disch := omega) only [gi_same, gi_ne_r, gi_ne_k, gi_sr_same, gi_sr_ne, gj_sj_same, gj_sj_ne_r, gj_sj_ne_k, gj_si, gi_sj, gj_sr, iwc, jwc, Int.toNat_natCast, tdn, tmn, b0, b1, yc0, yc1, c1]
      · simp (disch := omega) only [gi_same, gi_ne_r, gi_ne_k, gi_sr_same, gi_sr_ne, gj_sj_same, gj_sj_ne_r, gj_sj_ne_k, gj_si, gi_sj, gj_sr, iwc, jwc, Int.toNat_natCast, tdn, tmn, b0, b1, yc0, yc1, c2]
      · simp (disch := omega) only [gi_same, gi_ne_r, gi_ne_k, gi_sr_same, gi_sr_ne, gj_sj_same, gj_sj_ne_r, gj_sj_ne_k, gj_si, gi_sj, gj_sr, iwc, jwc, Int.toNat_natCast, tdn, tmn, b0, b1, yc0, yc1, c3]
      · simp (disch := omega) only [gi_same, gi_ne_r, gi_ne_k, gi_sr_same, gi_sr_ne, gj_sj_same, gj_sj_ne_r, gj_sj_ne_k, gj_si, gi_sj, gj_sr, iwc, jwc, Int.toNat_natCast, tdn, tmn, b0, b1, yc0, yc1]
      · simp (disch := omega) only [gi_same, gi_ne_r, gi_ne_k, gi_sr_same, gi_sr_ne, gj_sj_same, gj_sj_ne_r, gj_sj_ne_k, gj_si, gi_sj, gj_sr, iwc, jwc, Int.toNat_natCast, tdn, tmn, b0, b1, yc0, yc1, c5]
      · simp (disch := omega) only [gi_same, gi_ne_r, gi_ne_k, gi_sr_same, gi_sr_ne, gj_sj_same, gj_sj_ne_r, gj_sj_ne_k, gj_si, gi_sj, gj_sr, iwc, jwc, Int.toNat_natCast, tdn, tmn, b0, b1, yc0, yc1, c6]
      · dsimp only; conv => rhs; rw [← c7]
        refine rowl_congr fun i _ => ?_
        simp (disch := omega) only [gi_same, gi_ne_r, gi_ne_k, gi_sr_same, gi_sr_ne, gj_sj_same, gj_sj_ne_r, gj_sj_ne_k, gj_si, gi_sj, gj_sr, iwc, jwc, Int.toNat_natCast, tdn, tmn, b0, b1, yc0, yc1]
    have hE1 : EqP (PMk u) σ (si σ u 20 (cl 0 x5 99)) := by repeat (first | exact EqP.rf _ _ | (refine EqP.si ?_ _ _ _ (by omega)) | (refine EqP.sj ?_ _ _ _ (by omega)) | (refine EqP.sr ?_ _ _ (fun k => by omega)))
    refine wp_mono (x_m186 hok (hM.of hE1 (fun r k z => by omega)) hu hT1 ⟨hcl, by dsimp only; omega, hw⟩ x2 x3 h2 h3) ?_
    rintro _ τ ⟨k1, k2⟩
    exact ⟨k1, hE1.tr k2⟩
  · refine wp_f hz ?_
    rw [if_neg hz]
    have k21 : gi (si σ u 20 (cl 0 x5 99)) u 21 = (p.length : Int) := by simp (disch := omega) only [gi_same, gi_ne_r, gi_ne_k, gi_sr_same, gi_sr_ne, gj_sj_same, gj_sj_ne_r, gj_sj_ne_k, gj_si, gi_sj, gj_sr, iwc, jwc, Int.toNat_natCast, tdn, tmn, b0, b1, yc0, yc1, c6]
    have main : ∀ v, v = zmin z0 9 → Wp (j_Mo_say_183 u x2 x3 v (si σ u 20 (cl 0 x5 99))) fun _ τ => TM τ u a b m (midM ld x2 x3 (cl 0 x5 99, w, zmin z0 9 :: p)) ∧ EqP (PMk u) σ τ := by
      intro v hv
      unfold j_Mo_say_183
      refine wp_eq (x_push u hrn _ _ k21 (by omega)) ?_
      rw [hv]
      have hT1 : TM (si (si (si σ u 20 (cl 0 x5 99)) u (22 + p.length) (zmin z0 9)) u 21 ((p.length : Int) + 1)) u a b m (cl 0 x5 99, w, zmin z0 9 :: p) := by
        refine ⟨?_, ?_, ?_, ?_, ?_, ?_, ?_⟩
        · simp (disch := omega) only [gi_same, gi_ne_r, gi_ne_k, gi_sr_same, gi_sr_ne, gj_sj_same, gj_sj_ne_r, gj_sj_ne_k, gj_si, gi_sj, gj_sr, iwc, jwc, Int.toNat_natCast, tdn, tmn, b0, b1, yc0, yc1, c1]
        · simp (disch := omega) only [gi_same, gi_ne_r, gi_ne_k, gi_sr_same, gi_sr_ne, gj_sj_same, gj_sj_ne_r, gj_sj_ne_k, gj_si, gi_sj, gj_sr, iwc, jwc, Int.toNat_natCast, tdn, tmn, b0, b1, yc0, yc1, c2]
        · simp (disch := omega) only [gi_same, gi_ne_r, gi_ne_k, gi_sr_same, gi_sr_ne, gj_sj_same, gj_sj_ne_r, gj_sj_ne_k, gj_si, gi_sj, gj_sr, iwc, jwc, Int.toNat_natCast, tdn, tmn, b0, b1, yc0, yc1, c3]
        · simp (disch := omega) only [gi_same, gi_ne_r, gi_ne_k, gi_sr_same, gi_sr_ne, gj_sj_same, gj_sj_ne_r, gj_sj_ne_k, gj_si, gi_sj, gj_sr, iwc, jwc, Int.toNat_natCast, tdn, tmn, b0, b1, yc0, yc1]
        · simp (disch := omega) only [gi_same, gi_ne_r, gi_ne_k, gi_sr_same, gi_sr_ne, gj_sj_same, gj_sj_ne_r, gj_sj_ne_k, gj_si, gi_sj, gj_sr, iwc, jwc, Int.toNat_natCast, tdn, tmn, b0, b1, yc0, yc1, c5]
        · rw [List.length_cons]; simp (disch := omega) only [gi_same, gi_ne_r, gi_ne_k, gi_sr_same, gi_sr_ne, gj_sj_same, gj_sj_ne_r, gj_sj_ne_k, gj_si, gi_sj, gj_sr, iwc, jwc, Int.toNat_natCast, tdn, tmn, b0, b1, yc0, yc1]
          omega
        · dsimp only; rw [List.length_cons, rowl_s]
          simp (disch := omega) only [gi_same, gi_ne_r, gi_ne_k, gi_sr_same, gi_sr_ne, gj_sj_same, gj_sj_ne_r, gj_sj_ne_k, gj_si, gi_sj, gj_sr, iwc, jwc, Int.toNat_natCast, tdn, tmn, b0, b1, yc0, yc1]
          congr 1
          conv => rhs; rw [← c7]
          refine rowl_congr fun i _ => ?_
          simp (disch := omega) only [gi_same, gi_ne_r, gi_ne_k, gi_sr_same, gi_sr_ne, gj_sj_same, gj_sj_ne_r, gj_sj_ne_k, gj_si, gi_sj, gj_sr, iwc, jwc, Int.toNat_natCast, tdn, tmn, b0, b1, yc0, yc1]
      have hE1 : EqP (PMk u) σ (si (si (si σ u 20 (cl 0 x5 99)) u (22 + p.length) (zmin z0 9)) u 21 ((p.length : Int) + 1)) := by repeat (first | exact EqP.rf _ _ | (refine EqP.si ?_ _ _ _ (by omega)) | (refine EqP.sj ?_ _ _ _ (by omega)) | (refine EqP.sr ?_ _ _ (fun k => by omega)))
      refine wp_mono (x_m186 hok (hM.of hE1 (fun r k z => by omega)) hu hT1 ⟨hcl, by dsimp only [List.length_cons]; omega, hw⟩ x2 x3 h2 h3) ?_
      rintro _ τ ⟨k1, k2⟩
      exact ⟨k1, hE1.tr k2⟩
    by_cases h9 : z0 ≤ 9
    · exact wp_t h9 (main z0 (by unfold zmin; rw [if_neg (by omega)]))
    · exact wp_f h9 (main 9 (by unfold zmin; rw [if_pos (by omega)]))
/-- what is asked for lies in the reference's row -/
theorem x_rule {ld σ : SS} {bk : Nat} (hok : LdOK ld) (hM : LM ld σ bk) (r k : Nat) (hrk : r = 16 ∧ k = 0 ∨ r = 19 ∧ k = 1) (kn : Nat → Int) (hkn : ∀ j, j < 6 → gi σ 86 (46 + j) = kn j) (hn : gi ld r 2 ≠ 0) : Wp (f_Mo_comes k σ) fun v τ => (∀ un, v = fmF ld r un kn) ∧ ∃ g, τ = sr σ 117 g := by
  have hR : RM ld σ r k bk := by
    rcases hrk with ⟨rfl, rfl⟩ | ⟨rfl, rfl⟩
    · exact hM.2.2.2.2.2.2.2.1
    · exact hM.2.2.2.2.2.2.2.2
  have hF : FOK ld r := by
    rcases hrk with ⟨rfl, rfl⟩ | ⟨rfl, rfl⟩
    · exact hok.fok.1
    · exact hok.fok.2
  refine wp_mono (x_comes r k bk hM.1 (by omega) hF hR hn hM.2.1 kn hkn) ?_
  rintro v τ ⟨e, g⟩
  exact ⟨fun un => by unfold fmF; rw [if_neg hn]; exact e, g⟩
theorem x_m125 {ld σ : SS} {bk : Nat} (hok : LdOK ld) (hM : LM ld σ bk) {u a b m : Nat} (hu : u = 118 ∨ u = 119) {w : Int} {p : List Int} (c1 : gi σ u 13 = a) (c2 : gi σ u 14 = b) (c3 : gi σ u 15 = m) (c5 : gi σ u 19 = w) (c6 : gi σ u 21 = (p.length : Int)) (c7 : rowl (fun i => gi σ u (22 + i)) p.length = p) (hp : p.length < 20) (hw : rI w) (kn : Nat → Int) (hkn : ∀ j, j < 6 → gi σ 86 (46 + j) = kn j) (x2 x3 x5 : Int) (h2 : x2 < gi ld 2 4) (h3 : x3 < gi ld 2 0) : Wp (j_Mo_say_125 u x2 x3 x5 σ) fun _ τ => TM τ u a b m (midM ld x2 x3 (cl 0 x5 99, w, if fmF ld 19 0 kn ≤ 0 then p else zmin (fmF ld 19 0 kn) 9 :: p)) ∧ EqP (PMk u) σ τ := by
  have hb := hM.1
  have hbk := hM.2.1
  have hR := hM.2.2.2.2.2.2.2.2.1
  unfold j_Mo_say_125
  rw [hbk, show iw (iw (2 * (bk : Int)) + 1) = ((2 * bk + 1 : Nat) : Int) from ix2 bk 1 ⟨by omega, by omega⟩]
  repeat (first | with_reducible refine wp_os ?_ | with_reducible refine wp_ol ?_ | (with_reducible refine wp_oc ?_ ?_; · (first | omega | (simp (disch := omega) only [gi_same, gi_ne_r, gi_ne_k, gi_sr_same, gi_sr_ne, gj_sj_same, gj_sj_ne_r, gj_sj_ne_k, gj_si, gi_sj, gj_sr, iwc, jwc, Int.toNat_natCast, tdn, tmn, b0, b1, yc0, yc1]; try omega))) | (with_reducible refine wp_t ?_ ?_; · (first | omega | (simp (disch := omega) only [gi_same, gi_ne_r, gi_ne_k, gi_sr_same, gi_sr_ne, gj_sj_same, gj_sj_ne_r, gj_sj_ne_k, gj_si, gi_sj, gj_sr, iwc, jwc, Int.toNat_natCast, tdn, tmn, b0, b1, yc0, yc1]; try omega))) | (with_reducible refine wp_f ?_ ?_; · (first | omega | (simp (disch := omega) only [gi_same, gi_ne_r, gi_ne_k, gi_sr_same, gi_sr_ne, gj_sj_same, gj_sj_ne_r, gj_sj_ne_k, gj_si, gi_sj, gj_sr, iwc, jwc, Int.toNat_natCast, tdn, tmn, b0, b1, yc0, yc1]; try omega))))
  rw [Int.toNat_natCast, hR]
  by_cases hn : gi ld 19 2 = 0
  · rw [if_pos hn]
    refine wp_t rfl ?_
    have e : fmF ld 19 0 kn = 0 := by unfold fmF; rw [if_pos hn]
    rw [e]
    exact x_m152 (h := 0) hok hM hu c1 c2 c3 c5 c6 c7 hp hw x2 x3 x5 0 h2 h3
  · rw [if_neg hn]
    refine wp_f (by decide) ?_
    refine wp_call (x_rule hok hM 19 1 (Or.inr ⟨rfl, rfl⟩) kn hkn hn) ?_
    rintro r4 _ ⟨e4, g, rfl⟩
    rw [← e4 0]
    have hE1 : EqP (PMk u) σ (sr σ 117 g) := by repeat (first | exact EqP.rf _ _ | (refine EqP.si ?_ _ _ _ (by omega)) | (refine EqP.sj ?_ _ _ _ (by omega)) | (refine EqP.sr ?_ _ _ (fun k => by omega)))
    refine wp_mono (x_m152 (h := 0) (a := a) (b := b) (m := m) (w := w) (p := p) hok (hM.of hE1 (fun r k z => by omega)) hu ?_ ?_ ?_ ?_ ?_ ?_ hp hw x2 x3 x5 r4 h2 h3) ?_
    · simp (disch := omega) only [gi_same, gi_ne_r, gi_ne_k, gi_sr_same, gi_sr_ne, gj_sj_same, gj_sj_ne_r, gj_sj_ne_k, gj_si, gi_sj, gj_sr, iwc, jwc, Int.toNat_natCast, tdn, tmn, b0, b1, yc0, yc1, c1]
    · simp (disch := omega) only [gi_same, gi_ne_r, gi_ne_k, gi_sr_same, gi_sr_ne, gj_sj_same, gj_sj_ne_r, gj_sj_ne_k, gj_si, gi_sj, gj_sr, iwc, jwc, Int.toNat_natCast, tdn, tmn, b0, b1, yc0, yc1, c2]
    · simp (disch := omega) only [gi_same, gi_ne_r, gi_ne_k, gi_sr_same, gi_sr_ne, gj_sj_same, gj_sj_ne_r, gj_sj_ne_k, gj_si, gi_sj, gj_sr, iwc, jwc, Int.toNat_natCast, tdn, tmn, b0, b1, yc0, yc1, c3]
    · simp (disch := omega) only [gi_same, gi_ne_r, gi_ne_k, gi_sr_same, gi_sr_ne, gj_sj_same, gj_sj_ne_r, gj_sj_ne_k, gj_si, gi_sj, gj_sr, iwc, jwc, Int.toNat_natCast, tdn, tmn, b0, b1, yc0, yc1, c5]
    · simp (disch := omega) only [gi_same, gi_ne_r, gi_ne_k, gi_sr_same, gi_sr_ne, gj_sj_same, gj_sj_ne_r, gj_sj_ne_k, gj_si, gi_sj, gj_sr, iwc, jwc, Int.toNat_natCast, tdn, tmn, b0, b1, yc0, yc1, c6]
    · conv => rhs; rw [← c7]
      refine rowl_congr fun i _ => ?_
      simp (disch := omega) only [gi_same, gi_ne_r, gi_ne_k, gi_sr_same, gi_sr_ne, gj_sj_same, gj_sj_ne_r, gj_sj_ne_k, gj_si, gi_sj, gj_sr, iwc, jwc, Int.toNat_natCast, tdn, tmn, b0, b1, yc0, yc1]
    · rintro _ τ ⟨k1, k2⟩
      exact ⟨k1, hE1.tr k2⟩
theorem x_m20 {ld σ : SS} {bk : Nat} {tp : Nat → Int} (hok : LdOK ld) (hM : LM ld σ bk) (hTp : TPM ld σ bk tp) {u a b m : Nat} (hu : u = 118 ∨ u = 119) {h w g : Int} {p : List Int} (hT : TM σ u a b m (h, w, g :: p)) (hh : 0 ≤ h ∧ h ≤ 99) (hp : p.length < 20) (s : Nat) (hs : s < 6) (hs2 : (s : Int) < gi ld 2 9) (hsp : s = if Int.tmod w 2 = 0 then a else b) (x2 x3 : Int) (h2 : x2 < gi ld 2 4) (h3 : x3 < gi ld 2 0) : Wp (j_Mo_say_20 u x2 x3 s σ) fun _ τ => TM τ u a b m (midM ld x2 x3 (sayP ld tp a b (h, w, g :: p))) ∧ EqP (PMk u) σ τ := by
  have hrn : rN u = 44 := by rcases hu with rfl | rfl <;> rfl
  have hb := hM.1
  have hbk := hM.2.1
  have hR := hM.2.2.2.2.2.2.2.1.1
  obtain ⟨c1, c2, c3, c4, c5, c6, c7⟩ := hT
  simp only [List.length_cons] at c6
  rw [List.length_cons, rowl_s] at c7
  injection c7 with c7 c8
  dsimp only at c4 c5
  unfold j_Mo_say_20
  rw [hrn]
  -- the row first
  repeat (first | with_reducible refine wp_os ?_ | with_reducible refine wp_ol ?_ | (with_reducible refine wp_oc ?_ ?_; · (first | omega | (simp (disch := omega) only [gi_same, gi_ne_r, gi_ne_k, gi_sr_same, gi_sr_ne, gj_sj_same, gj_sj_ne_r, gj_sj_ne_k, gj_si, gi_sj, gj_sr, iwc, jwc, Int.toNat_natCast, tdn, tmn, b0, b1, yc0, yc1]; try omega))) | (with_reducible refine wp_t ?_ ?_; · (first | omega | (simp (disch := omega) only [gi_same, gi_ne_r, gi_ne_k, gi_sr_same, gi_sr_ne, gj_sj_same, gj_sj_ne_r, gj_sj_ne_k, gj_si, gi_sj, gj_sr, iwc, jwc, Int.toNat_natCast, tdn, tmn, b0, b1, yc0, yc1]; try omega))) | (with_reducible refine wp_f ?_ ?_; · (first | omega | (simp (disch := omega) only [gi_same, gi_ne_r, gi_ne_k, gi_sr_same, gi_sr_ne, gj_sj_same, gj_sj_ne_r, gj_sj_ne_k, gj_si, gi_sj, gj_sr, iwc, jwc, Int.toNat_natCast, tdn, tmn, b0, b1, yc0, yc1]; try omega))))
  have n6 : gi (si (si σ u 19 (iw (gi σ u 19 + 1))) u 21 (iw (gi (si σ u 19 (iw (gi σ u 19 + 1))) u 21 - 1))) u 21 = (p.length : Int) := by
    simp (disch := omega) only [gi_same, gi_ne_r, gi_ne_k, gi_sr_same, gi_sr_ne, gj_sj_same, gj_sj_ne_r, gj_sj_ne_k, gj_si, gi_sj, gj_sr, iwc, jwc, Int.toNat_natCast, tdn, tmn, b0, b1, yc0, yc1, c6]
    omega
  have n6v : iw (gi (si σ u 19 (iw (gi σ u 19 + 1))) u 21 - 1) = (p.length : Int) := by
    simp (disch := omega) only [gi_same, gi_ne_r, gi_ne_k, gi_sr_same, gi_sr_ne, gj_sj_same, gj_sj_ne_r, gj_sj_ne_k, gj_si, gi_sj, gj_sr, iwc, jwc, Int.toNat_natCast, tdn, tmn, b0, b1, yc0, yc1, c6]
    omega
  rw [n6v, c5]
  have hE0 : EqP (PMk u) σ (si (si σ u 19 (iw (w + 1))) u 21 (p.length : Int)) := by repeat (first | exact EqP.rf _ _ | (refine EqP.si ?_ _ _ _ (by omega)) | (refine EqP.sj ?_ _ _ _ (by omega)) | (refine EqP.sr ?_ _ _ (fun k => by omega)))
  have d4 : gi (si (si σ u 19 (iw (w + 1))) u 21 (p.length : Int)) u 20 = h := by simp (disch := omega) only [gi_same, gi_ne_r, gi_ne_k, gi_sr_same, gi_sr_ne, gj_sj_same, gj_sj_ne_r, gj_sj_ne_k, gj_si, gi_sj, gj_sr, iwc, jwc, Int.toNat_natCast, tdn, tmn, b0, b1, yc0, yc1, c4]
  have d5 : gi (si (si σ u 19 (iw (w + 1))) u 21 (p.length : Int)) u 19 = iw (w + 1) := by simp (disch := omega) only [gi_same, gi_ne_r, gi_ne_k, gi_sr_same, gi_sr_ne, gj_sj_same, gj_sj_ne_r, gj_sj_ne_k, gj_si, gi_sj, gj_sr, iwc, jwc, Int.toNat_natCast, tdn, tmn, b0, b1, yc0, yc1]
  have d6 : gi (si (si σ u 19 (iw (w + 1))) u 21 (p.length : Int)) u 21 = (p.length : Int) := by simp (disch := omega) only [gi_same, gi_ne_r, gi_ne_k, gi_sr_same, gi_sr_ne, gj_sj_same, gj_sj_ne_r, gj_sj_ne_k, gj_si, gi_sj, gj_sr, iwc, jwc, Int.toNat_natCast, tdn, tmn, b0, b1, yc0, yc1]
  have d7 : gi (si (si σ u 19 (iw (w + 1))) u 21 (p.length : Int)) u (22 + p.length) = g := by simp (disch := omega) only [gi_same, gi_ne_r, gi_ne_k, gi_sr_same, gi_sr_ne, gj_sj_same, gj_sj_ne_r, gj_sj_ne_k, gj_si, gi_sj, gj_sr, iwc, jwc, Int.toNat_natCast, tdn, tmn, b0, b1, yc0, yc1, c7]
  have d8 : rowl (fun i => gi (si (si σ u 19 (iw (w + 1))) u 21 (p.length : Int)) u (22 + i)) p.length = p := by
    conv => rhs; rw [← c8]
    refine rowl_congr fun i _ => ?_
    simp (disch := omega) only [gi_same, gi_ne_r, gi_ne_k, gi_sr_same, gi_sr_ne, gj_sj_same, gj_sj_ne_r, gj_sj_ne_k, gj_si, gi_sj, gj_sr, iwc, jwc, Int.toNat_natCast, tdn, tmn, b0, b1, yc0, yc1]
  have d1 : gi (si (si σ u 19 (iw (w + 1))) u 21 (p.length : Int)) u 13 = a := by simp (disch := omega) only [gi_same, gi_ne_r, gi_ne_k, gi_sr_same, gi_sr_ne, gj_sj_same, gj_sj_ne_r, gj_sj_ne_k, gj_si, gi_sj, gj_sr, iwc, jwc, Int.toNat_natCast, tdn, tmn, b0, b1, yc0, yc1, c1]
  have d2 : gi (si (si σ u 19 (iw (w + 1))) u 21 (p.length : Int)) u 14 = b := by simp (disch := omega) only [gi_same, gi_ne_r, gi_ne_k, gi_sr_same, gi_sr_ne, gj_sj_same, gj_sj_ne_r, gj_sj_ne_k, gj_si, gi_sj, gj_sr, iwc, jwc, Int.toNat_natCast, tdn, tmn, b0, b1, yc0, yc1, c2]
  have d3 : gi (si (si σ u 19 (iw (w + 1))) u 21 (p.length : Int)) u 15 = m := by simp (disch := omega) only [gi_same, gi_ne_r, gi_ne_k, gi_sr_same, gi_sr_ne, gj_sj_same, gj_sj_ne_r, gj_sj_ne_k, gj_si, gi_sj, gj_sr, iwc, jwc, Int.toNat_natCast, tdn, tmn, b0, b1, yc0, yc1, c3]
  have hM0 := hM.of hE0 (fun r k z => by omega)
  have hT0 := hTp.of hE0 (fun r k z => by omega)
  generalize si (si σ u 19 (iw (w + 1))) u 21 (p.length : Int) = s6 at hE0 d1 d2 d3 d4 d5 d6 d7 d8 hM0 hT0 ⊢
  clear n6 n6v
  repeat (first | with_reducible refine wp_os ?_ | with_reducible refine wp_ol ?_ | (with_reducible refine wp_oc ?_ ?_; · (first | omega | (simp (disch := omega) only [gi_same, gi_ne_r, gi_ne_k, gi_sr_same, gi_sr_ne, gj_sj_same, gj_sj_ne_r, gj_sj_ne_k, gj_si, gi_sj, gj_sr, iwc, jwc, Int.toNat_natCast, tdn, tmn, b0, b1, yc0, yc1, d6]; try omega))) | (with_reducible refine wp_t ?_ ?_; · (first | omega | (simp (disch := omega) only [gi_same, gi_ne_r, gi_ne_k, gi_sr_same, gi_sr_ne, gj_sj_same, gj_sj_ne_r, gj_sj_ne_k, gj_si, gi_sj, gj_sr, iwc, jwc, Int.toNat_natCast, tdn, tmn, b0, b1, yc0, yc1, d6]; try omega))) | (with_reducible refine wp_f ?_ ?_; · (first | omega | (simp (disch := omega) only [gi_same, gi_ne_r, gi_ne_k, gi_sr_same, gi_sr_ne, gj_sj_same, gj_sj_ne_r, gj_sj_ne_k, gj_si, gi_sj, gj_sr, iwc, jwc, Int.toNat_natCast, tdn, tmn, b0, b1, yc0, yc1, d6]; try omega))))
  have hE1 : EqP (PMk u) s6 (si (si s6 86 46 (gi s6 u 20)) 86 47 (gi (si s6 86 46 (gi s6 u 20)) u ((iw (22 + (gi (si s6 86 46 (gi s6 u 20)) u 21))).toNat))) := by repeat (first | exact EqP.rf _ _ | (refine EqP.si ?_ _ _ _ (by omega)) | (refine EqP.sj ?_ _ _ _ (by omega)) | (refine EqP.sr ?_ _ _ (fun k => by omega)))
  refine wp_eq (x_temperOf hb (hM0.of hE1 (fun r k z => by omega)).2.1 (hT0.of hE1 (fun r k z => by omega)) s 0 hs2 hs (by omega)) ?_
  repeat (first | with_reducible refine wp_os ?_ | with_reducible refine wp_ol ?_ | (with_reducible refine wp_oc ?_ ?_; · (first | omega | (simp (disch := omega) only [gi_same, gi_ne_r, gi_ne_k, gi_sr_same, gi_sr_ne, gj_sj_same, gj_sj_ne_r, gj_sj_ne_k, gj_si, gi_sj, gj_sr, iwc, jwc, Int.toNat_natCast, tdn, tmn, b0, b1, yc0, yc1]; try omega))) | (with_reducible refine wp_t ?_ ?_; · (first | omega | (simp (disch := omega) only [gi_same, gi_ne_r, gi_ne_k, gi_sr_same, gi_sr_ne, gj_sj_same, gj_sj_ne_r, gj_sj_ne_k, gj_si, gi_sj, gj_sr, iwc, jwc, Int.toNat_natCast, tdn, tmn, b0, b1, yc0, yc1]; try omega))) | (with_reducible refine wp_f ?_ ?_; · (first | omega | (simp (disch := omega) only [gi_same, gi_ne_r, gi_ne_k, gi_sr_same, gi_sr_ne, gj_sj_same, gj_sj_ne_r, gj_sj_ne_k, gj_si, gi_sj, gj_sr, iwc, jwc, Int.toNat_natCast, tdn, tmn, b0, b1, yc0, yc1]; try omega))))
  have hE2 : EqP (PMk u) s6 (si (si (si s6 86 46 (gi s6 u 20)) 86 47 (gi (si s6 86 46 (gi s6 u 20)) u ((iw (22 + (gi (si s6 86 46 (gi s6 u 20)) u 21))).toNat))) 86 48 (tp (2 * s + 0))) := by repeat (first | exact EqP.rf _ _ | (refine EqP.si ?_ _ _ _ (by omega)) | (refine EqP.sj ?_ _ _ _ (by omega)) | (refine EqP.sr ?_ _ _ (fun k => by omega)))
  refine wp_eq (x_temperOf hb (hM0.of hE2 (fun r k z => by omega)).2.1 (hT0.of hE2 (fun r k z => by omega)) s 1 hs2 hs (by omega)) ?_
  repeat (first | with_reducible refine wp_os ?_ | with_reducible refine wp_ol ?_ | (with_reducible refine wp_oc ?_ ?_; · (first | omega | (simp (disch := omega) only [gi_same, gi_ne_r, gi_ne_k, gi_sr_same, gi_sr_ne, gj_sj_same, gj_sj_ne_r, gj_sj_ne_k, gj_si, gi_sj, gj_sr, iwc, jwc, Int.toNat_natCast, tdn, tmn, b0, b1, yc0, yc1]; try omega))) | (with_reducible refine wp_t ?_ ?_; · (first | omega | (simp (disch := omega) only [gi_same, gi_ne_r, gi_ne_k, gi_sr_same, gi_sr_ne, gj_sj_same, gj_sj_ne_r, gj_sj_ne_k, gj_si, gi_sj, gj_sr, iwc, jwc, Int.toNat_natCast, tdn, tmn, b0, b1, yc0, yc1]; try omega))) | (with_reducible refine wp_f ?_ ?_; · (first | omega | (simp (disch := omega) only [gi_same, gi_ne_r, gi_ne_k, gi_sr_same, gi_sr_ne, gj_sj_same, gj_sj_ne_r, gj_sj_ne_k, gj_si, gi_sj, gj_sr, iwc, jwc, Int.toNat_natCast, tdn, tmn, b0, b1, yc0, yc1]; try omega))))
  generalize hs19 : (si (si (si (si (si (si s6 86 46 (gi s6 u 20)) 86 47 (gi (si s6 86 46 (gi s6 u 20)) u ((iw (22 + (gi (si s6 86 46 (gi s6 u 20)) u 21))).toNat))) 86 48 (tp (2 * s + 0))) 86 49 (tp (2 * s + 1))) 86 50 (gi (si (si (si (si s6 86 46 (gi s6 u 20)) 86 47 (gi (si s6 86 46 (gi s6 u 20)) u ((iw (22 + (gi (si s6 86 46 (gi s6 u 20)) u 21))).toNat))) 86 48 (tp (2 * s + 0))) 86 49 (tp (2 * s + 1))) u 19)) 86 51 (gi (si (si (si (si (si s6 86 46 (gi s6 u 20)) 86 47 (gi (si s6 86 46 (gi s6 u 20)) u ((iw (22 + (gi (si s6 86 46 (gi s6 u 20)) u 21))).toNat))) 86 48 (tp (2 * s + 0))) 86 49 (tp (2 * s + 1))) 86 50 (gi (si (si (si (si s6 86 46 (gi s6 u 20)) 86 47 (gi (si s6 86 46 (gi s6 u 20)) u ((iw (22 + (gi (si s6 86 46 (gi s6 u 20)) u 21))).toNat))) 86 48 (tp (2 * s + 0))) 86 49 (tp (2 * s + 1))) u 19)) u 21)) = s19
  have hE3 : EqP (PMk u) s6 s19 := by rw [← hs19]; repeat (first | exact EqP.rf _ _ | (refine EqP.si ?_ _ _ _ (by omega)) | (refine EqP.sj ?_ _ _ _ (by omega)) | (refine EqP.sr ?_ _ _ (fun k => by omega)))
  have hkn : ∀ j, j < 6 → gi s19 86 (46 + j) = knS tp a b h w g p j := by
    unfold knS
    rw [← hsp, ← hs19]
    refine knF_row (f := fun j => gi _ 86 (46 + j)) ?_ ?_ ?_ ?_ ?_ ?_
    · simp (disch := omega) only [gi_same, gi_ne_r, gi_ne_k, gi_sr_same, gi_sr_ne, gj_sj_same, gj_sj_ne_r, gj_sj_ne_k, gj_si, gi_sj, gj_sr, iwc, jwc, Int.toNat_natCast, tdn, tmn, b0, b1, yc0, yc1, d4]
    · simp (disch := omega) only [gi_same, gi_ne_r, gi_ne_k, gi_sr_same, gi_sr_ne, gj_sj_same, gj_sj_ne_r, gj_sj_ne_k, gj_si, gi_sj, gj_sr, iwc, jwc, Int.toNat_natCast, tdn, tmn, b0, b1, yc0, yc1, d6]
      rw [tn (22 + p.length) (by omega)]; exact d7
    · simp (disch := omega) only [gi_same, gi_ne_r, gi_ne_k, gi_sr_same, gi_sr_ne, gj_sj_same, gj_sj_ne_r, gj_sj_ne_k, gj_si, gi_sj, gj_sr, iwc, jwc, Int.toNat_natCast, tdn, tmn, b0, b1, yc0, yc1, Nat.add_zero]
    · simp (disch := omega) only [gi_same, gi_ne_r, gi_ne_k, gi_sr_same, gi_sr_ne, gj_sj_same, gj_sj_ne_r, gj_sj_ne_k, gj_si, gi_sj, gj_sr, iwc, jwc, Int.toNat_natCast, tdn, tmn, b0, b1, yc0, yc1]
    · simp (disch := omega) only [gi_same, gi_ne_r, gi_ne_k, gi_sr_same, gi_sr_ne, gj_sj_same, gj_sj_ne_r, gj_sj_ne_k, gj_si, gi_sj, gj_sr, iwc, jwc, Int.toNat_natCast, tdn, tmn, b0, b1, yc0, yc1, d5]
    · simp (disch := omega) only [gi_same, gi_ne_r, gi_ne_k, gi_sr_same, gi_sr_ne, gj_sj_same, gj_sj_ne_r, gj_sj_ne_k, gj_si, gi_sj, gj_sr, iwc, jwc, Int.toNat_natCast, tdn, tmn, b0, b1, yc0, yc1, d6]
  have k1 : ∀ k, 13 ≤ k → gi s19 u k = gi s6 u k := fun k hk => by
    rw [← hs19]; simp (disch := omega) only [gi_same, gi_ne_r, gi_ne_k, gi_sr_same, gi_sr_ne, gj_sj_same, gj_sj_ne_r, gj_sj_ne_k, gj_si, gi_sj, gj_sr, iwc, jwc, Int.toNat_natCast, tdn, tmn, b0, b1, yc0, yc1]
  clear hs19 hE1 hE2
  have hM3 := hM0.of hE3 (fun r k z => by omega)
  have tail : ∀ (z0 : Int) (τ0 : SS), EqP (PMk u) s19 τ0 → (∀ k, 13 ≤ k → gi τ0 u k = gi s19 u k) → (∀ k, gi τ0 86 k = gi s19 86 k) → z0 = fmF ld 16 (h - 1) (knS tp a b h w g p) → Wp (j_Mo_say_125 u x2 x3 z0 τ0) fun _ τ => TM τ u a b m (midM ld x2 x3 (sayP ld tp a b (h, w, g :: p))) ∧ EqP (PMk u) σ τ := by
    intro z0 τ0 hE4 hrow hask hz
    rw [sayP_cons, ← hz]
    have hM4 := hM3.of hE4 (fun r k z => by omega)
    refine wp_mono (x_m125 (a := a) (b := b) (m := m) (w := iw (w + 1)) (p := p) hok hM4 hu ?_ ?_ ?_ ?_ ?_ ?_ hp (rI_iw _) (knS tp a b h w g p) ?_ x2 x3 z0 h2 h3) ?_
    · rw [hrow _ (by omega), k1 _ (by omega)]; exact d1
    · rw [hrow _ (by omega), k1 _ (by omega)]; exact d2
    · rw [hrow _ (by omega), k1 _ (by omega)]; exact d3
    · rw [hrow _ (by omega), k1 _ (by omega)]; exact d5
    · rw [hrow _ (by omega), k1 _ (by omega)]; exact d6
    · conv => rhs; rw [← d8]
      refine rowl_congr fun i _ => ?_
      rw [hrow _ (by omega), k1 _ (by omega)]
    · intro j hj; rw [hask]; exact hkn j hj
    · rintro _ τ ⟨q1, q2⟩
      exact ⟨q1, ((hE0.tr hE3).tr hE4).tr q2⟩
  have hbk3 : gi s19 86 40 = bk := hM3.2.1
  rw [hbk3]
  have i2 : iw (2 * (bk : Int)) = ((2 * bk : Nat) : Int) := by rw [iwc (by omega) (by omega)]; omega
  rw [i2, Int.toNat_natCast]
  repeat (first | with_reducible refine wp_os ?_ | with_reducible refine wp_ol ?_ | (with_reducible refine wp_oc ?_ ?_; · (first | omega | (simp (disch := omega) only [gi_same, gi_ne_r, gi_ne_k, gi_sr_same, gi_sr_ne, gj_sj_same, gj_sj_ne_r, gj_sj_ne_k, gj_si, gi_sj, gj_sr, iwc, jwc, Int.toNat_natCast, tdn, tmn, b0, b1, yc0, yc1]; try omega))) | (with_reducible refine wp_t ?_ ?_; · (first | omega | (simp (disch := omega) only [gi_same, gi_ne_r, gi_ne_k, gi_sr_same, gi_sr_ne, gj_sj_same, gj_sj_ne_r, gj_sj_ne_k, gj_si, gi_sj, gj_sr, iwc, jwc, Int.toNat_natCast, tdn, tmn, b0, b1, yc0, yc1]; try omega))) | (with_reducible refine wp_f ?_ ?_; · (first | omega | (simp (disch := omega) only [gi_same, gi_ne_r, gi_ne_k, gi_sr_same, gi_sr_ne, gj_sj_same, gj_sj_ne_r, gj_sj_ne_k, gj_si, gi_sj, gj_sr, iwc, jwc, Int.toNat_natCast, tdn, tmn, b0, b1, yc0, yc1]; try omega))))
  have hR3 := hM3.2.2.2.2.2.2.2.1.1
  rw [Nat.add_zero] at hR3
  rw [hR3]
  by_cases hn : gi ld 16 2 = 0
  · rw [if_pos hn]
    refine wp_t rfl ?_
    have e46 : gi s19 86 46 = h := by
      have := hkn 0 (by omega)
      simpa [knS, knF] using this
    rw [e46, iwc (by omega) (by omega)]
    exact tail _ s19 (EqP.rf _ _) (fun _ _ => rfl) (fun _ => rfl) (by unfold fmF; rw [if_pos hn])
  · rw [if_neg hn]
    refine wp_f (by decide) ?_
    refine wp_call (x_rule hok hM3 16 0 (Or.inl ⟨rfl, rfl⟩) _ hkn hn) ?_
    rintro r4 _ ⟨e4, g1, rfl⟩
    exact tail r4 _ (by repeat (first | exact EqP.rf _ _ | (refine EqP.si ?_ _ _ _ (by omega)) | (refine EqP.sj ?_ _ _ _ (by omega)) | (refine EqP.sr ?_ _ _ (fun k => by omega)))) (fun k _ => gi_sr_ne _ _ _ (by omega)) (fun k => gi_sr_ne _ _ _ (by omega)) (e4 _)
theorem x_sayM {ld σ : SS} {bk : Nat} {tp : Nat → Int} (hok : LdOK ld) (hM : LM ld σ bk) (hTp : TPM ld σ bk tp) {u a b m : Nat} (hu : u = 118 ∨ u = 119) {q : QQ} (hc : CPL ld a b m) (hT : TM σ u a b m q) (hq : QOK q) (ho : ¬ overP q) (x2 x3 : Int) (h2 : x2 < gi ld 2 4) (h3 : x3 < gi ld 2 0) : Wp (f_Mo_say u x2 x3 σ) fun _ τ => TM τ u a b m (midM ld x2 x3 (sayP ld tp a b q)) ∧ EqP (PMk u) σ τ := by
  have hrn : rN u = 44 := by rcases hu with rfl | rfl <;> rfl
  obtain ⟨h, w, p⟩ := q
  cases p with
  | nil => exact absurd (Or.inr rfl) ho
  | cons g p =>
  obtain ⟨q1, q2, q3, q4, q5, q6, q7⟩ := hc
  obtain ⟨w1, w2, w3⟩ := hq
  simp only [List.length_cons] at w2
  obtain ⟨c1, c2, c3, c4, c5, c6, c7⟩ := id hT
  unfold f_Mo_say
  rw [c5, hrn]
  refine wp_oc (by decide) ?_
  by_cases hw : Int.tmod w 2 = 0
  · refine wp_t hw (wp_oc (by decide) ?_)
    rw [c1]
    exact x_m20 hok hM hTp hu hT w1 (by omega) a q5 q1 (by rw [if_pos hw]) x2 x3 h2 h3
  · refine wp_f hw (wp_oc (by decide) ?_)
    rw [c2]
    exact x_m20 hok hM hTp hu hT w1 (by omega) b q6 q2 (by rw [if_neg hw]) x2 x3 h2 h3
theorem x_beginM {ld σ : SS} {bk : Nat} (hok : LdOK ld) (hM : LM ld σ bk) {u a b m : Nat} (hu : u = 118 ∨ u = 119) (hc : CPL ld a b m) : Wp (f_Mo_begin u a b m σ) fun _ τ => TM τ u a b m (begP ld m) ∧ EqP (PMk u) σ τ := by
  have hrn : rN u = 44 := by rcases hu with rfl | rfl <;> rfl
  obtain ⟨q1, q2, q3, q4, q5, q6, q7⟩ := hc
  have hb := hM.1
  have hbk := hM.2.1
  obtain ⟨b1, b2, b3⟩ := hok.ma q4
  obtain ⟨m1, m2, m3⟩ := hM.2.2.2.2.2.2.1 m q4
  unfold f_Mo_begin
  rw [hbk, ix6 bk m ⟨hb, by omega⟩, ol_eq, hrn]
  repeat (first | with_reducible refine wp_os ?_ | with_reducible refine wp_ol ?_ | (with_reducible refine wp_oc ?_ ?_; · (first | omega | (simp (disch := omega) only [gi_same, gi_ne_r, gi_ne_k, gi_sr_same, gi_sr_ne, gj_sj_same, gj_sj_ne_r, gj_sj_ne_k, gj_si, gi_sj, gj_sr, iwc, jwc, Int.toNat_natCast, tdn, tmn, b0, b1, yc0, yc1]; try omega))) | (with_reducible refine wp_t ?_ ?_; · (first | omega | (simp (disch := omega) only [gi_same, gi_ne_r, gi_ne_k, gi_sr_same, gi_sr_ne, gj_sj_same, gj_sj_ne_r, gj_sj_ne_k, gj_si, gi_sj, gj_sr, iwc, jwc, Int.toNat_natCast, tdn, tmn, b0, b1, yc0, yc1]; try omega))) | (with_reducible refine wp_f ?_ ?_; · (first | omega | (simp (disch := omega) only [gi_same, gi_ne_r, gi_ne_k, gi_sr_same, gi_sr_ne, gj_sj_same, gj_sj_ne_r, gj_sj_ne_k, gj_si, gi_sj, gj_sr, iwc, jwc, Int.toNat_natCast, tdn, tmn, b0, b1, yc0, yc1]; try omega))))
  rw [Int.toNat_natCast]
  have e20 : gi (si (si (si (si σ u 13 a) u 14 b) u 15 m) u 19 0) 103 (6 * bk + m) = gi ld 13 m := by simp (disch := omega) only [gi_same, gi_ne_r, gi_ne_k, gi_sr_same, gi_sr_ne, gj_sj_same, gj_sj_ne_r, gj_sj_ne_k, gj_si, gi_sj, gj_sr, iwc, jwc, Int.toNat_natCast, tdn, tmn, b0, b1, yc0, yc1, m1]
  rw [e20]
  have e21 : gi (si (si (si (si (si σ u 13 a) u 14 b) u 15 m) u 19 0) u 20 (gi ld 13 m)) 104 (6 * bk + m) = ((gi ld 14 m).toNat : Int) := by
    simp (disch := omega) only [gi_same, gi_ne_r, gi_ne_k, gi_sr_same, gi_sr_ne, gj_sj_same, gj_sj_ne_r, gj_sj_ne_k, gj_si, gi_sj, gj_sr, iwc, jwc, Int.toNat_natCast, tdn, tmn, b0, b1, yc0, yc1, m2]
    omega
  rw [e21]
  have hn : (gi ld 14 m).toNat ≤ 8 := by omega
  have z := cp_loop (l_Mo_begin_58 u ((6 * bk + m : Nat) : Int)) (fun τ => some (0, τ)) u 105 (gi ld 14 m).toNat 22 (8 * (6 * bk + m)) (by omega) (fun τ => gi τ 104 (6 * bk + m) = ((gi ld 14 m).toNat : Int)) (fun τ k v hI => by rw [gi_ne_r _ _ _ _ (by omega)]; exact hI) (fun fu i τ hI hi => by
      rw [l_Mo_begin_58, hrn, oc_pos (by omega), Int.toNat_natCast, hI, if_neg (by omega), ix8 (6 * bk + m) i ⟨by omega, by omega⟩, oc_pos (by omega), Int.toNat_natCast, iwc (x := 22 + (i : Int)) (by omega) (by omega), oc_pos (by omega), os_eq, iwc (by omega) (by omega), tn (x := 22 + (i : Int)) (22 + i) (by omega)]
      congr 1) (fun fu τ hI => by rw [l_Mo_begin_58, oc_pos (by omega), Int.toNat_natCast, hI, if_pos (by omega)]) (gi ld 14 m).toNat 0 FU (si (si (si (si (si (si σ u 13 a) u 14 b) u 15 m) u 19 0) u 20 (gi ld 13 m)) u 21 ((gi ld 14 m).toNat : Int)) (by omega) (by unfold FU; omega) (by
        rw [gi_ne_r _ _ _ _ (by omega), gi_ne_r _ _ _ _ (by omega), gi_ne_r _ _ _ _ (by omega), gi_ne_r _ _ _ _ (by omega), gi_ne_r _ _ _ _ (by omega), gi_ne_r _ _ _ _ (by omega), m2]; omega)
  refine wp_eqe z ⟨⟨?_, ?_, ?_, ?_, ?_, ?_, ?_⟩, ?_⟩
  · rw [gi_sr_same, if_neg (by omega)]; simp (disch := omega) only [gi_same, gi_ne_r, gi_ne_k, gi_sr_same, gi_sr_ne, gj_sj_same, gj_sj_ne_r, gj_sj_ne_k, gj_si, gi_sj, gj_sr, iwc, jwc, Int.toNat_natCast, tdn, tmn, b0, b1, yc0, yc1]
  · rw [gi_sr_same, if_neg (by omega)]; simp (disch := omega) only [gi_same, gi_ne_r, gi_ne_k, gi_sr_same, gi_sr_ne, gj_sj_same, gj_sj_ne_r, gj_sj_ne_k, gj_si, gi_sj, gj_sr, iwc, jwc, Int.toNat_natCast, tdn, tmn, b0, b1, yc0, yc1]
  · rw [gi_sr_same, if_neg (by omega)]; simp (disch := omega) only [gi_same, gi_ne_r, gi_ne_k, gi_sr_same, gi_sr_ne, gj_sj_same, gj_sj_ne_r, gj_sj_ne_k, gj_si, gi_sj, gj_sr, iwc, jwc, Int.toNat_natCast, tdn, tmn, b0, b1, yc0, yc1]
  · rw [gi_sr_same, if_neg (by omega)]; simp (disch := omega) only [gi_same, gi_ne_r, gi_ne_k, gi_sr_same, gi_sr_ne, gj_sj_same, gj_sj_ne_r, gj_sj_ne_k, gj_si, gi_sj, gj_sr, iwc, jwc, Int.toNat_natCast, tdn, tmn, b0, b1, yc0, yc1, begP]
  · rw [gi_sr_same, if_neg (by omega)]; simp (disch := omega) only [gi_same, gi_ne_r, gi_ne_k, gi_sr_same, gi_sr_ne, gj_sj_same, gj_sj_ne_r, gj_sj_ne_k, gj_si, gi_sj, gj_sr, iwc, jwc, Int.toNat_natCast, tdn, tmn, b0, b1, yc0, yc1, begP]
  · rw [gi_sr_same, if_neg (by omega)]; simp (disch := omega) only [gi_same, gi_ne_r, gi_ne_k, gi_sr_same, gi_sr_ne, gj_sj_same, gj_sj_ne_r, gj_sj_ne_k, gj_si, gi_sj, gj_sr, iwc, jwc, Int.toNat_natCast, tdn, tmn, b0, b1, yc0, yc1, begP, rowl_len]
  · unfold begP
    dsimp only
    rw [rowl_len]
    refine rowl_congr fun i hi => ?_
    rw [gi_sr_same, if_pos (by omega)]
    simp (disch := omega) only [gi_same, gi_ne_r, gi_ne_k, gi_sr_same, gi_sr_ne, gj_sj_same, gj_sj_ne_r, gj_sj_ne_k, gj_si, gi_sj, gj_sr, iwc, jwc, Int.toNat_natCast, tdn, tmn, b0, b1, yc0, yc1]
    rw [show 22 + i - 22 = i by omega]
    exact m3 i (by omega)
  · rw [Nat.add_zero]
    intro r k hk
    by_cases hru : r = u
    · subst hru
      refine ⟨?_, rfl⟩
      rw [gi_sr_same, if_neg (by omega)]
      simp (disch := omega) only [gi_same, gi_ne_r, gi_ne_k, gi_sr_same, gi_sr_ne, gj_sj_same, gj_sj_ne_r, gj_sj_ne_k, gj_si, gi_sj, gj_sr, iwc, jwc, Int.toNat_natCast, tdn, tmn, b0, b1, yc0, yc1]
    · refine ⟨?_, rfl⟩
      simp (disch := omega) only [gi_same, gi_ne_r, gi_ne_k, gi_sr_same, gi_sr_ne, gj_sj_same, gj_sj_ne_r, gj_sj_ne_k, gj_si, gi_sj, gj_sr, iwc, jwc, Int.toNat_natCast, tdn, tmn, b0, b1, yc0, yc1]
