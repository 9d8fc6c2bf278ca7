/-! home: talks laid by and brought back -/
theorem x_hput (o : Nat) (ho : o + 24 ≤ 96) (σ : SS) : Wp (f_Ta_put 76 74 o σ) fun _ τ => EqP (fun r k => r = 74 ∧ o ≤ k ∧ k < o + 24) σ τ ∧ (∀ j, j < 4 → gi τ 74 (o + j) = gi σ 76 (3 + j)) ∧ ∀ j, j < 20 → gi τ 74 (o + 4 + j) = gi σ 78 j := by
  have hrn : rN 74 = 96 := rfl
  unfold f_Ta_put
  have e24 : iw (((rN 74 : Nat) : Int) - 24) = ((rN 74 : Nat) : Int) - 24 := by rw [iwc (by omega) (by omega)]
  rw [e24, hrn]
  repeat (first | with_reducible refine wp_os ?_ | with_reducible refine wp_ol ?_ | (with_reducible refine wp_oc ?_ ?_; · (first | omega | (simp (disch := omega) only [gi_same, gi_ne_r, gi_ne_k, gi_sr_same, gi_sr_ne, gj_sj_same, gj_sj_ne_r, gj_sj_ne_k, gj_si, gi_sj, gj_sr, iwc, jwc, Int.toNat_natCast, tdn, tmn, b0, b1, yc0, yc1]; try omega))) | (with_reducible refine wp_t ?_ ?_; · (first | omega | (simp (disch := omega) only [gi_same, gi_ne_r, gi_ne_k, gi_sr_same, gi_sr_ne, gj_sj_same, gj_sj_ne_r, gj_sj_ne_k, gj_si, gi_sj, gj_sr, iwc, jwc, Int.toNat_natCast, tdn, tmn, b0, b1, yc0, yc1]; try omega))) | (with_reducible refine wp_f ?_ ?_; · (first | omega | (simp (disch := omega) only [gi_same, gi_ne_r, gi_ne_k, gi_sr_same, gi_sr_ne, gj_sj_same, gj_sj_ne_r, gj_sj_ne_k, gj_si, gi_sj, gj_sr, iwc, jwc, Int.toNat_natCast, tdn, tmn, b0, b1, yc0, yc1]; try omega))))
  have t0 : ((o : Int)).toNat = o := rfl
  have t1 : (iw ((o : Int) + 1)).toNat = o + 1 := by rw [iwc (by omega) (by omega)]; omega
  have t2 : (iw ((o : Int) + 2)).toNat = o + 2 := by rw [iwc (by omega) (by omega)]; omega
  have t3 : (iw ((o : Int) + 3)).toNat = o + 3 := by rw [iwc (by omega) (by omega)]; omega
  rw [t0, t1, t2, t3]
  have i4 : iw ((o : Int) + 4) = ((o + 4 : Nat) : Int) := by rw [iwc (by omega) (by omega)]; omega
  have z := fun s => cp_loop (l_Ta_put_50 76 74 o) (fun τ => some (0, τ)) 74 78 20 (o + 4) 0 (by omega) (fun _ => True) (fun _ _ _ h => h) (fun fu i τ hI hi => by
      have e : iw ((((o + 4 : Nat) : Int)) + (i : Int)) = ((o + 4 + i : Nat) : Int) := by rw [iwc (by omega) (by omega)]; omega
      rw [l_Ta_put_50, if_neg (by omega), oc_pos (by omega), i4, e, oc_pos (by omega), os_eq, iwc (by omega) (by omega), Int.toNat_natCast, Int.toNat_natCast, Nat.zero_add]
      congr 1) (fun fu τ hI => by rw [l_Ta_put_50, if_pos (by omega)]) 20 0 FU s (by omega) (by unfold FU; omega) trivial
  refine wp_eqe (z _) ⟨?_, ?_, ?_⟩
  · intro r k hk
    refine ⟨?_, rfl⟩
    by_cases hr : r = 74
    · subst hr
      rw [gi_sr_same, if_neg (by omega)]
      simp (disch := omega) only [gi_same, gi_ne_r, gi_ne_k, gi_sr_same, gi_sr_ne, gj_sj_same, gj_sj_ne_r, gj_sj_ne_k, gj_si, gi_sj, gj_sr, iwc, jwc, Int.toNat_natCast, tdn, tmn, b0, b1, yc0, yc1]
    · simp (disch := omega) only [gi_same, gi_ne_r, gi_ne_k, gi_sr_same, gi_sr_ne, gj_sj_same, gj_sj_ne_r, gj_sj_ne_k, gj_si, gi_sj, gj_sr, iwc, jwc, Int.toNat_natCast, tdn, tmn, b0, b1, yc0, yc1]
  · intro j hj
    rw [gi_sr_same, if_neg (by omega)]
    have hc : j = 0 ∨ j = 1 ∨ j = 2 ∨ j = 3 := by omega
    rcases hc with rfl | rfl | rfl | rfl
    · simp (disch := omega) only [gi_same, gi_ne_r, gi_ne_k, gi_sr_same, gi_sr_ne, gj_sj_same, gj_sj_ne_r, gj_sj_ne_k, gj_si, gi_sj, gj_sr, iwc, jwc, Int.toNat_natCast, tdn, tmn, b0, b1, yc0, yc1, Nat.add_zero]
    · simp (disch := omega) only [gi_same, gi_ne_r, gi_ne_k, gi_sr_same, gi_sr_ne, gj_sj_same, gj_sj_ne_r, gj_sj_ne_k, gj_si, gi_sj, gj_sr, iwc, jwc, Int.toNat_natCast, tdn, tmn, b0, b1, yc0, yc1]
    · simp (disch := omega) only [gi_same, gi_ne_r, gi_ne_k, gi_sr_same, gi_sr_ne, gj_sj_same, gj_sj_ne_r, gj_sj_ne_k, gj_si, gi_sj, gj_sr, iwc, jwc, Int.toNat_natCast, tdn, tmn, b0, b1, yc0, yc1]
    · simp (disch := omega) only [gi_same, gi_ne_r, gi_ne_k, gi_sr_same, gi_sr_ne, gj_sj_same, gj_sj_ne_r, gj_sj_ne_k, gj_si, gi_sj, gj_sr, iwc, jwc, Int.toNat_natCast, tdn, tmn, b0, b1, yc0, yc1]
  · intro j hj
    rw [gi_sr_same, if_pos (by omega)]
    simp (disch := omega) only [gi_same, gi_ne_r, gi_ne_k, gi_sr_same, gi_sr_ne, gj_sj_same, gj_sj_ne_r, gj_sj_ne_k, gj_si, gi_sj, gj_sr, iwc, jwc, Int.toNat_natCast, tdn, tmn, b0, b1, yc0, yc1]
    congr 1 <;> omega
theorem x_hbring (o : Nat) (ho : o + 24 ≤ 96) (σ : SS) : Wp (f_Ta_bring 76 74 o σ) fun _ τ => EqP (fun r k => r = 76 ∧ 3 ≤ k ∧ k ≤ 6 ∨ r = 78) σ τ ∧ (∀ j, j < 4 → gi τ 76 (3 + j) = gi σ 74 (o + j)) ∧ ∀ j, j < 20 → gi τ 78 j = gi σ 74 (o + 4 + j) := by
  have hrn : rN 74 = 96 := rfl
  unfold f_Ta_bring
  have e24 : iw (((rN 74 : Nat) : Int) - 24) = ((rN 74 : Nat) : Int) - 24 := by rw [iwc (by omega) (by omega)]
  rw [e24, hrn]
  repeat (first | with_reducible refine wp_os ?_ | with_reducible refine wp_ol ?_ | (with_reducible refine wp_oc ?_ ?_; · (first | omega | (simp (disch := omega) only [gi_same, gi_ne_r, gi_ne_k, gi_sr_same, gi_sr_ne, gj_sj_same, gj_sj_ne_r, gj_sj_ne_k, gj_si, gi_sj, gj_sr, iwc, jwc, Int.toNat_natCast, tdn, tmn, b0, b1, yc0, yc1]; try omega))) | (with_reducible refine wp_t ?_ ?_; · (first | omega | (simp (disch := omega) only [gi_same, gi_ne_r, gi_ne_k, gi_sr_same, gi_sr_ne, gj_sj_same, gj_sj_ne_r, gj_sj_ne_k, gj_si, gi_sj, gj_sr, iwc, jwc, Int.toNat_natCast, tdn, tmn, b0, b1, yc0, yc1]; try omega))) | (with_reducible refine wp_f ?_ ?_; · (first | omega | (simp (disch := omega) only [gi_same, gi_ne_r, gi_ne_k, gi_sr_same, gi_sr_ne, gj_sj_same, gj_sj_ne_r, gj_sj_ne_k, gj_si, gi_sj, gj_sr, iwc, jwc, Int.toNat_natCast, tdn, tmn, b0, b1, yc0, yc1]; try omega))))
  have t0 : ((o : Int)).toNat = o := rfl
  have t1 : (iw ((o : Int) + 1)).toNat = o + 1 := by rw [iwc (by omega) (by omega)]; omega
  have t2 : (iw ((o : Int) + 2)).toNat = o + 2 := by rw [iwc (by omega) (by omega)]; omega
  have t3 : (iw ((o : Int) + 3)).toNat = o + 3 := by rw [iwc (by omega) (by omega)]; omega
  rw [t0, t1, t2, t3]
  have i4 : iw ((o : Int) + 4) = ((o + 4 : Nat) : Int) := by rw [iwc (by omega) (by omega)]; omega
  have z := fun s => cp_loop (l_Ta_bring_50 76 74 o) (fun τ => some (0, τ)) 78 74 20 0 (o + 4) (by omega) (fun _ => True) (fun _ _ _ h => h) (fun fu i τ hI hi => by
      have e : iw ((((o + 4 : Nat) : Int)) + (i : Int)) = ((o + 4 + i : Nat) : Int) := by rw [iwc (by omega) (by omega)]; omega
      rw [l_Ta_bring_50, if_neg (by omega), i4, e, oc_pos (by omega), oc_pos (by omega), os_eq, iwc (by omega) (by omega), Int.toNat_natCast, Int.toNat_natCast, Nat.zero_add]
      congr 1) (fun fu τ hI => by rw [l_Ta_bring_50, if_pos (by omega)]) 20 0 FU s (by omega) (by unfold FU; omega) trivial
  refine wp_eqe (z _) ⟨?_, ?_, ?_⟩
  · refine EqP.sr ?_ _ _ (fun k => by omega)
    repeat (first | exact EqP.rf _ _ | (refine EqP.si ?_ _ _ _ (by omega)) | (refine EqP.sj ?_ _ _ _ (by omega)) | (refine EqP.sr ?_ _ _ (fun k => by omega)))
  · intro j hj
    have hc : j = 0 ∨ j = 1 ∨ j = 2 ∨ j = 3 := by omega
    rcases hc with rfl | rfl | rfl | rfl
    · simp (disch := omega) only [gi_same, gi_ne_r, gi_ne_k, gi_sr_same, gi_sr_ne, gj_sj_same, gj_sj_ne_r, gj_sj_ne_k, gj_si, gi_sj, gj_sr, iwc, jwc, Int.toNat_natCast, tdn, tmn, b0, b1, yc0, yc1, Nat.add_zero]
    · simp (disch := omega) only [gi_same, gi_ne_r, gi_ne_k, gi_sr_same, gi_sr_ne, gj_sj_same, gj_sj_ne_r, gj_sj_ne_k, gj_si, gi_sj, gj_sr, iwc, jwc, Int.toNat_natCast, tdn, tmn, b0, b1, yc0, yc1]
    · simp (disch := omega) only [gi_same, gi_ne_r, gi_ne_k, gi_sr_same, gi_sr_ne, gj_sj_same, gj_sj_ne_r, gj_sj_ne_k, gj_si, gi_sj, gj_sr, iwc, jwc, Int.toNat_natCast, tdn, tmn, b0, b1, yc0, yc1]
    · simp (disch := omega) only [gi_same, gi_ne_r, gi_ne_k, gi_sr_same, gi_sr_ne, gj_sj_same, gj_sj_ne_r, gj_sj_ne_k, gj_si, gi_sj, gj_sr, iwc, jwc, Int.toNat_natCast, tdn, tmn, b0, b1, yc0, yc1]
  · intro j hj
    rw [gi_sr_same, if_pos (by omega)]
    simp (disch := omega) only [gi_same, gi_ne_r, gi_ne_k, gi_sr_same, gi_sr_ne, gj_sj_same, gj_sj_ne_r, gj_sj_ne_k, gj_si, gi_sj, gj_sr, iwc, jwc, Int.toNat_natCast, tdn, tmn, b0, b1, yc0, yc1]
    congr 1
/-- a talk that was laid by -/
def TS (σ : SS) (o a b m : Nat) (q : QQ) : Prop := gi σ 74 o = 100 * (a : Int) + 10 * (b : Int) + (m : Int) ∧ gi σ 74 (o + 1) = q.1 ∧ gi σ 74 (o + 2) = q.2.1 ∧ gi σ 74 (o + 3) = (q.2.2.length : Int) ∧ rowl (fun i => gi σ 74 (o + 4 + i)) q.2.2.length = q.2.2
theorem TS.of {P : Nat → Nat → Prop} {σ τ : SS} {o a b m : Nat} {q : QQ} (h : TS σ o a b m q) (hl : q.2.2.length ≤ 20) (he : EqP P σ τ) (hp : ∀ k, o ≤ k → k < o + 24 → ¬ P 74 k) : TS τ o a b m q := by
  obtain ⟨h1, h2, h3, h4, h5⟩ := h
  refine ⟨?_, ?_, ?_, ?_, ?_⟩
  · rw [he.i 74 _ (hp _ (by omega) (by omega))]; exact h1
  · rw [he.i 74 _ (hp _ (by omega) (by omega))]; exact h2
  · rw [he.i 74 _ (hp _ (by omega) (by omega))]; exact h3
  · rw [he.i 74 _ (hp _ (by omega) (by omega))]; exact h4
  · conv => rhs; rw [← h5]
    exact rowl_congr fun i hi => he.i _ _ (hp _ (by omega) (by omega))
theorem x_putTS (o : Nat) (ho : o + 24 ≤ 96) {σ : SS} {a b m : Nat} {q : QQ} (hT : TC σ 76 a b m q) (hl : q.2.2.length ≤ 20) : Wp (f_Ta_put 76 74 o σ) fun _ τ => TS τ o a b m q ∧ EqP (fun r k => r = 74 ∧ o ≤ k ∧ k < o + 24) σ τ := by
  refine wp_mono (x_hput o ho σ) ?_
  rintro _ τ ⟨hE, h1, h2⟩
  obtain ⟨t1, t2, t3, t4, t5⟩ := hT
  refine ⟨⟨?_, ?_, ?_, ?_, ?_⟩, hE⟩
  · have := h1 0 (by omega); rw [Nat.add_zero] at this; rw [this]; exact t1
  · rw [h1 1 (by omega)]; exact t2
  · rw [h1 2 (by omega)]; exact t3
  · rw [h1 3 (by omega)]; exact t4
  · conv => rhs; rw [← t5]
    exact rowl_congr fun i hi => h2 i (by omega)
theorem x_bringTS (o : Nat) (ho : o + 24 ≤ 96) {σ : SS} {a b m : Nat} {q : QQ} (hT : TS σ o a b m q) (hl : q.2.2.length ≤ 20) : Wp (f_Ta_bring 76 74 o σ) fun _ τ => TC τ 76 a b m q ∧ EqP (PTk 76) σ τ := by
  refine wp_mono (x_hbring o ho σ) ?_
  rintro _ τ ⟨hE, h1, h2⟩
  obtain ⟨t1, t2, t3, t4, t5⟩ := hT
  refine ⟨⟨?_, ?_, ?_, ?_, ?_⟩, hE.mo (fun r k z => by omega)⟩
  · have := h1 0 (by omega); rw [Nat.add_zero, Nat.add_zero] at this; rw [this]; exact t1
  · have := h1 1 (by omega); rw [show 3 + 1 = 4 from rfl] at this; rw [this]; exact t2
  · have := h1 2 (by omega); rw [show 3 + 2 = 5 from rfl] at this; rw [this]; exact t3
  · have := h1 3 (by omega); rw [show 3 + 3 = 6 from rfl] at this; rw [this]; exact t4
  · conv => rhs; rw [← t5]
    exact rowl_congr fun i hi => h2 i (by omega)
/-- how many rows were found, and the one that lies -/
abbrev HS : Type := Nat × Option (List Nat)
def hstep (s : HS) (l : List Nat) : HS := (s.1 + 1, updH s.2 l)
def HB (σ : SS) (s : HS) : Prop := gi σ 61 19 = (s.1 : Int) ∧ (s.1 = 0 ↔ s.2 = none) ∧ match s.2 with
  | none => gi σ 61 5 = 0
  | some l => gi σ 61 5 = (l.length : Int) ∧ ∀ i (h : i < l.length), gi σ 65 i = (l[i] : Int)
theorem HB.of {P : Nat → Nat → Prop} {σ τ : SS} {s : HS} (h : HB σ s) (he : EqP P σ τ) (hp : ∀ r k, P r k → ¬ (r = 61 ∧ (k = 5 ∨ k = 19)) ∧ r ≠ 65) : HB τ s := by
  obtain ⟨n, o⟩ := s
  obtain ⟨h1, h2, h3⟩ := h
  have e1 : gi τ 61 19 = gi σ 61 19 := he.i _ _ (fun z => (hp _ _ z).1 (by omega))
  have e2 : gi τ 61 5 = gi σ 61 5 := he.i _ _ (fun z => (hp _ _ z).1 (by omega))
  have e3 : ∀ i, gi τ 65 i = gi σ 65 i := fun i => he.i _ _ (fun z => (hp _ _ z).2 rfl)
  refine ⟨e1.trans h1, h2, ?_⟩
  cases o with
  | none => exact e2.trans h3
  | some l => exact ⟨e2.trans h3.1, fun i hi => (e3 i).trans (h3.2 i hi)⟩
abbrev PLw : Nat → Nat → Prop := fun r k => r = 61 ∧ (k = 5 ∨ k = 19) ∨ r = 65
theorem x_layRow_loop (l : List Nat) (hl : l.length ≤ 4) : ∀ (r i fu : Nat) (σ : SS), i + r = l.length → r < fu → gi σ 61 5 = i → (∀ j (h : j < l.length), gi σ 72 j = (l[j] : Int)) → (∀ j (h : j < l.length), j < i → gi σ 65 j = (l[j] : Int)) → Wp (l_Fi_layRow_33 l.length fu i σ) fun _ τ => gi τ 61 5 = l.length ∧ (∀ j (h : j < l.length), gi τ 65 j = (l[j] : Int)) ∧ EqP (fun r k => r = 61 ∧ k = 5 ∨ r = 65) σ τ := by
  intro r
  induction r with
  | zero =>
    intro i fu σ hi hfu h5 h72 h65
    obtain ⟨fu, rfl⟩ : ∃ f, fu = f + 1 := ⟨fu - 1, by omega⟩
    rw [l_Fi_layRow_33]
    exact wp_t (by omega) (wp_some ⟨by rw [h5]; omega, fun j hj => h65 j hj (by omega), EqP.rf _ _⟩)
  | succ r ih =>
    intro i fu σ hi hfu h5 h72 h65
    obtain ⟨fu, rfl⟩ : ∃ f, fu = f + 1 := ⟨fu - 1, by omega⟩
    rw [l_Fi_layRow_33]
    refine wp_f (by omega) (wp_f (by omega) (wp_oc (by omega) ?_))
    refine wp_eq (x_lay h5 (by omega) _) ?_
    obtain ⟨x, hx⟩ : ∃ x : Nat, l[i]'(by omega) = x := ⟨_, rfl⟩
    rw [Int.toNat_natCast, h72 i (by omega), hx, show iw ((i : Int) + 1) = ((i + 1 : Nat) : Int) by rw [iwc (by omega) (by omega)]; omega]
    have hE : EqP (fun r k => r = 61 ∧ k = 5 ∨ r = 65) σ (si (si σ 65 i (x : Int)) 61 5 ((i + 1 : Nat) : Int)) := EqP.si (EqP.si (EqP.rf _ _) _ _ _ (by omega)) _ _ _ (by omega)
    have g5 : gi (si (si σ 65 i (x : Int)) 61 5 ((i + 1 : Nat) : Int)) 61 5 = ((i + 1 : Nat) : Int) := gi_same _ _ _ _
    have g65 : ∀ j (h : j < l.length), j < i + 1 → gi (si (si σ 65 i (x : Int)) 61 5 ((i + 1 : Nat) : Int)) 65 j = (l[j] : Int) := by
      intro j hj hji
      rw [gi_ne_r _ _ _ _ (by omega)]
      by_cases e : j = i
      · subst e; rw [gi_same, hx]
      · rw [gi_ne_k _ _ _ _ e]; exact h65 j hj (by omega)
    generalize si (si σ 65 i (x : Int)) 61 5 ((i + 1 : Nat) : Int) = s1 at hE g5 g65 ⊢
    refine wp_mono (ih (i + 1) fu s1 (by omega) (by omega) g5 (fun j hj => by rw [hE.i _ _ (by omega)]; exact h72 j hj) g65) ?_
    rintro _ τ ⟨k1, k2, k3⟩
    exact ⟨k1, k2, hE.tr k3⟩
theorem x_layRow (l : List Nat) (hl : l.length ≤ 4) {s : HS} {σ : SS} (hs : s.1 ≤ 1000000) (h72 : ∀ j (h : j < l.length), gi σ 72 j = (l[j] : Int)) (hH : HB σ s) : Wp (f_Fi_layRow l.length σ) fun _ τ => HB τ (hstep s l) ∧ EqP PLw σ τ := by
  obtain ⟨n, o⟩ := s
  dsimp only at hs
  obtain ⟨h1, h2, h3⟩ := hH
  dsimp only at h1 h2 h3
  have e19 : iw (gi σ 61 19 + 1) = ((n + 1 : Nat) : Int) := by rw [h1, iwc (by omega) (by omega)]; omega
  have lay : ∀ s1, EqP PLw σ s1 → gi s1 61 19 = ((n + 1 : Nat) : Int) → updH o l = some l → Wp (j_Fi_layRow_27 l.length s1) fun _ τ => HB τ (hstep (n, o) l) ∧ EqP PLw σ τ := by
    intro s1 hE g19 hu
    unfold j_Fi_layRow_27
    refine wp_eq (x_layNothing s1) ?_
    have z := x_layRow_loop l hl l.length 0 FU (si s1 61 5 0) (by omega) (by unfold FU; omega) (gi_same _ _ _ _) (fun j hj => by rw [gi_ne_r _ _ _ _ (by omega), hE.i _ _ (by omega)]; exact h72 j hj) (fun j hj h => absurd h (Nat.not_lt_zero _))
    refine wp_mono z ?_
    rintro _ τ ⟨k1, k2, k3⟩
    have hE2 : EqP PLw s1 (si s1 61 5 0) := EqP.si (EqP.rf _ _) _ _ _ (by omega)
    refine ⟨⟨?_, ?_, ?_⟩, (hE.tr hE2).tr (k3.mo (fun r k z => by omega))⟩
    · rw [k3.i _ _ (by omega), gi_ne_k _ _ _ _ (by omega)]; exact g19
    · show n + 1 = 0 ↔ updH o l = none
      rw [hu]
      exact ⟨fun z => absurd z (by omega), fun z => nomatch z⟩
    · show match updH o l with
        | none => gi τ 61 5 = 0
        | some l => gi τ 61 5 = (l.length : Int) ∧ ∀ i (h : i < l.length), gi τ 65 i = (l[i] : Int)
      rw [hu]
      exact ⟨k1, k2⟩
  unfold f_Fi_layRow
  refine wp_os ?_
  rw [e19]
  have hE1 : EqP PLw σ (si σ 61 19 ((n + 1 : Nat) : Int)) := EqP.si (EqP.rf _ _) _ _ _ (by omega)
  have g19 : gi (si σ 61 19 ((n + 1 : Nat) : Int)) 61 19 = ((n + 1 : Nat) : Int) := gi_same _ _ _ _
  have g5 : gi (si σ 61 19 ((n + 1 : Nat) : Int)) 61 5 = gi σ 61 5 := gi_ne_k _ _ _ _ (by omega)
  have g65 : ∀ i, gi (si σ 61 19 ((n + 1 : Nat) : Int)) 65 i = gi σ 65 i := fun i => gi_ne_r _ _ _ _ (by omega)
  generalize si σ 61 19 ((n + 1 : Nat) : Int) = s1 at hE1 g19 g5 g65 ⊢
  rw [g19, g5]
  cases o with
  | none =>
    have := h2.mpr rfl
    exact wp_t (by omega) (lay s1 hE1 g19 rfl)
  | some t =>
    have hn : n ≠ 0 := fun z => nomatch h2.mp z
    obtain ⟨u1, u2⟩ := h3
    refine wp_f (by omega) ?_
    by_cases hlt : l.length < t.length
    · exact wp_t (by omega) (lay s1 hE1 g19 (if_pos hlt))
    · refine wp_f (by omega) (wp_some ⟨⟨g19, ?_, ?_⟩, hE1⟩)
      · show n + 1 = 0 ↔ updH (some t) l = none
        rw [show updH (some t) l = some t from if_neg hlt]
        exact ⟨fun z => absurd z (by omega), fun z => nomatch z⟩
      · show match updH (some t) l with
          | none => gi s1 61 5 = 0
          | some l => gi s1 61 5 = (l.length : Int) ∧ ∀ i (h : i < l.length), gi s1 65 i = (l[i] : Int)
        rw [show updH (some t) l = some t from if_neg hlt]
        exact ⟨g5.trans u1, fun i hi => (g65 i).trans (u2 i hi)⟩
