/-! a quarrel: heat, words, the pile (the top one first) -/
abbrev QQ : Type := Int × Int × List Int
noncomputable def knF (h g s1 s2 m l : Int) : Nat → Int := fun j => if j = 0 then h else if j = 1 then g else if j = 2 then s1 else if j = 3 then s2 else if j = 4 then m else l
noncomputable def knS (tp : Nat → Int) (a b : Nat) (h w g : Int) (p : List Int) : Nat → Int := knF h g (tp (2 * (if Int.tmod w 2 = 0 then a else b))) (tp (2 * (if Int.tmod w 2 = 0 then a else b) + 1)) (iw (w + 1)) p.length
noncomputable def sayP (ld : SS) (tp : Nat → Int) (a b : Nat) (q : QQ) : QQ :=
  match q with
  | (h, w, []) => (h, w, [])
  | (h, w, g :: p) => (cl 0 (fmF ld 16 (h - 1) (knS tp a b h w g p)) 99, iw (w + 1), if fmF ld 19 0 (knS tp a b h w g p) ≤ 0 then p else zmin (fmF ld 19 0 (knS tp a b h w g p)) 9 :: p)
theorem sayP_cons (ld : SS) (tp : Nat → Int) (a b : Nat) (h w g : Int) (p : List Int) : sayP ld tp a b (h, w, g :: p) = (cl 0 (fmF ld 16 (h - 1) (knS tp a b h w g p)) 99, iw (w + 1), if fmF ld 19 0 (knS tp a b h w g p) ≤ 0 then p else zmin (fmF ld 19 0 (knS tp a b h w g p)) 9 :: p) := rfl
noncomputable def calmP (ld : SS) (e : Nat) (q : QQ) : QQ := (zmax 0 (q.1 - gi ld 4 e), q.2.1, if gi ld 5 e ≤ 0 ∨ 20 ≤ q.2.2.length then q.2.2 else gi ld 5 e :: q.2.2)
noncomputable def sightP (ld : SS) (y : Nat) (q : QQ) : QQ := (cl 0 (q.1 + gi ld 9 y) 99, q.2)
/-- a word on a way, at its mile k, towards place e -/
noncomputable def wayP (ld : SS) (tp : Nat → Int) (a b y e : Nat) (k : Int) (q : QQ) : QQ :=
  if gi ld 8 y ≤ k then calmP ld e (sightP ld y (sayP ld tp a b q)) else sightP ld y (sayP ld tp a b q)
def overP (q : QQ) : Prop := q.1 = 0 ∨ q.2.2 = []
def TC (σ : SS) (t a b m : Nat) (q : QQ) : Prop := gi σ t 3 = 100 * (a : Int) + 10 * (b : Int) + (m : Int) ∧ gi σ t 4 = q.1 ∧ gi σ t 5 = q.2.1 ∧ gi σ t 6 = (q.2.2.length : Int) ∧ rowl (gi σ (t + 2)) q.2.2.length = q.2.2
def TM (σ : SS) (r a b m : Nat) (q : QQ) : Prop := gi σ r 13 = a ∧ gi σ r 14 = b ∧ gi σ r 15 = m ∧ gi σ r 20 = q.1 ∧ gi σ r 19 = q.2.1 ∧ gi σ r 21 = (q.2.2.length : Int) ∧ rowl (fun i => gi σ r (22 + i)) q.2.2.length = q.2.2
def QOK (q : QQ) : Prop := (0 ≤ q.1 ∧ q.1 ≤ 99) ∧ q.2.2.length ≤ 20 ∧ rI q.2.1
def CPL (ld : SS) (a b m : Nat) : Prop := (a : Int) < gi ld 2 9 ∧ (b : Int) < gi ld 2 9 ∧ a ≠ b ∧ (m : Int) < gi ld 2 12 ∧ a < 6 ∧ b < 6 ∧ m < 6
theorem sayP_ok {ld : SS} {tp : Nat → Int} {a b : Nat} {q : QQ} (h : QOK q) : QOK (sayP ld tp a b q) := by
  obtain ⟨h0, w, p⟩ := q
  cases p with
  | nil => exact h
  | cons g p =>
    obtain ⟨_, h2, h3⟩ := h
    unfold sayP
    refine ⟨cl_99 _, ?_, rI_iw _⟩
    simp only [List.length_cons] at h2
    dsimp only
    split
    · omega
    · simp only [List.length_cons]; omega
theorem sightP_ok {ld : SS} {y : Nat} {q : QQ} (h : QOK q) : QOK (sightP ld y q) := ⟨cl_99 _, h.2.1, h.2.2⟩
theorem calmP_ok {ld : SS} {e : Nat} {q : QQ} (h : QOK q) (hc : 0 ≤ gi ld 4 e) : QOK (calmP ld e q) := by
  obtain ⟨h1, h2, h3⟩ := h
  refine ⟨?_, ?_, h3⟩
  · unfold calmP zmax; dsimp only; split <;> omega
  · unfold calmP; dsimp only; split
    · exact h2
    · simp only [List.length_cons]; omega
theorem wayP_ok {ld : SS} {tp : Nat → Int} {a b y e : Nat} {k : Int} {q : QQ} (h : QOK q) (hc : 0 ≤ gi ld 4 e) : QOK (wayP ld tp a b y e k q) := by
  unfold wayP; split
  · exact calmP_ok (sightP_ok (sayP_ok h)) hc
  · exact sightP_ok (sayP_ok h)
/-- the class's talk: what it may write -/
abbrev PTk (t : Nat) : Nat → Nat → Prop := fun r _ => t ≤ r ∧ r ≤ t + 2 ∨ r = 18 ∨ r = 21
abbrev PMk (q : Nat) : Nat → Nat → Prop := fun r k => r = q ∧ (13 ≤ k ∧ k ≤ 15 ∨ 19 ≤ k) ∨ r = 117 ∨ r = 86 ∧ 46 ≤ k ∧ k ≤ 51
theorem TC.of {P : Nat → Nat → Prop} {σ τ : SS} {t a b m : Nat} {q : QQ} (h : TC σ t a b m q) (he : EqP P σ τ) (hp : ∀ k, (3 ≤ k ∧ k ≤ 6 → ¬ P t k) ∧ ¬ P (t + 2) k) : TC τ t a b m q := by
  obtain ⟨h1, h2, h3, h4, h5⟩ := h
  refine ⟨?_, ?_, ?_, ?_, ?_⟩
  · rw [he.i t 3 ((hp 3).1 (by omega))]; exact h1
  · rw [he.i t 4 ((hp 4).1 (by omega))]; exact h2
  · rw [he.i t 5 ((hp 5).1 (by omega))]; exact h3
  · rw [he.i t 6 ((hp 6).1 (by omega))]; exact h4
  · conv => rhs; rw [← h5]
    exact rowl_congr fun i _ => he.i _ _ (hp i).2
theorem TM.of {P : Nat → Nat → Prop} {σ τ : SS} {r a b m : Nat} {q : QQ} (h : TM σ r a b m q) (he : EqP P σ τ) (hp : ∀ k, (13 ≤ k ∧ k ≤ 15 ∨ 19 ≤ k) → ¬ P r k) : TM τ r a b m q := by
  obtain ⟨h1, h2, h3, h4, h5, h6, h7⟩ := h
  refine ⟨?_, ?_, ?_, ?_, ?_, ?_, ?_⟩
  · rw [he.i r 13 (hp 13 (by omega))]; exact h1
  · rw [he.i r 14 (hp 14 (by omega))]; exact h2
  · rw [he.i r 15 (hp 15 (by omega))]; exact h3
  · rw [he.i r 20 (hp 20 (by omega))]; exact h4
  · rw [he.i r 19 (hp 19 (by omega))]; exact h5
  · rw [he.i r 21 (hp 21 (by omega))]; exact h6
  · conv => rhs; rw [← h7]
    exact rowl_congr fun i _ => he.i _ _ (hp _ (by omega))
theorem knF_row {f : Nat → Int} {h g s1 s2 m l : Int} (h0 : f 0 = h) (h1 : f 1 = g) (h2 : f 2 = s1) (h3 : f 3 = s2) (h4 : f 4 = m) (h5 : f 5 = l) : ∀ j, j < 6 → f j = knF h g s1 s2 m l j := by
  intro j hj
  have hc : j = 0 ∨ j = 1 ∨ j = 2 ∨ j = 3 ∨ j = 4 ∨ j = 5 := by omega
  unfold knF
  rcases hc with rfl | rfl | rfl | rfl | rfl | rfl <;> simp [h0, h1, h2, h3, h4, h5]
theorem x_say29 {ld σ : SS} {t u : Nat} {tp : Nat → Int} {a b m : Nat} {h w g : Int} {p : List Int} (hL : LC ld σ) (hF : FOK ld 16 ∧ FOK ld 19) (ht : 42 ≤ t) (hu : u ≠ t ∧ u ≠ t + 1 ∧ u ≠ t + 2 ∧ u ≠ 18 ∧ u ≠ 21) (hr : rN u = 12) (hr1 : rN (t + 1) = 6) (htp : ∀ j, j < 12 → gi σ u j = tp j) (hT : TC σ t a b m (h, w, g :: p)) (hh : 0 ≤ h ∧ h ≤ 99) (hp : p.length < 20) (s : Nat) (hs : s < 6) (hs2 : (s : Int) < gi ld 2 9) (hsp : s = if Int.tmod w 2 = 0 then a else b) : Wp (j_Ta_say_29 t u s σ) fun _ τ => TC τ t a b m (sayP ld tp a b (h, w, g :: p)) ∧ EqP (PTk t) σ τ := by
  obtain ⟨c1, c2, c3, c4, c5⟩ := hT
  simp only [List.length_cons] at c4
  rw [List.length_cons, rowl_s] at c5
  injection c5 with c5 c6
  have l9 : gi σ 2 9 = gi ld 2 9 := hL 2 9 (by omega) (by omega) (by omega)
  unfold j_Ta_say_29
  repeat (first | with_reducible refine wp_os ?_ | with_reducible refine wp_ol ?_ | (with_reducible refine wp_oc ?_ ?_; · (first | omega | (simp (disch := omega) only [gi_same, gi_ne_r, gi_ne_k, gi_sr_same, gi_sr_ne, gj_sj_same, gj_sj_ne_r, gj_sj_ne_k, gj_si, gi_sj, gj_sr, iwc, jwc, Int.toNat_natCast, tdn, tmn, b0, b1, yc0, yc1, c4, c2, c3, l9, hr]; try omega))) | (with_reducible refine wp_t ?_ ?_; · (first | omega | (simp (disch := omega) only [gi_same, gi_ne_r, gi_ne_k, gi_sr_same, gi_sr_ne, gj_sj_same, gj_sj_ne_r, gj_sj_ne_k, gj_si, gi_sj, gj_sr, iwc, jwc, Int.toNat_natCast, tdn, tmn, b0, b1, yc0, yc1, c4, c2, c3, l9, hr]; try omega))) | (with_reducible refine wp_f ?_ ?_; · (first | omega | (simp (disch := omega) only [gi_same, gi_ne_r, gi_ne_k, gi_sr_same, gi_sr_ne, gj_sj_same, gj_sj_ne_r, gj_sj_ne_k, gj_si, gi_sj, gj_sr, iwc, jwc, Int.toNat_natCast, tdn, tmn, b0, b1, yc0, yc1, c4, c2, c3, l9, hr]; try omega))) | with_reducible refine wp_eq (x_isSoul 2 _ _) ?_)
  refine wp_call (x_fm (ld := ld) (kn := knS tp a b h w g p) (r := 16) ?_ _ (Or.inl rfl) hF.1 (by omega) hr1 _ ?_) ?_
  · intro r k q1 q2 q3
    simp (disch := omega) only [gi_same, gi_ne_r, gi_ne_k, gi_sr_same, gi_sr_ne, gj_sj_same, gj_sj_ne_r, gj_sj_ne_k, gj_si, gi_sj, gj_sr, iwc, jwc, Int.toNat_natCast, tdn, tmn, b0, b1, yc0, yc1]
    exact hL r k q1 q2 q3
  · unfold knS
    rw [← hsp]
    refine knF_row ?_ ?_ ?_ ?_ ?_ ?_
    · simp (disch := omega) only [gi_same, gi_ne_r, gi_ne_k, gi_sr_same, gi_sr_ne, gj_sj_same, gj_sj_ne_r, gj_sj_ne_k, gj_si, gi_sj, gj_sr, iwc, jwc, Int.toNat_natCast, tdn, tmn, b0, b1, yc0, yc1, c2]
    · simp (disch := omega) only [gi_same, gi_ne_r, gi_ne_k, gi_sr_same, gi_sr_ne, gj_sj_same, gj_sj_ne_r, gj_sj_ne_k, gj_si, gi_sj, gj_sr, iwc, jwc, Int.toNat_natCast, tdn, tmn, b0, b1, yc0, yc1, c4, c5]
      rw [tn p.length (by omega)]; exact c5
    · simp (disch := omega) only [gi_same, gi_ne_r, gi_ne_k, gi_sr_same, gi_sr_ne, gj_sj_same, gj_sj_ne_r, gj_sj_ne_k, gj_si, gi_sj, gj_sr, iwc, jwc, Int.toNat_natCast, tdn, tmn, b0, b1, yc0, yc1]
      rw [tn (2 * s) (by omega)]; exact htp _ (by omega)
    · simp (disch := omega) only [gi_same, gi_ne_r, gi_ne_k, gi_sr_same, gi_sr_ne, gj_sj_same, gj_sj_ne_r, gj_sj_ne_k, gj_si, gi_sj, gj_sr, iwc, jwc, Int.toNat_natCast, tdn, tmn, b0, b1, yc0, yc1]
      rw [tn (2 * s + 1) (by omega)]; exact htp _ (by omega)
    · simp (disch := omega) only [gi_same, gi_ne_r, gi_ne_k, gi_sr_same, gi_sr_ne, gj_sj_same, gj_sj_ne_r, gj_sj_ne_k, gj_si, gi_sj, gj_sr, iwc, jwc, Int.toNat_natCast, tdn, tmn, b0, b1, yc0, yc1, c3]
    · simp (disch := omega) only [gi_same, gi_ne_r, gi_ne_k, gi_sr_same, gi_sr_ne, gj_sj_same, gj_sj_ne_r, gj_sj_ne_k, gj_si, gi_sj, gj_sr, iwc, jwc, Int.toNat_natCast, tdn, tmn, b0, b1, yc0, yc1, c4]
      omega
  rintro r28 s28 ⟨e28, g1, e28s⟩
  refine wp_call (x_fm (ld := ld) (kn := knS tp a b h w g p) (r := 19) ?_ _ (Or.inr rfl) hF.2 (by omega) hr1 _ ?_) ?_
  · intro r k q1 q2 q3
    rw [e28s]
    simp (disch := omega) only [gi_same, gi_ne_r, gi_ne_k, gi_sr_same, gi_sr_ne, gj_sj_same, gj_sj_ne_r, gj_sj_ne_k, gj_si, gi_sj, gj_sr, iwc, jwc, Int.toNat_natCast, tdn, tmn, b0, b1, yc0, yc1]
    exact hL r k q1 q2 q3
  · unfold knS
    rw [← hsp, e28s]
    refine knF_row ?_ ?_ ?_ ?_ ?_ ?_
    · simp (disch := omega) only [gi_same, gi_ne_r, gi_ne_k, gi_sr_same, gi_sr_ne, gj_sj_same, gj_sj_ne_r, gj_sj_ne_k, gj_si, gi_sj, gj_sr, iwc, jwc, Int.toNat_natCast, tdn, tmn, b0, b1, yc0, yc1, c2]
    · simp (disch := omega) only [gi_same, gi_ne_r, gi_ne_k, gi_sr_same, gi_sr_ne, gj_sj_same, gj_sj_ne_r, gj_sj_ne_k, gj_si, gi_sj, gj_sr, iwc, jwc, Int.toNat_natCast, tdn, tmn, b0, b1, yc0, yc1, c4, c5]
      rw [tn p.length (by omega)]; exact c5
    · simp (disch := omega) only [gi_same, gi_ne_r, gi_ne_k, gi_sr_same, gi_sr_ne, gj_sj_same, gj_sj_ne_r, gj_sj_ne_k, gj_si, gi_sj, gj_sr, iwc, jwc, Int.toNat_natCast, tdn, tmn, b0, b1, yc0, yc1]
      rw [tn (2 * s) (by omega)]; exact htp _ (by omega)
    · simp (disch := omega) only [gi_same, gi_ne_r, gi_ne_k, gi_sr_same, gi_sr_ne, gj_sj_same, gj_sj_ne_r, gj_sj_ne_k, gj_si, gi_sj, gj_sr, iwc, jwc, Int.toNat_natCast, tdn, tmn, b0, b1, yc0, yc1]
      rw [tn (2 * s + 1) (by omega)]; exact htp _ (by omega)
    · simp (disch := omega) only [gi_same, gi_ne_r, gi_ne_k, gi_sr_same, gi_sr_ne, gj_sj_same, gj_sj_ne_r, gj_sj_ne_k, gj_si, gi_sj, gj_sr, iwc, jwc, Int.toNat_natCast, tdn, tmn, b0, b1, yc0, yc1, c3]
    · simp (disch := omega) only [gi_same, gi_ne_r, gi_ne_k, gi_sr_same, gi_sr_ne, gj_sj_same, gj_sj_ne_r, gj_sj_ne_k, gj_si, gi_sj, gj_sr, iwc, jwc, Int.toNat_natCast, tdn, tmn, b0, b1, yc0, yc1, c4]
      omega
  rintro r32 s32 ⟨e32, g2, e32s⟩
  rw [e28s] at e32s
  have hh1 : r28 = fmF ld 16 (h - 1) (knS tp a b h w g p) := by
    rw [e28]; simp (disch := omega) only [gi_same, gi_ne_r, gi_ne_k, gi_sr_same, gi_sr_ne, gj_sj_same, gj_sj_ne_r, gj_sj_ne_k, gj_si, gi_sj, gj_sr, iwc, jwc, Int.toNat_natCast, tdn, tmn, b0, b1, yc0, yc1, c2]
  refine wp_eq (x_within _ _ _ _) ?_
  refine wp_os ?_
  rw [sayP_cons, ← hh1, ← e32]
  by_cases hb : r32 ≤ 0
  · refine wp_t hb (wp_some ⟨⟨?_, ?_, ?_, ?_, ?_⟩, ?_⟩)
    · rw [e32s]; simp (disch := omega) only [gi_same, gi_ne_r, gi_ne_k, gi_sr_same, gi_sr_ne, gj_sj_same, gj_sj_ne_r, gj_sj_ne_k, gj_si, gi_sj, gj_sr, iwc, jwc, Int.toNat_natCast, tdn, tmn, b0, b1, yc0, yc1, c1]
    · rw [e32s]; simp (disch := omega) only [gi_same, gi_ne_r, gi_ne_k, gi_sr_same, gi_sr_ne, gj_sj_same, gj_sj_ne_r, gj_sj_ne_k, gj_si, gi_sj, gj_sr, iwc, jwc, Int.toNat_natCast, tdn, tmn, b0, b1, yc0, yc1]
    · rw [e32s]; simp (disch := omega) only [gi_same, gi_ne_r, gi_ne_k, gi_sr_same, gi_sr_ne, gj_sj_same, gj_sj_ne_r, gj_sj_ne_k, gj_si, gi_sj, gj_sr, iwc, jwc, Int.toNat_natCast, tdn, tmn, b0, b1, yc0, yc1, c3]
    · rw [e32s, if_pos hb]; simp (disch := omega) only [gi_same, gi_ne_r, gi_ne_k, gi_sr_same, gi_sr_ne, gj_sj_same, gj_sj_ne_r, gj_sj_ne_k, gj_si, gi_sj, gj_sr, iwc, jwc, Int.toNat_natCast, tdn, tmn, b0, b1, yc0, yc1, c4]
      omega
    · rw [e32s, if_pos hb]; conv => rhs; rw [← c6]
      refine rowl_congr fun i _ => ?_
      simp (disch := omega) only [gi_same, gi_ne_r, gi_ne_k, gi_sr_same, gi_sr_ne, gj_sj_same, gj_sj_ne_r, gj_sj_ne_k, gj_si, gi_sj, gj_sr, iwc, jwc, Int.toNat_natCast, tdn, tmn, b0, b1, yc0, yc1]
    · rw [e32s]; repeat (first | exact EqP.rf _ _ | (refine EqP.si ?_ _ _ _ (by omega)) | (refine EqP.sj ?_ _ _ _ (by omega)) | (refine EqP.sr ?_ _ _ (fun k => by omega)))
  · refine wp_f hb ?_
    have k6 : gi (si s32 t 4 (cl 0 r28 99)) t 6 = p.length := by
      rw [e32s]; simp (disch := omega) only [gi_same, gi_ne_r, gi_ne_k, gi_sr_same, gi_sr_ne, gj_sj_same, gj_sj_ne_r, gj_sj_ne_k, gj_si, gi_sj, gj_sr, iwc, jwc, Int.toNat_natCast, tdn, tmn, b0, b1, yc0, yc1, c4]
      omega
    repeat (first | with_reducible refine wp_os ?_ | with_reducible refine wp_ol ?_ | (with_reducible refine wp_oc ?_ ?_; · (first | omega | (simp (disch := omega) only [gi_same, gi_ne_r, gi_ne_k, gi_sr_same, gi_sr_ne, gj_sj_same, gj_sj_ne_r, gj_sj_ne_k, gj_si, gi_sj, gj_sr, iwc, jwc, Int.toNat_natCast, tdn, tmn, b0, b1, yc0, yc1, k6]; try omega))) | (with_reducible refine wp_t ?_ ?_; · (first | omega | (simp (disch := omega) only [gi_same, gi_ne_r, gi_ne_k, gi_sr_same, gi_sr_ne, gj_sj_same, gj_sj_ne_r, gj_sj_ne_k, gj_si, gi_sj, gj_sr, iwc, jwc, Int.toNat_natCast, tdn, tmn, b0, b1, yc0, yc1, k6]; try omega))) | (with_reducible refine wp_f ?_ ?_; · (first | omega | (simp (disch := omega) only [gi_same, gi_ne_r, gi_ne_k, gi_sr_same, gi_sr_ne, gj_sj_same, gj_sj_ne_r, gj_sj_ne_k, gj_si, gi_sj, gj_sr, iwc, jwc, Int.toNat_natCast, tdn, tmn, b0, b1, yc0, yc1, k6]; try omega))))
    refine wp_some ⟨⟨?_, ?_, ?_, ?_, ?_⟩, ?_⟩
    · rw [e32s]; simp (disch := omega) only [gi_same, gi_ne_r, gi_ne_k, gi_sr_same, gi_sr_ne, gj_sj_same, gj_sj_ne_r, gj_sj_ne_k, gj_si, gi_sj, gj_sr, iwc, jwc, Int.toNat_natCast, tdn, tmn, b0, b1, yc0, yc1, c1]
    · rw [e32s]; simp (disch := omega) only [gi_same, gi_ne_r, gi_ne_k, gi_sr_same, gi_sr_ne, gj_sj_same, gj_sj_ne_r, gj_sj_ne_k, gj_si, gi_sj, gj_sr, iwc, jwc, Int.toNat_natCast, tdn, tmn, b0, b1, yc0, yc1]
    · rw [e32s]; simp (disch := omega) only [gi_same, gi_ne_r, gi_ne_k, gi_sr_same, gi_sr_ne, gj_sj_same, gj_sj_ne_r, gj_sj_ne_k, gj_si, gi_sj, gj_sr, iwc, jwc, Int.toNat_natCast, tdn, tmn, b0, b1, yc0, yc1, c3]
    · rw [if_neg hb, List.length_cons]; simp (disch := omega) only [gi_same, gi_ne_r, gi_ne_k, gi_sr_same, gi_sr_ne, gj_sj_same, gj_sj_ne_r, gj_sj_ne_k, gj_si, gi_sj, gj_sr, iwc, jwc, Int.toNat_natCast, tdn, tmn, b0, b1, yc0, yc1, k6]
      omega
    · rw [if_neg hb, List.length_cons, rowl_s]
      simp (disch := omega) only [gi_same, gi_ne_r, gi_ne_k, gi_sr_same, gi_sr_ne, gj_sj_same, gj_sj_ne_r, gj_sj_ne_k, gj_si, gi_sj, gj_sr, iwc, jwc, Int.toNat_natCast, tdn, tmn, b0, b1, yc0, yc1, k6]
      congr 1
      conv => rhs; rw [← c6]
      refine rowl_congr fun i _ => ?_
      rw [e32s]; simp (disch := omega) only [gi_same, gi_ne_r, gi_ne_k, gi_sr_same, gi_sr_ne, gj_sj_same, gj_sj_ne_r, gj_sj_ne_k, gj_si, gi_sj, gj_sr, iwc, jwc, Int.toNat_natCast, tdn, tmn, b0, b1, yc0, yc1]
    · rw [e32s]; repeat (first | exact EqP.rf _ _ | (refine EqP.si ?_ _ _ _ (by omega)) | (refine EqP.sj ?_ _ _ _ (by omega)) | (refine EqP.sr ?_ _ _ (fun k => by omega)))
