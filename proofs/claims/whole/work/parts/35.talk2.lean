/-! what a land is, in all its numbers -/
def LdOK (ld : SS) : Prop :=
  (0 ≤ gi ld 2 0 ∧ gi ld 2 0 ≤ 8) ∧ (0 ≤ gi ld 2 4 ∧ gi ld 2 4 ≤ 14) ∧ (0 ≤ gi ld 2 9 ∧ gi ld 2 9 ≤ 6) ∧ (0 ≤ gi ld 2 12 ∧ gi ld 2 12 ≤ 6) ∧ (0 ≤ gi ld 2 17 ∧ gi ld 2 17 ≤ 999) ∧
  (∀ p : Nat, (p : Int) < gi ld 2 0 → (0 ≤ gi ld 4 p ∧ gi ld 4 p ≤ 9) ∧ (0 ≤ gi ld 5 p ∧ gi ld 5 p ≤ 9)) ∧
  (∀ y : Nat, (y : Int) < gi ld 2 4 → (0 ≤ gi ld 6 y ∧ gi ld 6 y < gi ld 2 0) ∧ (0 ≤ gi ld 7 y ∧ gi ld 7 y < gi ld 2 0) ∧ gi ld 6 y ≠ gi ld 7 y ∧ (1 ≤ gi ld 8 y ∧ gi ld 8 y ≤ 40) ∧ (-9 ≤ gi ld 9 y ∧ gi ld 9 y ≤ 9)) ∧
  (∀ s : Nat, (s : Int) < gi ld 2 9 → (0 ≤ gi ld 11 (2 * s) ∧ gi ld 11 (2 * s) ≤ 9) ∧ (0 ≤ gi ld 11 (2 * s + 1) ∧ gi ld 11 (2 * s + 1) ≤ 9)) ∧
  (∀ m : Nat, (m : Int) < gi ld 2 12 → (1 ≤ gi ld 13 m ∧ gi ld 13 m ≤ 99) ∧ (1 ≤ gi ld 14 m ∧ gi ld 14 m ≤ 8) ∧ ∀ i : Nat, (i : Int) < gi ld 14 m → 1 ≤ gi ld 15 (8 * m + i) ∧ gi ld 15 (8 * m + i) ≤ 9) ∧
  FOK ld 16 ∧ FOK ld 19
theorem LdOK.fok {ld : SS} (h : LdOK ld) : FOK ld 16 ∧ FOK ld 19 := h.2.2.2.2.2.2.2.2.2
theorem LdOK.pl {ld : SS} (h : LdOK ld) {p : Nat} (hp : (p : Int) < gi ld 2 0) : (0 ≤ gi ld 4 p ∧ gi ld 4 p ≤ 9) ∧ (0 ≤ gi ld 5 p ∧ gi ld 5 p ≤ 9) := h.2.2.2.2.2.1 p hp
theorem LdOK.wy {ld : SS} (h : LdOK ld) {y : Nat} (hy : (y : Int) < gi ld 2 4) : (0 ≤ gi ld 6 y ∧ gi ld 6 y < gi ld 2 0) ∧ (0 ≤ gi ld 7 y ∧ gi ld 7 y < gi ld 2 0) ∧ gi ld 6 y ≠ gi ld 7 y ∧ (1 ≤ gi ld 8 y ∧ gi ld 8 y ≤ 40) ∧ (-9 ≤ gi ld 9 y ∧ gi ld 9 y ≤ 9) := h.2.2.2.2.2.2.1 y hy
theorem LdOK.so {ld : SS} (h : LdOK ld) {s : Nat} (hs : (s : Int) < gi ld 2 9) : (0 ≤ gi ld 11 (2 * s) ∧ gi ld 11 (2 * s) ≤ 9) ∧ (0 ≤ gi ld 11 (2 * s + 1) ∧ gi ld 11 (2 * s + 1) ≤ 9) := h.2.2.2.2.2.2.2.1 s hs
theorem LdOK.ma {ld : SS} (h : LdOK ld) {m : Nat} (hm : (m : Int) < gi ld 2 12) : (1 ≤ gi ld 13 m ∧ gi ld 13 m ≤ 99) ∧ (1 ≤ gi ld 14 m ∧ gi ld 14 m ≤ 8) ∧ ∀ i : Nat, (i : Int) < gi ld 14 m → 1 ≤ gi ld 15 (8 * m + i) ∧ gi ld 15 (8 * m + i) ≤ 9 := h.2.2.2.2.2.2.2.2.1 m hm
/-- a loop that copies a row -/
theorem cp_loop (F : Nat → Int → SS → OO) (fin : SS → OO) (r r' n d0 s0 : Nat) (hr : r' ≠ r) (I : SS → Prop) (hI : ∀ σ k v, I σ → I (si σ r k v)) (hs : ∀ fu i σ, I σ → i < n → F (fu + 1) (i : Int) σ = F fu ((i + 1 : Nat) : Int) (si σ r (d0 + i) (gi σ r' (s0 + i)))) (hf : ∀ fu σ, I σ → F (fu + 1) (n : Int) σ = fin σ) :
    ∀ (m i fu : Nat) (σ : SS), i + m = n → m < fu → I σ → F fu (i : Int) σ = fin (sr σ r (fun j => if d0 + i ≤ j ∧ j < d0 + n then gi σ r' (s0 + (j - d0)) else gi σ r j)) := by
  intro m
  induction m with
  | zero =>
    intro i fu σ hi hfu h
    obtain ⟨fu, rfl⟩ : ∃ f, fu = f + 1 := ⟨fu - 1, by omega⟩
    obtain rfl : i = n := by omega
    rw [hf fu σ h]
    congr 1
    conv => lhs; rw [← sr_self σ r]
    congr 1
    funext j
    rw [if_neg (by omega)]
  | succ m ih =>
    intro i fu σ hi hfu h
    obtain ⟨fu, rfl⟩ : ∃ f, fu = f + 1 := ⟨fu - 1, by omega⟩
    rw [hs fu i σ h (by omega), ih (i + 1) fu _ (by omega) (by omega) (hI _ _ _ h), si_sr, sr_sr]
    congr 2
    funext j
    rw [gi_sr_ne _ _ _ hr, gi_sr_same]
    by_cases h1 : j = d0 + i
    · rw [if_neg (by omega), if_pos h1, if_pos (by omega)]
      congr 1 <;> omega
    · by_cases h2 : d0 + (i + 1) ≤ j ∧ j < d0 + n
      · rw [if_pos h2, if_pos (by omega)]
      · rw [if_neg h2, if_neg h1, if_neg (by omega)]
noncomputable def begP (ld : SS) (m : Nat) : QQ := (gi ld 13 m, 0, rowl (fun i => gi ld 15 (8 * m + i)) (gi ld 14 m).toNat)
theorem begP_ok {ld : SS} (h : LdOK ld) {m : Nat} (hm : (m : Int) < gi ld 2 12) : QOK (begP ld m) ∧ ¬ overP (begP ld m) := by
  obtain ⟨h1, h2, h3⟩ := h.ma hm
  unfold begP
  refine ⟨⟨by dsimp only; omega, by rw [rowl_len]; omega, by unfold rI; dsimp only; omega⟩, ?_⟩
  unfold overP
  dsimp only
  intro z
  rcases z with z | z
  · omega
  · have := congrArg List.length z
    rw [rowl_len] at this
    simp at this
    omega
theorem x_begin {ld σ : SS} (hok : LdOK ld) (hL : LC ld σ) {t a b m : Nat} (ht : 42 ≤ t) (hc : CPL ld a b m) {c : Int} (hcc : c = 100 * (a : Int) + 10 * (b : Int) + (m : Int)) : Wp (f_Ta_begin t c σ) fun _ τ => TC τ t a b m (begP ld m) ∧ EqP (PTk t) σ τ := by
  obtain ⟨q1, q2, q3, q4, q5, q6, q7⟩ := hc
  obtain ⟨h1, h2, h3⟩ := hok.ma q4
  have l12 : gi σ 2 12 = gi ld 2 12 := hL 2 12 (by omega) (by omega) (by omega)
  have hm : Int.tmod c 10 = m := by rw [tmn _ (by omega)]; omega
  have e13 : ∀ k, gi σ 13 k = gi ld 13 k := fun k => hL 13 k (by omega) (by omega) (by omega)
  have e14 : ∀ k, gi σ 14 k = gi ld 14 k := fun k => hL 14 k (by omega) (by omega) (by omega)
  have e15 : ∀ k, gi σ 15 k = gi ld 15 k := fun k => hL 15 k (by omega) (by omega) (by omega)
  unfold f_Ta_begin
  rw [ol_eq, hm]
  repeat (first | with_reducible refine wp_os ?_ | with_reducible refine wp_ol ?_ | (with_reducible refine wp_oc ?_ ?_; · (first | omega | (simp (disch := omega) only [gi_same, gi_ne_r, gi_ne_k, gi_sr_same, gi_sr_ne, gj_sj_same, gj_sj_ne_r, gj_sj_ne_k, gj_si, gi_sj, gj_sr, iwc, jwc, Int.toNat_natCast, tdn, tmn, b0, b1, yc0, yc1, l12]; try omega))) | (with_reducible refine wp_t ?_ ?_; · (first | omega | (simp (disch := omega) only [gi_same, gi_ne_r, gi_ne_k, gi_sr_same, gi_sr_ne, gj_sj_same, gj_sj_ne_r, gj_sj_ne_k, gj_si, gi_sj, gj_sr, iwc, jwc, Int.toNat_natCast, tdn, tmn, b0, b1, yc0, yc1, l12]; try omega))) | (with_reducible refine wp_f ?_ ?_; · (first | omega | (simp (disch := omega) only [gi_same, gi_ne_r, gi_ne_k, gi_sr_same, gi_sr_ne, gj_sj_same, gj_sj_ne_r, gj_sj_ne_k, gj_si, gi_sj, gj_sr, iwc, jwc, Int.toNat_natCast, tdn, tmn, b0, b1, yc0, yc1, l12]; try omega))) | with_reducible refine wp_eq (x_isMatter 2 _ _) ?_ | with_reducible refine wp_eq (x_within _ _ _ _) ?_)
  have n8 : cl 0 (gi ld 14 m) 8 = ((gi ld 14 m).toNat : Int) := by unfold cl; rw [if_neg (by omega), if_neg (by omega)]; omega
  have hn : (gi ld 14 m).toNat ≤ 8 := by omega
  have hk : gi (si (si (si (si σ t 3 c) t 4 (gi ld 13 m)) t 5 0) t 6 ((gi ld 14 m).toNat : Int)) t 6 = ((gi ld 14 m).toNat : Int) := gi_same _ _ _ _
  have z := cp_loop (l_Ta_begin_61 t m) (fun τ => some (0, τ)) (t + 2) 15 (gi ld 14 m).toNat 0 (8 * m) (by omega) (fun τ => gi τ t 6 = ((gi ld 14 m).toNat : Int)) (fun τ k v hI => by rw [gi_ne_r _ _ _ _ (by omega)]; exact hI) (fun fu i τ hI hi => by
      rw [l_Ta_begin_61, hI, if_neg (by omega), show (iw ((iw ((m : Int) * 8)) + (i : Int))) = ((8 * m + i : Nat) : Int) by simp (disch := omega) only [iwc]; omega, oc_pos (by omega), oc_pos (by omega), os_eq, iwc (by omega) (by omega), Int.toNat_natCast, Int.toNat_natCast, Nat.zero_add]
      congr 1) (fun fu τ hI => by rw [l_Ta_begin_61, hI, if_pos (by omega)]) (gi ld 14 m).toNat 0 FU _ (by omega) (by unfold FU; omega) hk
  have e : si (si (si (si σ t 3 c) t 4 (gi (si σ t 3 c) 13 ((m : Int)).toNat)) t 5 0) t 6 (cl 0 (gi (si (si (si σ t 3 c) t 4 (gi (si σ t 3 c) 13 ((m : Int)).toNat)) t 5 0) 14 ((m : Int)).toNat) 8) = si (si (si (si σ t 3 c) t 4 (gi ld 13 m)) t 5 0) t 6 ((gi ld 14 m).toNat : Int) := by
    simp (disch := omega) only [gi_same, gi_ne_r, gi_ne_k, gi_sr_same, gi_sr_ne, gj_sj_same, gj_sj_ne_r, gj_sj_ne_k, gj_si, gi_sj, gj_sr, iwc, jwc, Int.toNat_natCast, tdn, tmn, b0, b1, yc0, yc1, e13, e14, n8]
  rw [e]
  refine wp_eqe z ⟨⟨?_, ?_, ?_, ?_, ?_⟩, ?_⟩
  · simp (disch := omega) only [gi_same, gi_ne_r, gi_ne_k, gi_sr_same, gi_sr_ne, gj_sj_same, gj_sj_ne_r, gj_sj_ne_k, gj_si, gi_sj, gj_sr, iwc, jwc, Int.toNat_natCast, tdn, tmn, b0, b1, yc0, yc1, hcc]
  · simp (disch := omega) only [gi_same, gi_ne_r, gi_ne_k, gi_sr_same, gi_sr_ne, gj_sj_same, gj_sj_ne_r, gj_sj_ne_k, gj_si, gi_sj, gj_sr, iwc, jwc, Int.toNat_natCast, tdn, tmn, b0, b1, yc0, yc1, begP]
  · simp (disch := omega) only [gi_same, gi_ne_r, gi_ne_k, gi_sr_same, gi_sr_ne, gj_sj_same, gj_sj_ne_r, gj_sj_ne_k, gj_si, gi_sj, gj_sr, iwc, jwc, Int.toNat_natCast, tdn, tmn, b0, b1, yc0, yc1, begP]
  · simp (disch := omega) only [gi_same, gi_ne_r, gi_ne_k, gi_sr_same, gi_sr_ne, gj_sj_same, gj_sj_ne_r, gj_sj_ne_k, gj_si, gi_sj, gj_sr, iwc, jwc, Int.toNat_natCast, tdn, tmn, b0, b1, yc0, yc1, begP, rowl_len]
  · unfold begP
    dsimp only
    rw [rowl_len, gi_sr_s]
    refine rowl_congr fun i hi => ?_
    rw [if_pos (by omega)]
    simp (disch := omega) only [gi_same, gi_ne_r, gi_ne_k, gi_sr_same, gi_sr_ne, gj_sj_same, gj_sj_ne_r, gj_sj_ne_k, gj_si, gi_sj, gj_sr, iwc, jwc, Int.toNat_natCast, tdn, tmn, b0, b1, yc0, yc1, e15]
    congr 1 <;> omega
  · repeat (first | exact EqP.rf _ _ | (refine EqP.si ?_ _ _ _ (by omega)) | (refine EqP.sj ?_ _ _ _ (by omega)) | (refine EqP.sr ?_ _ _ (fun k => by omega)))
theorem x_say {ld σ : SS} (hok : LdOK ld) (hL : LC ld σ) {t u : Nat} {tp : Nat → Int} {a b m : Nat} {q : QQ} (ht : 42 ≤ t) (hu : u ≠ t ∧ u ≠ t + 1 ∧ u ≠ t + 2 ∧ u ≠ 18 ∧ u ≠ 21) (hr : rN u = 12) (hr1 : rN (t + 1) = 6) (htp : ∀ j, j < 12 → gi σ u j = tp j) (hc : CPL ld a b m) (hT : TC σ t a b m q) (hq : QOK q) (ho : ¬ overP q) : Wp (f_Ta_say t u σ) fun _ τ => TC τ t a b m (sayP ld tp a b q) ∧ EqP (PTk t) σ τ := by
  obtain ⟨h, w, p⟩ := q
  cases p with
  | nil => exact absurd (Or.inr rfl) ho
  | cons g p =>
  obtain ⟨q1, q2, q3, q4, q5, q6, q7⟩ := hc
  obtain ⟨w1, w2, w3⟩ := hq
  simp only [List.length_cons] at w2
  obtain ⟨c1, c2, c3, c4, c5⟩ := id hT
  unfold f_Ta_say
  rw [c3]
  by_cases hw : Int.tmod w 2 = 0
  · refine wp_t hw ?_
    rw [c1, tdn _ (by omega), show (100 * (a : Int) + 10 * (b : Int) + (m : Int)) / 100 = (a : Int) by omega]
    exact x_say29 hL hok.fok ht hu hr hr1 htp hT w1 (by omega) a q5 q1 (by rw [if_pos hw])
  · refine wp_f hw ?_
    rw [c1, tdn _ (by omega), tmn _ (by omega), show (100 * (a : Int) + 10 * (b : Int) + (m : Int)) / 10 % 10 = (b : Int) by omega]
    exact x_say29 hL hok.fok ht hu hr hr1 htp hT w1 (by omega) b q6 q2 (by rw [if_neg hw])
theorem x_sayOnWay {ld σ : SS} (hok : LdOK ld) (hL : LC ld σ) {t u : Nat} {tp : Nat → Int} {a b m : Nat} {q : QQ} (ht : 42 ≤ t) (hu : u ≠ t ∧ u ≠ t + 1 ∧ u ≠ t + 2 ∧ u ≠ 18 ∧ u ≠ 21) (hr : rN u = 12) (hr1 : rN (t + 1) = 6) (htp : ∀ j, j < 12 → gi σ u j = tp j) (hc : CPL ld a b m) (hT : TC σ t a b m q) (hq : QOK q) (ho : ¬ overP q) {y e : Nat} (hy : (y : Int) < gi ld 2 4) (he : (e : Int) < gi ld 2 0) (k : Int) : Wp (f_Ta_sayOnWay t u y k e σ) fun _ τ => TC τ t a b m (wayP ld tp a b y e k q) ∧ EqP (PTk t) σ τ := by
  unfold f_Ta_sayOnWay
  refine wp_call (x_say hok hL ht hu hr hr1 htp hc hT hq ho) ?_
  rintro _ s1 ⟨hT1, hE1⟩
  have hq1 : QOK (sayP ld tp a b q) := sayP_ok hq
  have hL1 : LC ld s1 := hL.of hE1 (fun r k z => by omega)
  unfold wayP
  generalize sayP ld tp a b q = q1 at hT1 hq1 ⊢
  obtain ⟨h1, w1, p1⟩ := q1
  obtain ⟨c1, c2, c3, c4, c5⟩ := hT1
  obtain ⟨v1, v2, v3⟩ := hq1
  dsimp only at c1 c2 c3 c4 c5 v1 v2 v3
  have l0 := hok.1
  have l4 := hok.2.1
  obtain ⟨wy1, wy2, wy3, wy4, wy5⟩ := hok.wy hy
  obtain ⟨pl1, pl2⟩ := hok.pl he
  have e0 : gi s1 2 0 = gi ld 2 0 := hL1 2 0 (by omega) (by omega) (by omega)
  have e4 : gi s1 2 4 = gi ld 2 4 := hL1 2 4 (by omega) (by omega) (by omega)
  have e8 : gi s1 8 y = gi ld 8 y := hL1 8 y (by omega) (by omega) (by omega)
  have e9 : gi s1 9 y = gi ld 9 y := hL1 9 y (by omega) (by omega) (by omega)
  have f4 : gi s1 4 e = gi ld 4 e := hL1 4 e (by omega) (by omega) (by omega)
  have f5 : gi s1 5 e = gi ld 5 e := hL1 5 e (by omega) (by omega) (by omega)
  repeat (first | with_reducible refine wp_os ?_ | with_reducible refine wp_ol ?_ | (with_reducible refine wp_oc ?_ ?_; · (first | omega | (simp (disch := omega) only [gi_same, gi_ne_r, gi_ne_k, gi_sr_same, gi_sr_ne, gj_sj_same, gj_sj_ne_r, gj_sj_ne_k, gj_si, gi_sj, gj_sr, iwc, jwc, Int.toNat_natCast, tdn, tmn, b0, b1, yc0, yc1, e0, e4]; try omega))) | (with_reducible refine wp_t ?_ ?_; · (first | omega | (simp (disch := omega) only [gi_same, gi_ne_r, gi_ne_k, gi_sr_same, gi_sr_ne, gj_sj_same, gj_sj_ne_r, gj_sj_ne_k, gj_si, gi_sj, gj_sr, iwc, jwc, Int.toNat_natCast, tdn, tmn, b0, b1, yc0, yc1, e0, e4]; try omega))) | (with_reducible refine wp_f ?_ ?_; · (first | omega | (simp (disch := omega) only [gi_same, gi_ne_r, gi_ne_k, gi_sr_same, gi_sr_ne, gj_sj_same, gj_sj_ne_r, gj_sj_ne_k, gj_si, gi_sj, gj_sr, iwc, jwc, Int.toNat_natCast, tdn, tmn, b0, b1, yc0, yc1, e0, e4]; try omega))) | with_reducible refine wp_eq (x_isWay 2 _ _) ?_ | with_reducible refine wp_eq (x_isPlace 2 _ _) ?_ | with_reducible refine wp_eq (x_within _ _ _ _) ?_)
  have hs : cl 0 (iw (gi s1 t 4 + gi s1 9 ((y : Int)).toNat)) 99 = cl 0 (h1 + gi ld 9 y) 99 := by
    simp (disch := omega) only [gi_same, gi_ne_r, gi_ne_k, gi_sr_same, gi_sr_ne, gj_sj_same, gj_sj_ne_r, gj_sj_ne_k, gj_si, gi_sj, gj_sr, iwc, jwc, Int.toNat_natCast, tdn, tmn, b0, b1, yc0, yc1, c2, e9]
  rw [hs]
  have hcl := cl_99 (h1 + gi ld 9 y)
  by_cases hk : gi ld 8 y ≤ k
  · rw [if_pos hk]
    repeat (first | with_reducible refine wp_os ?_ | with_reducible refine wp_ol ?_ | (with_reducible refine wp_oc ?_ ?_; · (first | omega | (simp (disch := omega) only [gi_same, gi_ne_r, gi_ne_k, gi_sr_same, gi_sr_ne, gj_sj_same, gj_sj_ne_r, gj_sj_ne_k, gj_si, gi_sj, gj_sr, iwc, jwc, Int.toNat_natCast, tdn, tmn, b0, b1, yc0, yc1, e8, f5, c4]; try omega))) | (with_reducible refine wp_t ?_ ?_; · (first | omega | (simp (disch := omega) only [gi_same, gi_ne_r, gi_ne_k, gi_sr_same, gi_sr_ne, gj_sj_same, gj_sj_ne_r, gj_sj_ne_k, gj_si, gi_sj, gj_sr, iwc, jwc, Int.toNat_natCast, tdn, tmn, b0, b1, yc0, yc1, e8, f5, c4]; try omega))) | (with_reducible refine wp_f ?_ ?_; · (first | omega | (simp (disch := omega) only [gi_same, gi_ne_r, gi_ne_k, gi_sr_same, gi_sr_ne, gj_sj_same, gj_sj_ne_r, gj_sj_ne_k, gj_si, gi_sj, gj_sr, iwc, jwc, Int.toNat_natCast, tdn, tmn, b0, b1, yc0, yc1, e8, f5, c4]; try omega))))
    have hz : zmax 0 (iw (gi (si s1 t 4 (cl 0 (h1 + gi ld 9 y) 99)) t 4 - gi (si s1 t 4 (cl 0 (h1 + gi ld 9 y) 99)) 4 ((e : Int)).toNat)) = zmax 0 (cl 0 (h1 + gi ld 9 y) 99 - gi ld 4 e) := by
      simp (disch := omega) only [gi_same, gi_ne_r, gi_ne_k, gi_sr_same, gi_sr_ne, gj_sj_same, gj_sj_ne_r, gj_sj_ne_k, gj_si, gi_sj, gj_sr, iwc, jwc, Int.toNat_natCast, tdn, tmn, b0, b1, yc0, yc1, f4]
    rw [hz]
    unfold calmP sightP
    dsimp only
    by_cases h5 : gi ld 5 e ≤ 0
    · refine wp_t (by simp (disch := omega) only [gi_same, gi_ne_r, gi_ne_k, gi_sr_same, gi_sr_ne, gj_sj_same, gj_sj_ne_r, gj_sj_ne_k, gj_si, gi_sj, gj_sr, iwc, jwc, Int.toNat_natCast, tdn, tmn, b0, b1, yc0, yc1, f5]; omega) (wp_some ⟨⟨?_, ?_, ?_, ?_, ?_⟩, ?_⟩)
      · simp (disch := omega) only [gi_same, gi_ne_r, gi_ne_k, gi_sr_same, gi_sr_ne, gj_sj_same, gj_sj_ne_r, gj_sj_ne_k, gj_si, gi_sj, gj_sr, iwc, jwc, Int.toNat_natCast, tdn, tmn, b0, b1, yc0, yc1, c1]
      · simp (disch := omega) only [gi_same, gi_ne_r, gi_ne_k, gi_sr_same, gi_sr_ne, gj_sj_same, gj_sj_ne_r, gj_sj_ne_k, gj_si, gi_sj, gj_sr, iwc, jwc, Int.toNat_natCast, tdn, tmn, b0, b1, yc0, yc1]
      · simp (disch := omega) only [gi_same, gi_ne_r, gi_ne_k, gi_sr_same, gi_sr_ne, gj_sj_same, gj_sj_ne_r, gj_sj_ne_k, gj_si, gi_sj, gj_sr, iwc, jwc, Int.toNat_natCast, tdn, tmn, b0, b1, yc0, yc1, c3]
      · simp (disch := omega) only [gi_same, gi_ne_r, gi_ne_k, gi_sr_same, gi_sr_ne, gj_sj_same, gj_sj_ne_r, gj_sj_ne_k, gj_si, gi_sj, gj_sr, iwc, jwc, Int.toNat_natCast, tdn, tmn, b0, b1, yc0, yc1, c4]; rw [if_pos (Or.inl h5)]
      · rw [if_pos (Or.inl h5)]; conv => rhs; rw [← c5]
        refine rowl_congr fun i _ => ?_
        simp (disch := omega) only [gi_same, gi_ne_r, gi_ne_k, gi_sr_same, gi_sr_ne, gj_sj_same, gj_sj_ne_r, gj_sj_ne_k, gj_si, gi_sj, gj_sr, iwc, jwc, Int.toNat_natCast, tdn, tmn, b0, b1, yc0, yc1]
      · refine EqP.tr hE1 ?_
        repeat (first | exact EqP.rf _ _ | (refine EqP.si ?_ _ _ _ (by omega)) | (refine EqP.sj ?_ _ _ _ (by omega)) | (refine EqP.sr ?_ _ _ (fun k => by omega)))
    · refine wp_f (by simp (disch := omega) only [gi_same, gi_ne_r, gi_ne_k, gi_sr_same, gi_sr_ne, gj_sj_same, gj_sj_ne_r, gj_sj_ne_k, gj_si, gi_sj, gj_sr, iwc, jwc, Int.toNat_natCast, tdn, tmn, b0, b1, yc0, yc1, f5]; omega) ?_
      repeat (first | with_reducible refine wp_os ?_ | with_reducible refine wp_ol ?_ | (with_reducible refine wp_oc ?_ ?_; · (first | omega | (simp (disch := omega) only [gi_same, gi_ne_r, gi_ne_k, gi_sr_same, gi_sr_ne, gj_sj_same, gj_sj_ne_r, gj_sj_ne_k, gj_si, gi_sj, gj_sr, iwc, jwc, Int.toNat_natCast, tdn, tmn, b0, b1, yc0, yc1, c4]; try omega))) | (with_reducible refine wp_t ?_ ?_; · (first | omega | (simp (disch := omega) only [gi_same, gi_ne_r, gi_ne_k, gi_sr_same, gi_sr_ne, gj_sj_same, gj_sj_ne_r, gj_sj_ne_k, gj_si, gi_sj, gj_sr, iwc, jwc, Int.toNat_natCast, tdn, tmn, b0, b1, yc0, yc1, c4]; try omega))) | (with_reducible refine wp_f ?_ ?_; · (first | omega | (simp (disch := omega) only [gi_same, gi_ne_r, gi_ne_k, gi_sr_same, gi_sr_ne, gj_sj_same, gj_sj_ne_r, gj_sj_ne_k, gj_si, gi_sj, gj_sr, iwc, jwc, Int.toNat_natCast, tdn, tmn, b0, b1, yc0, yc1, c4]; try omega))))
      by_cases h20 : 20 ≤ p1.length
      · refine wp_t (by simp (disch := omega) only [gi_same, gi_ne_r, gi_ne_k, gi_sr_same, gi_sr_ne, gj_sj_same, gj_sj_ne_r, gj_sj_ne_k, gj_si, gi_sj, gj_sr, iwc, jwc, Int.toNat_natCast, tdn, tmn, b0, b1, yc0, yc1, c4]; omega) (wp_some ⟨⟨?_, ?_, ?_, ?_, ?_⟩, ?_⟩)
        · simp (disch := omega) only [gi_same, gi_ne_r, gi_ne_k, gi_sr_same, gi_sr_ne, gj_sj_same, gj_sj_ne_r, gj_sj_ne_k, gj_si, gi_sj, gj_sr, iwc, jwc, Int.toNat_natCast, tdn, tmn, b0, b1, yc0, yc1, c1]
        · simp (disch := omega) only [gi_same, gi_ne_r, gi_ne_k, gi_sr_same, gi_sr_ne, gj_sj_same, gj_sj_ne_r, gj_sj_ne_k, gj_si, gi_sj, gj_sr, iwc, jwc, Int.toNat_natCast, tdn, tmn, b0, b1, yc0, yc1]
        · simp (disch := omega) only [gi_same, gi_ne_r, gi_ne_k, gi_sr_same, gi_sr_ne, gj_sj_same, gj_sj_ne_r, gj_sj_ne_k, gj_si, gi_sj, gj_sr, iwc, jwc, Int.toNat_natCast, tdn, tmn, b0, b1, yc0, yc1, c3]
        · simp (disch := omega) only [gi_same, gi_ne_r, gi_ne_k, gi_sr_same, gi_sr_ne, gj_sj_same, gj_sj_ne_r, gj_sj_ne_k, gj_si, gi_sj, gj_sr, iwc, jwc, Int.toNat_natCast, tdn, tmn, b0, b1, yc0, yc1, c4]; rw [if_pos (Or.inr h20)]
        · rw [if_pos (Or.inr h20)]; conv => rhs; rw [← c5]
          refine rowl_congr fun i _ => ?_
          simp (disch := omega) only [gi_same, gi_ne_r, gi_ne_k, gi_sr_same, gi_sr_ne, gj_sj_same, gj_sj_ne_r, gj_sj_ne_k, gj_si, gi_sj, gj_sr, iwc, jwc, Int.toNat_natCast, tdn, tmn, b0, b1, yc0, yc1]
        · refine EqP.tr hE1 ?_
          repeat (first | exact EqP.rf _ _ | (refine EqP.si ?_ _ _ _ (by omega)) | (refine EqP.sj ?_ _ _ _ (by omega)) | (refine EqP.sr ?_ _ _ (fun k => by omega)))
      · refine wp_f (by simp (disch := omega) only [gi_same, gi_ne_r, gi_ne_k, gi_sr_same, gi_sr_ne, gj_sj_same, gj_sj_ne_r, gj_sj_ne_k, gj_si, gi_sj, gj_sr, iwc, jwc, Int.toNat_natCast, tdn, tmn, b0, b1, yc0, yc1, c4]; omega) ?_
        repeat (first | with_reducible refine wp_os ?_ | with_reducible refine wp_ol ?_ | (with_reducible refine wp_oc ?_ ?_; · (first | omega | (simp (disch := omega) only [gi_same, gi_ne_r, gi_ne_k, gi_sr_same, gi_sr_ne, gj_sj_same, gj_sj_ne_r, gj_sj_ne_k, gj_si, gi_sj, gj_sr, iwc, jwc, Int.toNat_natCast, tdn, tmn, b0, b1, yc0, yc1, c4]; try omega))) | (with_reducible refine wp_t ?_ ?_; · (first | omega | (simp (disch := omega) only [gi_same, gi_ne_r, gi_ne_k, gi_sr_same, gi_sr_ne, gj_sj_same, gj_sj_ne_r, gj_sj_ne_k, gj_si, gi_sj, gj_sr, iwc, jwc, Int.toNat_natCast, tdn, tmn, b0, b1, yc0, yc1, c4]; try omega))) | (with_reducible refine wp_f ?_ ?_; · (first | omega | (simp (disch := omega) only [gi_same, gi_ne_r, gi_ne_k, gi_sr_same, gi_sr_ne, gj_sj_same, gj_sj_ne_r, gj_sj_ne_k, gj_si, gi_sj, gj_sr, iwc, jwc, Int.toNat_natCast, tdn, tmn, b0, b1, yc0, yc1, c4]; try omega))))
        refine wp_some ⟨⟨?_, ?_, ?_, ?_, ?_⟩, ?_⟩
        · simp (disch := omega) only [gi_same, gi_ne_r, gi_ne_k, gi_sr_same, gi_sr_ne, gj_sj_same, gj_sj_ne_r, gj_sj_ne_k, gj_si, gi_sj, gj_sr, iwc, jwc, Int.toNat_natCast, tdn, tmn, b0, b1, yc0, yc1, c1]
        · simp (disch := omega) only [gi_same, gi_ne_r, gi_ne_k, gi_sr_same, gi_sr_ne, gj_sj_same, gj_sj_ne_r, gj_sj_ne_k, gj_si, gi_sj, gj_sr, iwc, jwc, Int.toNat_natCast, tdn, tmn, b0, b1, yc0, yc1]
        · simp (disch := omega) only [gi_same, gi_ne_r, gi_ne_k, gi_sr_same, gi_sr_ne, gj_sj_same, gj_sj_ne_r, gj_sj_ne_k, gj_si, gi_sj, gj_sr, iwc, jwc, Int.toNat_natCast, tdn, tmn, b0, b1, yc0, yc1, c3]
        · rw [if_neg (by omega), List.length_cons]; simp (disch := omega) only [gi_same, gi_ne_r, gi_ne_k, gi_sr_same, gi_sr_ne, gj_sj_same, gj_sj_ne_r, gj_sj_ne_k, gj_si, gi_sj, gj_sr, iwc, jwc, Int.toNat_natCast, tdn, tmn, b0, b1, yc0, yc1, c4]
          omega
        · rw [if_neg (by omega), List.length_cons, rowl_s]
          simp (disch := omega) only [gi_same, gi_ne_r, gi_ne_k, gi_sr_same, gi_sr_ne, gj_sj_same, gj_sj_ne_r, gj_sj_ne_k, gj_si, gi_sj, gj_sr, iwc, jwc, Int.toNat_natCast, tdn, tmn, b0, b1, yc0, yc1, c4, f5]
          congr 1
          conv => rhs; rw [← c5]
          refine rowl_congr fun i _ => ?_
          simp (disch := omega) only [gi_same, gi_ne_r, gi_ne_k, gi_sr_same, gi_sr_ne, gj_sj_same, gj_sj_ne_r, gj_sj_ne_k, gj_si, gi_sj, gj_sr, iwc, jwc, Int.toNat_natCast, tdn, tmn, b0, b1, yc0, yc1]
        · refine EqP.tr hE1 ?_
          repeat (first | exact EqP.rf _ _ | (refine EqP.si ?_ _ _ _ (by omega)) | (refine EqP.sj ?_ _ _ _ (by omega)) | (refine EqP.sr ?_ _ _ (fun k => by omega)))
  · rw [if_neg hk]
    repeat (first | with_reducible refine wp_os ?_ | with_reducible refine wp_ol ?_ | (with_reducible refine wp_oc ?_ ?_; · (first | omega | (simp (disch := omega) only [gi_same, gi_ne_r, gi_ne_k, gi_sr_same, gi_sr_ne, gj_sj_same, gj_sj_ne_r, gj_sj_ne_k, gj_si, gi_sj, gj_sr, iwc, jwc, Int.toNat_natCast, tdn, tmn, b0, b1, yc0, yc1, e8]; try omega))) | (with_reducible refine wp_t ?_ ?_; · (first | omega | (simp (disch := omega) only [gi_same, gi_ne_r, gi_ne_k, gi_sr_same, gi_sr_ne, gj_sj_same, gj_sj_ne_r, gj_sj_ne_k, gj_si, gi_sj, gj_sr, iwc, jwc, Int.toNat_natCast, tdn, tmn, b0, b1, yc0, yc1, e8]; try omega))) | (with_reducible refine wp_f ?_ ?_; · (first | omega | (simp (disch := omega) only [gi_same, gi_ne_r, gi_ne_k, gi_sr_same, gi_sr_ne, gj_sj_same, gj_sj_ne_r, gj_sj_ne_k, gj_si, gi_sj, gj_sr, iwc, jwc, Int.toNat_natCast, tdn, tmn, b0, b1, yc0, yc1, e8]; try omega))))
    unfold sightP
    refine wp_some ⟨⟨?_, ?_, ?_, ?_, ?_⟩, ?_⟩
    · simp (disch := omega) only [gi_same, gi_ne_r, gi_ne_k, gi_sr_same, gi_sr_ne, gj_sj_same, gj_sj_ne_r, gj_sj_ne_k, gj_si, gi_sj, gj_sr, iwc, jwc, Int.toNat_natCast, tdn, tmn, b0, b1, yc0, yc1, c1]
    · simp (disch := omega) only [gi_same, gi_ne_r, gi_ne_k, gi_sr_same, gi_sr_ne, gj_sj_same, gj_sj_ne_r, gj_sj_ne_k, gj_si, gi_sj, gj_sr, iwc, jwc, Int.toNat_natCast, tdn, tmn, b0, b1, yc0, yc1]
    · simp (disch := omega) only [gi_same, gi_ne_r, gi_ne_k, gi_sr_same, gi_sr_ne, gj_sj_same, gj_sj_ne_r, gj_sj_ne_k, gj_si, gi_sj, gj_sr, iwc, jwc, Int.toNat_natCast, tdn, tmn, b0, b1, yc0, yc1, c3]
    · simp (disch := omega) only [gi_same, gi_ne_r, gi_ne_k, gi_sr_same, gi_sr_ne, gj_sj_same, gj_sj_ne_r, gj_sj_ne_k, gj_si, gi_sj, gj_sr, iwc, jwc, Int.toNat_natCast, tdn, tmn, b0, b1, yc0, yc1, c4]
    · conv => rhs; rw [← c5]
      refine rowl_congr fun i _ => ?_
      simp (disch := omega) only [gi_same, gi_ne_r, gi_ne_k, gi_sr_same, gi_sr_ne, gj_sj_same, gj_sj_ne_r, gj_sj_ne_k, gj_si, gi_sj, gj_sr, iwc, jwc, Int.toNat_natCast, tdn, tmn, b0, b1, yc0, yc1]
    · refine EqP.tr hE1 ?_
      repeat (first | exact EqP.rf _ _ | (refine EqP.si ?_ _ _ _ (by omega)) | (refine EqP.sj ?_ _ _ _ (by omega)) | (refine EqP.sr ?_ _ _ (fun k => by omega)))
