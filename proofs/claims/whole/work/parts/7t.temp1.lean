/-! other tempers: what a quarrel asks of them -/
def askF (ld : SS) (r : Nat) (i : Int) : Prop := ∃ j : Nat, (j : Int) < gi ld r 2 ∧ gi ld (r + 1) j = -1 - i
theorem rpn_ask (f g : Nat → Int) : ∀ (cs st : List Int), (∀ c ∈ cs, -6 ≤ c → c < 0 → f (-1 - c).toNat = g (-1 - c).toNat) → rpn cs f st = rpn cs g st := by
  intro cs
  induction cs with
  | nil => intro st _; rfl
  | cons c cs ih =>
    intro st h
    rw [rpn_cons, rpn_cons]
    have e : rpS c f st = rpS c g st := by
      unfold rpS
      by_cases h6 : -6 ≤ c
      · rw [if_pos h6, if_pos h6]
        by_cases h0 : 0 ≤ c
        · rw [if_pos h0, if_pos h0]
        · rw [if_neg h0, if_neg h0, h c List.mem_cons_self h6 (by omega)]
      · rw [if_neg h6, if_neg h6]
    rw [e]
    cases rpS c g st with
    | none => rfl
    | some st2 => exact ih st2 (fun x hx => h x (List.mem_cons_of_mem _ hx))
theorem fm_ask {ld : SS} {r : Nat} {un : Int} {f g : Nat → Int} (h : ∀ i : Nat, i < 6 → askF ld r i → f i = g i) : fmF ld r un f = fmF ld r un g := by
  unfold fmF
  by_cases h0 : gi ld r 2 = 0
  · rw [if_pos h0, if_pos h0]
  · rw [if_neg h0, if_neg h0]
    unfold evS
    rw [rpn_ask f g (stL ld r) [] (fun c hc h6 hn => ?_)]
    refine h _ (by omega) ?_
    unfold stL at hc
    rw [List.mem_map] at hc
    obtain ⟨j, hj, e⟩ := hc
    rw [List.mem_range] at hj
    exact ⟨j, by omega, by rw [e]; omega⟩
def askB (ld : SS) (i : Int) : Prop := askF ld 16 i ∨ askF ld 19 i
theorem sayP_ask {ld : SS} {tp tq : Nat → Int} {a b : Nat} (h2 : askB ld 2 → tp (2 * a) = tq (2 * a) ∧ tp (2 * b) = tq (2 * b)) (h3 : askB ld 3 → tp (2 * a + 1) = tq (2 * a + 1) ∧ tp (2 * b + 1) = tq (2 * b + 1)) (q : QQ) : sayP ld tp a b q = sayP ld tq a b q := by
  obtain ⟨h, w, p⟩ := q
  cases p with
  | nil => rfl
  | cons g p =>
    rw [sayP_cons, sayP_cons]
    have key : ∀ r, (r = 16 ∨ r = 19) → ∀ un, fmF ld r un (knS tp a b h w g p) = fmF ld r un (knS tq a b h w g p) := by
      intro r hr un
      refine fm_ask (fun i hi ha => ?_)
      have hB : askB ld i := by
        rcases hr with rfl | rfl
        · exact Or.inl ha
        · exact Or.inr ha
      have h6 : i = 0 ∨ i = 1 ∨ i = 2 ∨ i = 3 ∨ i = 4 ∨ i = 5 := by omega
      rcases h6 with rfl | rfl | rfl | rfl | rfl | rfl
      · rfl
      · rfl
      · have := h2 hB
        show tp (2 * (if Int.tmod w 2 = 0 then a else b)) = tq (2 * (if Int.tmod w 2 = 0 then a else b))
        by_cases hw : Int.tmod w 2 = 0
        · rw [if_pos hw]; exact this.1
        · rw [if_neg hw]; exact this.2
      · have := h3 hB
        show tp (2 * (if Int.tmod w 2 = 0 then a else b) + 1) = tq (2 * (if Int.tmod w 2 = 0 then a else b) + 1)
        by_cases hw : Int.tmod w 2 = 0
        · rw [if_pos hw]; exact this.1
        · rw [if_neg hw]; exact this.2
      · rfl
      · rfl
    rw [key 16 (Or.inl rfl), key 19 (Or.inr rfl)]
theorem opn_ask {ld : SS} {tp tq : Nat → Int} {a b : Nat} (h2 : askB ld 2 → tp (2 * a) = tq (2 * a) ∧ tp (2 * b) = tq (2 * b)) (h3 : askB ld 3 → tp (2 * a + 1) = tq (2 * a + 1) ∧ tp (2 * b + 1) = tq (2 * b + 1)) : ∀ (n : Nat) (q : QQ), opn ld tp a b n q = opn ld tq a b n q := by
  intro n
  induction n with
  | zero => intro q; rfl
  | succ n ih =>
    intro q
    rw [opn, opn, sayP_ask h2 h3, ih]
theorem op_mi {ld : SS} (hok : LdOK ld) (tp : Nat → Int) {a b m : Nat} (hc : CPL ld a b m) (n : Nat) (hn : 1 ≤ n ∧ n ≤ 60) : lenP (opn ld tp a b n (begP ld m)) = n ↔ olP ld tp a b m = n := by
  obtain ⟨bq1, bq2⟩ := begP_ok hok hc.2.2.2.1
  have hb : ¬ ovB (begP ld m) = true := fun z => bq2 (ovB_t.mp z)
  have hw0 : (begP ld m).2.1 = 0 := rfl
  obtain ⟨k1, k2, k3, k4⟩ := opn_wd (ld := ld) (tp := tp) (a := a) (b := b) n (begP ld m) (by omega) (by omega)
  have hadd := opn_add (ld := ld) (tp := tp) (a := a) (b := b) (200 - n) n (begP ld m)
  rw [show n + (200 - n) = 200 by omega] at hadd
  unfold olP
  rw [hadd]
  generalize opn ld tp a b n (begP ld m) = q at k1 k2 k3 k4 ⊢
  by_cases ho : ovB q = true
  · rw [opn_over _ ho]
  · have e : lenP q = -1 := if_neg ho
    have h60 := k3 ho
    obtain ⟨j1, j2, j3, j4⟩ := opn_wd (ld := ld) (tp := tp) (a := a) (b := b) (200 - n) q (by omega) (by omega)
    have j4' := j4 ho (by omega)
    rw [e]
    unfold lenP
    split
    · omega
    · omega
/-- the four tempers of two souls -/
def tqF (a b : Nat) (x0 x1 x2 x3 : Int) : Nat → Int := fun j => if j = 2 * a then x0 else if j = 2 * a + 1 then x1 else if j = 2 * b then x2 else x3
def gd (ld : SS) (a b m mi : Nat) (x0 x1 x2 x3 : Int) : Prop := olP ld (tqF a b x0 x1 x2 x3) a b m = mi
theorem tqF_at {a b : Nat} (hab : a ≠ b) (x0 x1 x2 x3 : Int) : tqF a b x0 x1 x2 x3 (2 * a) = x0 ∧ tqF a b x0 x1 x2 x3 (2 * a + 1) = x1 ∧ tqF a b x0 x1 x2 x3 (2 * b) = x2 ∧ tqF a b x0 x1 x2 x3 (2 * b + 1) = x3 := by
  unfold tqF
  refine ⟨by rw [if_pos rfl], by rw [if_neg (by omega), if_pos rfl], by rw [if_neg (by omega), if_neg (by omega), if_pos rfl], by rw [if_neg (by omega), if_neg (by omega), if_neg (by omega)]⟩
theorem gd_tp {ld : SS} {a b m mi : Nat} (hab : a ≠ b) {tp : Nat → Int} {x0 x1 x2 x3 : Int} (h0 : tp (2 * a) = x0) (h1 : tp (2 * a + 1) = x1) (h2 : tp (2 * b) = x2) (h3 : tp (2 * b + 1) = x3) : gd ld a b m mi x0 x1 x2 x3 ↔ olP ld tp a b m = mi := by
  obtain ⟨t0, t1, t2, t3⟩ := tqF_at hab x0 x1 x2 x3
  unfold gd olP
  rw [opn_ask (tp := tqF a b x0 x1 x2 x3) (tq := tp) (fun _ => ⟨by rw [t0, h0], by rw [t2, h2]⟩) (fun _ => ⟨by rw [t1, h1], by rw [t3, h3]⟩)]
theorem gd_ask {ld : SS} {a b m mi : Nat} (hab : a ≠ b) {x0 x1 x2 x3 y0 y1 y2 y3 : Int} (h2 : askB ld 2 → x0 = y0 ∧ x2 = y2) (h3 : askB ld 3 → x1 = y1 ∧ x3 = y3) : gd ld a b m mi x0 x1 x2 x3 ↔ gd ld a b m mi y0 y1 y2 y3 := by
  obtain ⟨t0, t1, t2, t3⟩ := tqF_at hab x0 x1 x2 x3
  obtain ⟨s0, s1, s2, s3⟩ := tqF_at hab y0 y1 y2 y3
  unfold gd olP
  rw [opn_ask (tp := tqF a b x0 x1 x2 x3) (tq := tqF a b y0 y1 y2 y3) (fun z => by rw [t0, t2, s0, s2]; exact h2 z) (fun z => by rw [t1, t3, s1, s3]; exact h3 z)]
/-- the class asks a formula -/
theorem x_asks {ld σ : SS} (hL : LC ld σ) (hok : LdOK ld) (r : Nat) (hr : r = 16 ∨ r = 19) (i : Nat) (hi : i < 6) : (askF ld r i → f_Fo_asksFor r (i : Int) σ = some (1, σ)) ∧ (¬ askF ld r i → f_Fo_asksFor r (i : Int) σ = some (0, σ)) := by
  have e2 : gi σ r 2 = gi ld r 2 := hL r 2 (by omega) (by omega) (by omega)
  have er : ∀ j, gi σ (r + 1) j = gi ld (r + 1) j := fun j => hL (r + 1) j (by omega) (by omega) (by omega)
  have hn : 0 ≤ gi ld r 2 ∧ gi ld r 2 ≤ 320 := by
    have hF : FOK ld r := by rcases hr with rfl | rfl; exact hok.fok.1; exact hok.fok.2
    rcases hF with h | ⟨h1, h2, _⟩
    · omega
    · have := h2.2.1
      rw [stL_len] at this
      omega
  have eiw : iw (-1 - (i : Int)) = -1 - (i : Int) := iwc (by omega) (by omega)
  have loop : ∀ (d c fu : Nat), (c : Int) + d = gi ld r 2 → d < fu → (∀ j : Nat, j < c → gi ld (r + 1) j ≠ -1 - (i : Int)) → ((∃ j : Nat, c ≤ j ∧ (j : Int) < gi ld r 2 ∧ gi ld (r + 1) j = -1 - (i : Int)) → l_Fo_asksFor_2 r (i : Int) fu (c : Int) σ = some (1, σ)) ∧ ((¬ ∃ j : Nat, c ≤ j ∧ (j : Int) < gi ld r 2 ∧ gi ld (r + 1) j = -1 - (i : Int)) → l_Fo_asksFor_2 r (i : Int) fu (c : Int) σ = some (0, σ)) := by
    intro d
    induction d with
    | zero =>
      intro c fu hc hfu _
      obtain ⟨fu, rfl⟩ : ∃ f, fu = f + 1 := ⟨fu - 1, by omega⟩
      rw [l_Fo_asksFor_2, if_pos (by omega)]
      exact ⟨fun ⟨j, h1, h2, _⟩ => by omega, fun _ => rfl⟩
    | succ d ih =>
      intro c fu hc hfu hno
      obtain ⟨fu, rfl⟩ : ∃ f, fu = f + 1 := ⟨fu - 1, by omega⟩
      rw [l_Fo_asksFor_2, if_neg (by omega), if_neg (by omega), oc_pos (by omega), Int.toNat_natCast, er, eiw]
      by_cases h : gi ld (r + 1) c = -1 - (i : Int)
      · rw [if_pos h]
        exact ⟨fun _ => rfl, fun z => absurd ⟨c, Nat.le_refl _, by omega, h⟩ z⟩
      · rw [if_neg h, iwc (by omega) (by omega), show (c : Int) + 1 = ((c + 1 : Nat) : Int) by omega]
        obtain ⟨i1, i2⟩ := ih (c + 1) fu (by omega) (by omega) (fun j hj => by
          by_cases e : j = c
          · rw [e]; exact h
          · exact hno j (by omega))
        refine ⟨fun ⟨j, h1, h2, h3⟩ => i1 ⟨j, ?_, h2, h3⟩, fun z => i2 (fun ⟨j, h1, h2, h3⟩ => z ⟨j, by omega, h2, h3⟩)⟩
        by_cases e : j = c
        · exact absurd (by rw [← e]; exact h3) h
        · omega
  obtain ⟨l1, l2⟩ := loop (gi ld r 2).toNat 0 FU (by omega) (by unfold FU; omega) (fun j hj => absurd hj (Nat.not_lt_zero _))
  unfold f_Fo_asksFor askF
  exact ⟨fun ⟨j, h1, h2⟩ => l1 ⟨j, Nat.zero_le _, h1, h2⟩, fun z => l2 (fun ⟨j, _, h1, h2⟩ => z ⟨j, h1, h2⟩)⟩
