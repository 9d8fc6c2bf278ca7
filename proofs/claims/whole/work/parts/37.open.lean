/-! quarrels in open country -/
def ovB (q : QQ) : Bool := (q.1 == 0) || q.2.2.isEmpty
theorem ovB_t {q : QQ} : ovB q = true ↔ overP q := by
  unfold ovB overP
  obtain ⟨h, w, p⟩ := q
  cases p <;> simp
theorem ovB_f {q : QQ} (h : ¬ ovB q = true) : ¬ overP q := fun z => h (ovB_t.mpr z)
theorem ov_len {q : QQ} (h : QOK q) : (q.1 ≤ 0 ∨ (q.2.2.length : Int) ≤ 0) ↔ overP q := by
  obtain ⟨⟨h1, h2⟩, h3, h4⟩ := h
  unfold overP
  rw [← List.length_eq_zero_iff]
  omega
theorem ov_len2 {q : QQ} : (q.1 = 0 ∨ (q.2.2.length : Int) = 0) ↔ overP q := by
  unfold overP
  rw [← List.length_eq_zero_iff]
  omega
noncomputable def opn (ld : SS) (tp : Nat → Int) (a b : Nat) : Nat → QQ → QQ
  | 0, q => q
  | n + 1, q => if ovB q then q else opn ld tp a b n (sayP ld tp a b q)
theorem opn_over {ld : SS} {tp : Nat → Int} {a b : Nat} (n : Nat) {q : QQ} (h : ovB q = true) : opn ld tp a b n q = q := by
  cases n with
  | zero => rfl
  | succ n => rw [opn, if_pos h]
theorem opn_ok {ld : SS} {tp : Nat → Int} {a b : Nat} : ∀ (n : Nat) {q : QQ}, QOK q → QOK (opn ld tp a b n q) := by
  intro n
  induction n with
  | zero => intro q h; exact h
  | succ n ih =>
    intro q h
    rw [opn]
    split
    · exact h
    · exact ih (sayP_ok h)
theorem sayP_w {ld : SS} {tp : Nat → Int} {a b : Nat} {q : QQ} (h : ¬ overP q) : (sayP ld tp a b q).2.1 = iw (q.2.1 + 1) := by
  obtain ⟨h1, w, p⟩ := q
  cases p with
  | nil => exact absurd (Or.inr rfl) h
  | cons g p => rfl
/-- how long it is, of n words at the most -/
noncomputable def lenP (q : QQ) : Int := if ovB q then q.2.1 else -1
theorem x_overC {σ : SS} {t a b m : Nat} {q : QQ} (hT : TC σ t a b m q) (hq : QOK q) : f_Ta_isOver t σ = some (if ovB q = true then 1 else 0, σ) := by
  rw [x_isOver]
  obtain ⟨c1, c2, c3, c4, c5⟩ := hT
  rw [c2, c4]
  by_cases h : ovB q = true
  · rw [if_pos h, if_pos ((ov_len hq).mpr (ovB_t.mp h))]
  · rw [if_neg h, if_neg (fun z => h (ovB_t.mpr ((ov_len hq).mp z)))]
theorem x_overM {σ : SS} {u a b m : Nat} (hu : u = 118 ∨ u = 119) {q : QQ} (hT : TM σ u a b m q) : f_Mo_isEnded u σ = some (if ovB q = true then 1 else 0, σ) := by
  rw [x_isEnded u (by rcases hu with rfl | rfl <;> rfl)]
  obtain ⟨c1, c2, c3, c4, c5, c6, c7⟩ := hT
  rw [c4, c6]
  by_cases h : ovB q = true
  · rw [if_pos h, if_pos (ov_len2.mpr (ovB_t.mp h))]
  · rw [if_neg h, if_neg (fun z => h (ovB_t.mpr (ov_len2.mp z)))]
theorem x_open_loop {ld : SS} (hok : LdOK ld) {t u : Nat} {tp : Nat → Int} {a b m : Nat} (ht : 42 ≤ t) (hu : u ≠ t ∧ u ≠ t + 1 ∧ u ≠ t + 2 ∧ u ≠ 18 ∧ u ≠ 21) (hr : rN u = 12) (hr1 : rN (t + 1) = 6) (hc : CPL ld a b m) (N : Nat) (hN : N ≤ 1000) :
    ∀ (n i fu : Nat) (σ : SS) (q : QQ), i + n = N → n < fu → LC ld σ → (∀ j, j < 12 → gi σ u j = tp j) → TC σ t a b m q → QOK q → Wp (l_Ta_talkOpenly_2 t u N fu i σ) fun r τ => TC τ t a b m (opn ld tp a b n q) ∧ r = lenP (opn ld tp a b n q) ∧ EqP (PTk t) σ τ := by
  have fin : ∀ (σ : SS) (q : QQ), TC σ t a b m q → QOK q → Wp (j_Ta_talkOpenly_25 t u σ) fun r τ => TC τ t a b m q ∧ r = lenP q ∧ EqP (PTk t) σ τ := by
    intro σ q hT hq
    unfold j_Ta_talkOpenly_25 lenP
    refine wp_eq (x_overC hT hq) ?_
    by_cases h : ovB q = true
    · rw [if_pos h, if_pos h]
      refine wp_f (by decide) (wp_some ⟨hT, hT.2.2.1, EqP.rf _ _⟩)
    · rw [if_neg h, if_neg h]
      exact wp_t rfl (wp_some ⟨hT, rfl, EqP.rf _ _⟩)
  intro n
  induction n with
  | zero =>
    intro i fu σ q hi hfu hL htp hT hq
    obtain ⟨fu, rfl⟩ : ∃ f, fu = f + 1 := ⟨fu - 1, by omega⟩
    rw [l_Ta_talkOpenly_2]
    refine wp_t (by omega) ?_
    exact fin σ q hT hq
  | succ n ih =>
    intro i fu σ q hi hfu hL htp hT hq
    obtain ⟨fu, rfl⟩ : ∃ f, fu = f + 1 := ⟨fu - 1, by omega⟩
    rw [l_Ta_talkOpenly_2]
    refine wp_f (by omega) ?_
    refine wp_eq (x_overC hT hq) ?_
    by_cases h : ovB q = true
    · rw [if_pos h, opn_over _ h]
      refine wp_f (by decide) ?_
      exact fin σ q hT hq
    · rw [if_neg h, opn, if_neg h]
      refine wp_t rfl ?_
      refine wp_call (x_say hok hL ht hu hr hr1 htp hc hT hq (ovB_f h)) ?_
      rintro _ s4 ⟨hT4, hE4⟩
      rw [show iw ((i : Int) + 1) = ((i + 1 : Nat) : Int) by rw [iwc (by omega) (by omega)]; omega]
      refine wp_mono (ih (i + 1) fu s4 _ (by omega) (by omega) (hL.of hE4 (fun r k z => by omega)) (fun j hj => by rw [hE4.i u j (by omega)]; exact htp j hj) hT4 (sayP_ok hq)) ?_
      rintro r τ ⟨k1, k2, k3⟩
      exact ⟨k1, k2, hE4.tr k3⟩
theorem x_talkOpenly {ld σ : SS} (hok : LdOK ld) (hL : LC ld σ) {t u : Nat} {tp : Nat → Int} {a b m : Nat} (ht : 42 ≤ t) (hu : u ≠ t ∧ u ≠ t + 1 ∧ u ≠ t + 2 ∧ u ≠ 18 ∧ u ≠ 21) (hr : rN u = 12) (hr1 : rN (t + 1) = 6) (htp : ∀ j, j < 12 → gi σ u j = tp j) (hc : CPL ld a b m) {q : QQ} (hT : TC σ t a b m q) (hq : QOK q) (N : Nat) (hN : N ≤ 1000) : Wp (f_Ta_talkOpenly t u N σ) fun r τ => TC τ t a b m (opn ld tp a b N q) ∧ r = lenP (opn ld tp a b N q) ∧ EqP (PTk t) σ τ :=
  x_open_loop hok ht hu hr hr1 hc N hN N 0 FU σ q (by omega) (by unfold FU; omega) hL htp hT hq
theorem mid_op (ld : SS) (q : QQ) : midM ld (-1) (-1) q = q := by
  unfold midM endM
  rw [if_neg (by omega), if_pos (by omega)]
theorem x_openM_loop {ld : SS} (hok : LdOK ld) {bk : Nat} {tp : Nat → Int} {a b m : Nat} (hc : CPL ld a b m) :
    ∀ (n fu : Nat) (σ : SS) (q : QQ), n ≤ 200 → n < fu → LM ld σ bk → TPM ld σ bk tp → TM σ 119 a b m q → QOK q → ¬ overP q → q.2.1 = 200 - (n : Int) → Wp (l_Mo_openLength_11 fu σ) fun r τ => r = lenP (opn ld tp a b n q) ∧ EqP (PMk 119) σ τ := by
  intro n
  induction n with
  | zero =>
    intro fu σ q _ hfu hM hTp hT hq ho hw
    obtain ⟨fu, rfl⟩ : ∃ f, fu = f + 1 := ⟨fu - 1, by omega⟩
    rw [l_Mo_openLength_11]
    refine wp_t (by rw [hT.2.2.2.2.1]; omega) (wp_some ⟨?_, EqP.rf _ _⟩)
    unfold lenP opn
    rw [if_neg (fun z => ho (ovB_t.mp z))]
  | succ n ih =>
    intro fu σ q hn hfu hM hTp hT hq ho hw
    obtain ⟨fu, rfl⟩ : ∃ f, fu = f + 1 := ⟨fu - 1, by omega⟩
    have l0 := hok.1
    have l4 := hok.2.1
    rw [l_Mo_openLength_11]
    refine wp_f (by rw [hT.2.2.2.2.1]; omega) ?_
    refine wp_call (x_sayM hok hM hTp (Or.inr rfl) hc hT hq ho (-1) (-1) (by omega) (by omega)) ?_
    rintro _ s4 ⟨hT4, hE4⟩
    rw [mid_op] at hT4
    have hw4 := sayP_w (ld := ld) (tp := tp) (a := a) (b := b) ho
    have hq4 := sayP_ok (ld := ld) (tp := tp) (a := a) (b := b) hq
    rw [opn, if_neg (fun z => ho (ovB_t.mp z))]
    generalize sayP ld tp a b q = q4 at hT4 hw4 hq4 ⊢
    rw [hw, iwc (by omega) (by omega)] at hw4
    refine wp_eq (x_overM (Or.inr rfl) hT4) ?_
    by_cases h : ovB q4 = true
    · rw [if_pos h, opn_over _ h]
      refine wp_f (by decide) (wp_some ⟨?_, hE4⟩)
      unfold lenP; rw [if_pos h]; exact hT4.2.2.2.2.1
    · rw [if_neg h]
      refine wp_t rfl ?_
      refine wp_mono (ih fu s4 q4 (by omega) (by omega) (hM.of hE4 (fun r k z => by omega)) (hTp.of hE4 (fun r k z => by omega)) hT4 hq4 (ovB_f h) (by omega)) ?_
      rintro r τ ⟨k1, k2⟩
      exact ⟨k1, hE4.tr k2⟩
theorem x_openLengthM {ld σ : SS} (hok : LdOK ld) {bk : Nat} (hM : LM ld σ bk) {tp : Nat → Int} (hTp : TPM ld σ bk tp) {a b m : Nat} (hc : CPL ld a b m) : Wp (f_Mo_openLength a b m σ) fun r τ => r = lenP (opn ld tp a b 200 (begP ld m)) ∧ EqP (PMk 119) σ τ := by
  unfold f_Mo_openLength
  refine wp_call (x_beginM hok hM (Or.inr rfl) hc) ?_
  rintro _ s2 ⟨hT2, hE2⟩
  obtain ⟨g1, g2⟩ := begP_ok hok hc.2.2.2.1
  refine wp_mono (x_openM_loop hok hc 200 FU s2 _ (by omega) (by unfold FU; omega) (hM.of hE2 (fun r k z => by omega)) (hTp.of hE2 (fun r k z => by omega)) hT2 g1 g2 (by unfold begP; dsimp only; omega)) ?_
  rintro r τ ⟨k1, k2⟩
  exact ⟨k1, hE2.tr k2⟩
theorem x_heatM_loop {ld : SS} (hok : LdOK ld) {bk : Nat} {tp : Nat → Int} {a b m : Nat} (hc : CPL ld a b m) (N : Nat) (hN : N ≤ 200) :
    ∀ (n fu : Nat) (σ : SS) (q : QQ), n ≤ N → n < fu → LM ld σ bk → TPM ld σ bk tp → TM σ 119 a b m q → QOK q → q.2.1 = (N : Int) - (n : Int) → Wp (l_Mo_heat_36 N fu σ) fun r τ => r = (opn ld tp a b n q).1 ∧ EqP (PMk 119) σ τ := by
  intro n
  induction n with
  | zero =>
    intro fu σ q _ hfu hM hTp hT hq hw
    obtain ⟨fu, rfl⟩ : ∃ f, fu = f + 1 := ⟨fu - 1, by omega⟩
    rw [l_Mo_heat_36]
    refine wp_t (by rw [hT.2.2.2.2.1]; omega) ?_
    unfold j_Mo_heat_71
    exact wp_some ⟨hT.2.2.2.1, EqP.rf _ _⟩
  | succ n ih =>
    intro fu σ q hn hfu hM hTp hT hq hw
    obtain ⟨fu, rfl⟩ : ∃ f, fu = f + 1 := ⟨fu - 1, by omega⟩
    have l0 := hok.1
    have l4 := hok.2.1
    rw [l_Mo_heat_36]
    refine wp_f (by rw [hT.2.2.2.2.1]; omega) ?_
    refine wp_eq (x_overM (Or.inr rfl) hT) ?_
    by_cases h : ovB q = true
    · rw [if_pos h, opn_over _ h]
      refine wp_f (by decide) ?_
      unfold j_Mo_heat_71
      exact wp_some ⟨hT.2.2.2.1, EqP.rf _ _⟩
    · rw [if_neg h]
      refine wp_t rfl ?_
      refine wp_call (x_sayM hok hM hTp (Or.inr rfl) hc hT hq (ovB_f h) (-1) (-1) (by omega) (by omega)) ?_
      rintro _ s4 ⟨hT4, hE4⟩
      rw [mid_op] at hT4
      have hw4 := sayP_w (ld := ld) (tp := tp) (a := a) (b := b) (ovB_f h)
      have hq4 := sayP_ok (ld := ld) (tp := tp) (a := a) (b := b) hq
      rw [opn, if_neg h]
      generalize sayP ld tp a b q = q4 at hT4 hw4 hq4 ⊢
      rw [hw, iwc (by omega) (by omega)] at hw4
      refine wp_mono (ih fu s4 q4 (by omega) (by omega) (hM.of hE4 (fun r k z => by omega)) (hTp.of hE4 (fun r k z => by omega)) hT4 hq4 (by omega)) ?_
      rintro r τ ⟨k1, k2⟩
      exact ⟨k1, hE4.tr k2⟩
/-- the loudest word -/
noncomputable def ldn (ld : SS) (tp : Nat → Int) (a b : Nat) : Nat → QQ → Int × Int → Int × Int
  | 0, _, r => r
  | n + 1, q, r => if ovB q then r else ldn ld tp a b n (sayP ld tp a b q) (if r.1 < (sayP ld tp a b q).1 then ((sayP ld tp a b q).1, (sayP ld tp a b q).2.1) else r)
theorem x_loud_loop {ld : SS} (hok : LdOK ld) {tp : Nat → Int} {a b m : Nat} (hc : CPL ld a b m) (wh : Int) :
    ∀ (n i fu : Nat) (σ : SS) (q : QQ) (l f : Int), i + n = 200 → n < fu → LC ld σ → (∀ j, j < 12 → gi σ 47 j = tp j) → TC σ 58 a b m q → QOK q → Wp (l_Qu_loud_57 wh fu l f i σ) fun r τ => r = (if wh = 0 then (ldn ld tp a b n q (l, f)).1 else (ldn ld tp a b n q (l, f)).2) ∧ EqP (PTk 58) σ τ := by
  have fin : ∀ (σ : SS) (l f : Int), Wp (j_Qu_loud_115 wh l f σ) fun r τ => r = (if wh = 0 then l else f) ∧ EqP (PTk 58) σ τ := by
    intro σ l f
    unfold j_Qu_loud_115
    by_cases h : wh = 0
    · exact wp_t h (wp_some ⟨(if_pos h).symm, EqP.rf _ _⟩)
    · exact wp_f h (wp_some ⟨(if_neg h).symm, EqP.rf _ _⟩)
  intro n
  induction n with
  | zero =>
    intro i fu σ q l f hi hfu hL htp hT hq
    obtain ⟨fu, rfl⟩ : ∃ f, fu = f + 1 := ⟨fu - 1, by omega⟩
    rw [l_Qu_loud_57]
    refine wp_t (by omega) ?_
    exact fin σ l f
  | succ n ih =>
    intro i fu σ q l f hi hfu hL htp hT hq
    obtain ⟨fu, rfl⟩ : ∃ f, fu = f + 1 := ⟨fu - 1, by omega⟩
    rw [l_Qu_loud_57]
    refine wp_f (by omega) ?_
    refine wp_eq (x_overC hT hq) ?_
    by_cases h : ovB q = true
    · rw [if_pos h, ldn, if_pos h]
      refine wp_f (by decide) ?_
      exact fin σ l f
    · rw [if_neg h, ldn, if_neg h]
      refine wp_t rfl ?_
      refine wp_call (x_say hok hL (by omega) (by omega) rfl rfl htp hc hT hq (ovB_f h)) ?_
      rintro _ s4 ⟨hT4, hE4⟩
      have hq4 := sayP_ok (ld := ld) (tp := tp) (a := a) (b := b) hq
      generalize sayP ld tp a b q = q4 at hT4 hq4 ⊢
      rw [show iw ((i : Int) + 1) = ((i + 1 : Nat) : Int) by rw [iwc (by omega) (by omega)]; omega]
      have step := fun l f => ih (i + 1) fu s4 q4 l f (by omega) (by omega) (hL.of hE4 (fun r k z => by omega)) (fun j hj => by rw [hE4.i 47 j (by omega)]; exact htp j hj) hT4 hq4
      by_cases hl : l < q4.1
      · rw [if_pos hl]
        refine wp_f (by rw [hT4.2.1]; omega) ?_
        rw [hT4.2.1, hT4.2.2.1]
        refine wp_ol (wp_ol ?_)
        refine wp_mono (step _ _) ?_
        rintro r τ ⟨k1, k2⟩
        exact ⟨k1, hE4.tr k2⟩
      · rw [if_neg hl]
        refine wp_t (by rw [hT4.2.1]; omega) ?_
        refine wp_mono (step _ _) ?_
        rintro r τ ⟨k1, k2⟩
        exact ⟨k1, hE4.tr k2⟩
theorem x_loudM_loop {ld : SS} (hok : LdOK ld) {bk : Nat} {tp : Nat → Int} {a b m : Nat} (hc : CPL ld a b m) (wh : Int) :
    ∀ (n fu : Nat) (σ : SS) (q : QQ) (l f : Int), n ≤ 200 → n < fu → LM ld σ bk → TPM ld σ bk tp → TM σ 119 a b m q → QOK q → q.2.1 = 200 - (n : Int) → (n = 200 → ¬ overP q) → Wp (l_Mo_loud_40 wh fu l f σ) fun r τ => r = (if wh = 0 then (ldn ld tp a b n q (l, f)).1 else (ldn ld tp a b n q (l, f)).2) ∧ EqP (PMk 119) σ τ := by
  have fin : ∀ (σ : SS) (l f : Int), Wp (j_Mo_loud_119 wh l f σ) fun r τ => r = (if wh = 0 then l else f) ∧ EqP (PMk 119) σ τ := by
    intro σ l f
    unfold j_Mo_loud_119
    by_cases h : wh = 0
    · exact wp_t h (wp_some ⟨(if_pos h).symm, EqP.rf _ _⟩)
    · exact wp_f h (wp_some ⟨(if_neg h).symm, EqP.rf _ _⟩)
  intro n
  induction n with
  | zero =>
    intro fu σ q l f hn hfu hM hTp hT hq hw h0
    obtain ⟨fu, rfl⟩ : ∃ f, fu = f + 1 := ⟨fu - 1, by omega⟩
    rw [l_Mo_loud_40]
    refine wp_t (by rw [hT.2.2.2.2.1]; omega) ?_
    exact fin σ l f
  | succ n ih =>
    intro fu σ q l f hn hfu hM hTp hT hq hw h0
    obtain ⟨fu, rfl⟩ : ∃ f, fu = f + 1 := ⟨fu - 1, by omega⟩
    have l0 := hok.1
    have l4 := hok.2.1
    rw [l_Mo_loud_40]
    refine wp_f (by rw [hT.2.2.2.2.1]; omega) ?_
    have step : ¬ ovB q = true → Wp (j_Mo_loud_73 (l_Mo_loud_40 wh fu) wh l f σ) fun r τ => r = (if wh = 0 then (ldn ld tp a b (n + 1) q (l, f)).1 else (ldn ld tp a b (n + 1) q (l, f)).2) ∧ EqP (PMk 119) σ τ := by
      intro h
      rw [ldn, if_neg h]
      unfold j_Mo_loud_73
      refine wp_call (x_sayM hok hM hTp (Or.inr rfl) hc hT hq (ovB_f h) (-1) (-1) (by omega) (by omega)) ?_
      rintro _ s4 ⟨hT4, hE4⟩
      rw [mid_op] at hT4
      have hw4 := sayP_w (ld := ld) (tp := tp) (a := a) (b := b) (ovB_f h)
      have hq4 := sayP_ok (ld := ld) (tp := tp) (a := a) (b := b) hq
      generalize sayP ld tp a b q = q4 at hT4 hw4 hq4 ⊢
      rw [hw, iwc (by omega) (by omega)] at hw4
      have st := fun l f => ih fu s4 q4 l f (by omega) (by omega) (hM.of hE4 (fun r k z => by omega)) (hTp.of hE4 (fun r k z => by omega)) hT4 hq4 (by omega) (by omega)
      by_cases hl : l < q4.1
      · rw [if_pos hl]
        refine wp_t (by rw [hT4.2.2.2.1]; omega) ?_
        rw [hT4.2.2.2.1, hT4.2.2.2.2.1]
        refine wp_ol (wp_ol ?_)
        refine wp_mono (st _ _) ?_
        rintro r τ ⟨k1, k2⟩
        exact ⟨k1, hE4.tr k2⟩
      · rw [if_neg hl]
        refine wp_f (by rw [hT4.2.2.2.1]; omega) ?_
        refine wp_mono (st _ _) ?_
        rintro r τ ⟨k1, k2⟩
        exact ⟨k1, hE4.tr k2⟩
    by_cases hz : q.2.1 = 0
    · refine wp_t (by rw [hT.2.2.2.2.1]; omega) ?_
      exact step (fun z => h0 (by omega) (ovB_t.mp z))
    · refine wp_f (by rw [hT.2.2.2.2.1]; omega) ?_
      refine wp_eq (x_overM (Or.inr rfl) hT) ?_
      by_cases h : ovB q = true
      · rw [if_pos h, ldn, if_pos h]
        refine wp_f (by decide) ?_
        exact fin σ l f
      · rw [if_neg h]
        refine wp_t rfl ?_
        exact step h
