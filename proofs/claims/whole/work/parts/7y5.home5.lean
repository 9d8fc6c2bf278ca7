/-! home: both orders of search come to one count and one row -/
def fstH (s : Option (List Nat)) (l : List Nat) : Option (List Nat) := match s with
  | none => some l
  | some t => some t
def rstep (s : HS) (l : List Nat) : HS := (s.1 + 1, fstH s.2 l)
theorem fold_rstep : ∀ (L : List (List Nat)) (s : HS), L.foldl rstep s = (s.1 + L.length, L.foldl fstH s.2) := by
  intro L
  induction L with
  | nil => intro s; rfl
  | cons l L ih =>
    intro s
    rw [List.foldl_cons, ih, List.length_cons, List.foldl_cons]
    show (s.1 + 1 + L.length, _) = _
    rw [show s.1 + 1 + L.length = s.1 + (L.length + 1) by omega]
    rfl
theorem fold_hstep : ∀ (L : List (List Nat)) (s : HS), L.foldl hstep s = (s.1 + L.length, L.foldl updH s.2) := by
  intro L
  induction L with
  | nil => intro s; rfl
  | cons l L ih =>
    intro s
    rw [List.foldl_cons, ih, List.length_cons, List.foldl_cons]
    show (s.1 + 1 + L.length, _) = _
    rw [show s.1 + 1 + L.length = s.1 + (L.length + 1) by omega]
    rfl
theorem fold_fst_some : ∀ (L : List (List Nat)) (t : List Nat), L.foldl fstH (some t) = some t := by
  intro L
  induction L with
  | nil => intro t; rfl
  | cons l L ih => intro t; exact ih t
theorem fold_fst (L : List (List Nat)) : L.foldl fstH none = L.head? := by
  cases L with
  | nil => rfl
  | cons l L => exact fold_fst_some L l
theorem catK_congr {f g : Nat → List (List Nat)} : ∀ n, (∀ k, 1 ≤ k → k ≤ n → f k = g k) → catK f n = catK g n := by
  intro n
  induction n with
  | zero => intro _; rfl
  | succ n ih =>
    intro h
    rw [catK, catK, ih (fun k h1 h2 => h k h1 (by omega)), h (n + 1) (by omega) (by omega)]
theorem catK_mem {f : Nat → List (List Nat)} (hf : ∀ k, ∀ l ∈ f k, l.length = k) : ∀ n, ∀ l ∈ catK f n, l.length ≤ n := by
  intro n
  induction n with
  | zero => intro l h; exact absurd h (by simp [catK])
  | succ n ih =>
    intro l h
    rw [catK, List.mem_append] at h
    rcases h with h | h
    · have := ih l h; omega
    · have := hf _ l h; omega
theorem head_app (A B : List (List Nat)) : (A ++ B).head? = match A.head? with
    | none => B.head?
    | some t => some t := by
  cases A with
  | nil => rfl
  | cons a A => rfl
theorem catK_add {f g : Nat → List (List Nat)} {l : List Nat} (hf : ∀ k, ∀ t ∈ f k, t.length = k) (hg : ∀ k, g k = f k ++ (if l.length = k then [l] else [])) (h1 : 1 ≤ l.length) : ∀ n, (n < l.length → catK g n = catK f n) ∧ (l.length ≤ n → (catK g n).head? = updH (catK f n).head? l) := by
  intro n
  induction n with
  | zero => exact ⟨fun _ => rfl, fun h => by omega⟩
  | succ n ih =>
    refine ⟨fun h => ?_, fun h => ?_⟩
    · rw [catK, catK, ih.1 (by omega), hg, if_neg (by omega), List.append_nil]
    · rw [catK, catK, head_app, head_app]
      by_cases e : l.length = n + 1
      · rw [ih.1 (by omega), hg, if_pos e]
        cases hh : (catK f n).head? with
        | some t =>
          have : t.length ≤ n := catK_mem hf n t (List.mem_of_head? hh)
          show some t = updH (some t) l
          exact (if_neg (by omega)).symm
        | none =>
          show (f (n + 1) ++ [l]).head? = updH (f (n + 1)).head? l
          rw [head_app]
          cases hh2 : (f (n + 1)).head? with
          | none => rfl
          | some t =>
            have : t.length = n + 1 := hf _ t (List.mem_of_head? hh2)
            show some t = updH (some t) l
            exact (if_neg (by omega)).symm
      · rw [ih.2 (by omega), hg, if_neg e, List.append_nil]
        cases hh : (catK f n).head? with
        | some t =>
          show (match updH (some t) l with | none => (f (n + 1)).head? | some t => some t) = updH (some t) l
          by_cases hlt : l.length < t.length
          · rw [show updH (some t) l = some l from if_pos hlt]
          · rw [show updH (some t) l = some t from if_neg hlt]
        | none =>
          show some l = updH (f (n + 1)).head? l
          cases hh2 : (f (n + 1)).head? with
          | none => rfl
          | some t =>
            have : t.length = n + 1 := hf _ t (List.mem_of_head? hh2)
            show some l = updH (some t) l
            exact (if_pos (by omega)).symm
theorem best_cat (n : Nat) : ∀ (L2 L1 : List (List Nat)), (∀ l ∈ L2, 1 ≤ l.length ∧ l.length ≤ n) → L2.foldl updH (catK (fun k => L1.filter fun l => l.length == k) n).head? = (catK (fun k => (L1 ++ L2).filter fun l => l.length == k) n).head? := by
  intro L2
  induction L2 with
  | nil => intro L1 _; rw [List.append_nil]; rfl
  | cons l L2 ih =>
    intro L1 h
    have hl := h l (List.mem_cons_self ..)
    have z := (catK_add (f := fun k => L1.filter fun l => l.length == k) (g := fun k => (L1 ++ [l]).filter fun l => l.length == k) (l := l) (fun k t ht => by
      have := (List.mem_filter.mp ht).2
      exact eq_of_beq this) (fun k => by
      show (L1 ++ [l]).filter _ = L1.filter _ ++ _
      rw [List.filter_append]
      congr 1
      by_cases e : l.length = k
      · rw [if_pos e, List.filter_cons, if_pos (by simp [e])]; rfl
      · rw [if_neg e, List.filter_cons, if_neg (by simp [e])]; rfl) hl.1 n).2 hl.2
    rw [List.foldl_cons, ← z, ih (L1 ++ [l]) (fun t ht => h t (List.mem_cons_of_mem _ ht)), List.append_assoc]
    rfl
theorem catK_nil : ∀ n, catK (fun k => ([] : List (List Nat)).filter fun l => l.length == k) n = [] := by
  intro n
  induction n with
  | zero => rfl
  | succ n ih => rw [catK, ih]; rfl
/-- the two searches agree -/
theorem home_agree {ld : SS} {tp : Nat → Int} {a b W : Nat} {tt : Int} (D p : Nat) (q : QQ) : (flH ld tp a b W tt D p q).foldl hstep (0, none) = (catK (fun k => flK ld tp a b W tt k p q) D).foldl rstep (0, none) := by
  have hlen := flH_len (ld := ld) (tp := tp) (a := a) (b := b) (W := W) (tt := tt) D p q
  rw [fold_hstep, fold_rstep]
  have e : catK (fun k => flK ld tp a b W tt k p q) D = catK (fun k => (flH ld tp a b W tt D p q).filter fun l => l.length == k) D := catK_congr D (fun k _ h2 => (flH_filter D k p q h2).symm)
  rw [e, fold_fst, cat_count]
  have hfl : (flH ld tp a b W tt D p q).filter (fun l => decide (1 ≤ l.length ∧ l.length ≤ D)) = flH ld tp a b W tt D p q := by
    rw [List.filter_eq_self]
    intro l hl
    exact decide_eq_true (hlen l hl)
  rw [hfl]
  have z := best_cat D (flH ld tp a b W tt D p q) [] hlen
  rw [catK_nil, List.nil_append] at z
  exact congrArg (Prod.mk (0 + (flH ld tp a b W tt D p q).length)) z
/-- where a row of ways leads -/
def leadE (ld : SS) : List Nat → Int → Int
  | [], p => p
  | w :: l, p => if p < 0 then p else leadE ld l (oth ld w p)
theorem okH_lead {ld : SS} {tp : Nat → Int} {a b : Nat} {tt : Int} (hok : LdOK ld) : ∀ (l : List Nat) (p : Nat) (q : QQ), okH ld tp a b tt l p q = true → leadE ld l p = tt := by
  intro l
  induction l with
  | nil => intro p q h; rw [okH] at h; exact absurd h Bool.false_ne_true
  | cons w l ih =>
    intro p q h
    rw [leadE, if_neg (by omega)]
    rw [okH] at h
    have hor := oth_rng hok (w : Int) (p : Int)
    by_cases h1 : oth ld w p = -1
    · rw [if_pos h1] at h; exact absurd h (by decide)
    rw [if_neg h1] at h
    by_cases h2 : (mhH ld tp a b w p q).1 = true
    · rw [if_pos h2, Bool.and_eq_true] at h
      have h3 := of_decide_eq_true h.1
      cases l with
      | nil => exact h3.2
      | cons x l => exact absurd h.2 Bool.false_ne_true
    · rw [if_neg h2] at h
      have := ih _ _ h
      rw [show (((oth ld w p).toNat : Nat) : Int) = oth ld w p by omega] at this
      exact this
theorem okH_go {ld : SS} {tp : Nat → Int} {a b : Nat} {tt : Int} {wf ef : Nat → Nat} : ∀ (l : List Nat) (i p : Nat) (q : QQ), (∀ j (h : j < l.length), wf (i + j) = l[j]) → (∀ j, j < l.length → oth ld (wf (i + j)) ((if j = 0 then p else ef (i + j - 1) : Nat) : Int) = ef (i + j)) → l ≠ [] → (okH ld tp a b tt l p q = true ↔ (goP ld tp a b wf ef l.length i 0 q).1 = true ∧ (goP ld tp a b wf ef l.length i 0 q).2.1 = i + l.length - 1 ∧ (goP ld tp a b wf ef l.length i 0 q).2.2.1 = gi ld 8 (wf (i + l.length - 1)) ∧ (ef (i + l.length - 1) : Int) = tt) := by
  intro l
  induction l with
  | nil => intro i p q _ _ h; exact absurd rfl h
  | cons w l ih =>
    intro i p q hw hp _
    have hw0 : wf i = w := hw 0 (by simp)
    have hp0 : oth ld w p = ef i := by
      have := hp 0 (by simp)
      rw [if_pos rfl, Nat.add_zero, hw0] at this
      exact this
    have hmh : mhH ld tp a b w p q = milP ld tp a b (wf i) (ef i) (gi ld 8 (wf i) - 0).toNat 0 q := by
      unfold mhH
      rw [hp0, Int.toNat_natCast, hw0, Int.sub_zero]
    rw [okH, if_neg (by omega), List.length_cons, goP, ← hmh, hp0]
    by_cases h2 : (mhH ld tp a b w p q).1 = true
    · rw [if_pos h2, if_pos h2, Bool.and_eq_true]
      dsimp only
      cases l with
      | nil =>
        rw [show i + (([] : List Nat).length + 1) - 1 = i from rfl, hw0]
        refine ⟨fun h => ⟨by first | rfl | trivial, by first | rfl | trivial, ?_, ?_⟩, fun h => ⟨decide_eq_true ⟨h.2.2.1, h.2.2.2⟩, rfl⟩⟩
        · exact (of_decide_eq_true h.1).1
        · exact (of_decide_eq_true h.1).2
      | cons x l =>
        refine ⟨fun h => absurd h.2 Bool.false_ne_true, fun h => ?_⟩
        have := h.2.1
        rw [List.length_cons] at this
        omega
    · rw [if_neg h2, if_neg h2, Int.toNat_natCast]
      cases l with
      | nil =>
        refine ⟨fun h => by rw [okH] at h; exact absurd h Bool.false_ne_true, fun h => by have := h.1; rw [List.length_nil, goP] at this; exact absurd this Bool.false_ne_true⟩
      | cons x l =>
        have z := ih (i + 1) (ef i) (mhH ld tp a b w p q).2.2 (fun j hj => by
          have := hw (j + 1) (by rw [List.length_cons]; omega)
          rw [show i + (j + 1) = i + 1 + j by omega] at this
          exact this) (fun j hj => by
          have := hp (j + 1) (by rw [List.length_cons]; omega)
          rw [if_neg (by omega), show i + (j + 1) = i + 1 + j by omega] at this
          rw [this.symm]
          congr 2
          by_cases hj0 : j = 0
          · rw [if_pos hj0, hj0]; rfl
          · rw [if_neg hj0]) (fun h => nomatch h)
        rw [show i + ((x :: l).length + 1) - 1 = i + 1 + (x :: l).length - 1 by omega]
        exact z
/-- a row that leads somewhere is a path -/
theorem lead_pth {ld : SS} (hok : LdOK ld) {p0 : Nat} : ∀ (l : List Nat) (n : Nat) (wf ef : Nat → Nat) (e : Int), Pth ld n wf ef p0 → n + l.length ≤ 12 → (∀ w ∈ l, (w : Int) < gi ld 2 4) → leadE ld l (pend n ef p0 : Nat) = e → 0 ≤ e → ∃ wf' ef', Pth ld (n + l.length) wf' ef' p0 ∧ (∀ j, j < n → wf' j = wf j) ∧ (∀ j (h : j < l.length), wf' (n + j) = l[j]) ∧ (pend (n + l.length) ef' p0 : Int) = e := by
  intro l
  induction l with
  | nil =>
    intro n wf ef e hp _ _ he _
    exact ⟨wf, ef, hp, fun _ _ => rfl, fun j h => absurd h (Nat.not_lt_zero _), he⟩
  | cons w l ih =>
    intro n wf ef e hp hn hw he he0
    rw [List.length_cons] at hn
    rw [leadE, if_neg (by omega)] at he
    have hor := oth_rng hok (w : Int) ((pend n ef p0 : Nat) : Int)
    have hne : oth ld w (pend n ef p0 : Nat) ≠ -1 := by
      intro z
      rw [z] at he
      cases l with
      | nil => rw [leadE] at he; omega
      | cons x l => rw [leadE, if_pos (by omega)] at he; omega
    obtain ⟨y, hy⟩ : ∃ y : Nat, oth ld w (pend n ef p0 : Nat) = y := ⟨(oth ld w (pend n ef p0 : Nat)).toNat, by omega⟩
    have hp1 := hp.snoc hok (by omega) (hw w (List.mem_cons_self ..)) hy
    have hpe : pend (n + 1) (wfx ef n y) p0 = y := by
      unfold pend wfx
      rw [if_neg (by omega), if_pos (by omega)]
    obtain ⟨wf', ef', h1, h2, h3, h4⟩ := ih (n + 1) (wfx wf n w) (wfx ef n y) e hp1 (by omega) (fun x hx => hw x (List.mem_cons_of_mem _ hx)) (by rw [hpe, ← hy]; exact he) he0
    refine ⟨wf', ef', ?_, ?_, ?_, ?_⟩
    · rw [List.length_cons, show n + (l.length + 1) = n + 1 + l.length by omega]; exact h1
    · intro j hj
      rw [h2 j (by omega)]
      exact if_neg (by omega)
    · intro j hj
      cases j with
      | zero =>
        rw [Nat.add_zero, h2 n (by omega)]
        exact if_pos rfl
      | succ j =>
        rw [show n + (j + 1) = n + 1 + j by omega]
        exact h3 j (by rw [List.length_cons] at hj; omega)
    · rw [List.length_cons, show n + (l.length + 1) = n + 1 + l.length by omega]; exact h4
