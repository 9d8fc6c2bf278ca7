/-! formulas: what waits, as a list, the top first -/
def bd (x : Int) : Int := if x = 37 ∨ x = 42 ∨ x = 47 then 6 else if x = 43 ∨ x = 45 then 5 else if x = 60 ∨ x = 61 ∨ x = 62 then 4 else if x = 271 then 1 else if x = 272 then 2 else if x = 273 then 3 else 0
def rkE (x : Int) : Int := if x = 40 then 7 else bd x
def sgE (x : Int) : Int := if x = 273 ∨ x = 40 then 126 else if x = 272 then 38 else if x = 271 then 124 else x
def wOK (x : Int) : Prop := x = 37 ∨ x = 42 ∨ x = 47 ∨ x = 43 ∨ x = 45 ∨ x = 60 ∨ x = 61 ∨ x = 62 ∨ x = 271 ∨ x = 272 ∨ x = 273 ∨ x = 40
theorem wOK_bd {x : Int} (h : wOK x) : (x = 40 ∧ bd x = 0 ∧ rkE x = 7) ∨ (x = 273 ∧ bd x = 3 ∧ rkE x = 3) ∨ (x ≠ 40 ∧ x ≠ 273 ∧ rkE x = bd x ∧ (bd x = 1 ∨ bd x = 2 ∨ bd x = 4 ∨ bd x = 5 ∨ bd x = 6)) := by
  rcases h with rfl | rfl | rfl | rfl | rfl | rfl | rfl | rfl | rfl | rfl | rfl | rfl <;> decide
theorem wOK_cm {x : Int} (h : wOK x) (h40 : x ≠ 40) : cmO (-x) = sgE x ∧ -x < -6 ∧ (-x = -273 ↔ x = 273) ∧ opOK (-x) ∧ -300 ≤ x ∧ x ≤ 300 := by
  rcases h with rfl | rfl | rfl | rfl | rfl | rfl | rfl | rfl | rfl | rfl | rfl | rfl <;> first | (exact absurd rfl h40) | (unfold opOK cmO sgE; omega) | (unfold opOK; decide)
theorem x_bindingOf (a : Int) (σ : SS) : f_FR_bindingOf a σ = some (bd a, σ) := by
  unfold f_FR_bindingOf bd
  by_cases h1 : a = 37
  · subst h1; rfl
  rw [if_neg h1]
  by_cases h2 : a = 42
  · subst h2; rfl
  rw [if_neg h2]
  by_cases h3 : a = 43
  · subst h3; rfl
  rw [if_neg h3]
  by_cases h4 : a = 45
  · subst h4; rfl
  rw [if_neg h4]
  by_cases h5 : a = 47
  · subst h5; rfl
  rw [if_neg h5]
  by_cases h6 : a = 60
  · subst h6; rfl
  rw [if_neg h6]
  by_cases h7 : a = 61
  · subst h7; rfl
  rw [if_neg h7]
  by_cases h8 : a = 62
  · subst h8; rfl
  rw [if_neg h8]
  by_cases h9 : a = 271
  · subst h9; rfl
  rw [if_neg h9]
  by_cases h10 : a = 272
  · subst h10; rfl
  rw [if_neg h10]
  by_cases h11 : a = 273
  · subst h11; rfl
  rw [if_neg h11, if_neg (by omega), if_neg (by omega), if_neg (by omega), if_neg (by omega), if_neg (by omega), if_neg (by omega)]
/-- brackets; brackets and nots; operators of two sides; all but brackets; nots on top -/
def nbL : List Int → Nat
  | [] => 0
  | x :: rs => (if x = 40 then 1 else 0) + nbL rs
def naL : List Int → Nat
  | [] => 0
  | x :: rs => (if x = 40 ∨ x = 273 then 1 else 0) + naL rs
def n2L : List Int → Nat
  | [] => 0
  | x :: rs => (if x = 40 ∨ x = 273 then 0 else 1) + n2L rs
def noL : List Int → Nat
  | [] => 0
  | x :: rs => (if x = 40 then 0 else 1) + noL rs
def dnL : List Int → Nat
  | [] => 0
  | x :: rs => if x = 273 then dnL rs + 1 else 0
/-- tighter and tighter between brackets -/
def SH : List Int → Prop
  | [] => True
  | x :: rs => wOK x ∧ SH rs ∧ (x = 40 ∨ ∀ y ∈ rs.head?, bd y < bd x ∨ x = 273 ∧ y = 273)
def lvB (v : Int) : Nat := if v = 0 then 0 else if v = 1 then 1 else if v = 2 then 2 else if v = 3 then 2 else if v = 4 then 3 else if v = 5 then 4 else 5
def lvL : List Int → Nat
  | [] => 0
  | x :: _ => lvB (bd x)
theorem lvL_5 : ∀ rs, lvL rs ≤ 5 := by
  intro rs
  cases rs with
  | nil => exact Nat.zero_le _
  | cons x rs =>
    show lvB (bd x) ≤ 5
    unfold lvB
    (repeat' split) <;> omega
theorem SH_len : ∀ rs, SH rs → rs.length ≤ 6 * naL rs + lvL rs := by
  intro rs
  induction rs with
  | nil => intro _; exact Nat.le_refl _
  | cons x rs ih =>
    intro h
    obtain ⟨h1, h2, h3⟩ := h
    have ih := ih h2
    have h5 := lvL_5 rs
    rw [List.length_cons, naL]
    rcases wOK_bd h1 with ⟨e1, e2, _⟩ | ⟨e1, e2, _⟩ | ⟨e1, e2, e3, e4⟩
    · rw [if_pos (Or.inl e1)]
      omega
    · rw [if_pos (Or.inr e1)]
      have hh : lvL (x :: rs) = 2 := by
        show lvB (bd x) = 2
        rw [e2]
        rfl
      omega
    · rw [if_neg (by omega)]
      have hl : lvL rs + 1 ≤ lvL (x :: rs) := by
        cases rs with
        | nil =>
          show 0 + 1 ≤ lvB (bd x)
          rcases e4 with e | e | e | e | e <;> rw [e] <;> decide
        | cons y rs =>
          rcases h3 with h3 | h3
          · exact absurd h3 e1
          · have h4 := h3 y (by simp)
            have hy : bd y < bd x := by omega
            have hyw := wOK_bd h2.1
            have hyb : bd y = 0 ∨ bd y = 1 ∨ bd y = 2 ∨ bd y = 3 ∨ bd y = 4 ∨ bd y = 5 ∨ bd y = 6 := by omega
            show lvB (bd y) + 1 ≤ lvB (bd x)
            rcases e4 with e | e | e | e | e <;> rcases hyb with f | f | f | f | f | f | f <;> first | omega | (rw [e, f]; decide)
      omega
theorem dn_na : ∀ rs, dnL rs ≤ naL rs := by
  intro rs
  induction rs with
  | nil => exact Nat.le_refl _
  | cons x rs ih =>
    rw [dnL, naL]
    by_cases h : x = 273
    · rw [if_pos h, if_pos (Or.inr h)]; omega
    · rw [if_neg h]; omega
theorem SH_app : ∀ ps qs, SH (ps ++ qs) → SH qs ∧ ∀ x ∈ ps, wOK x := by
  intro ps
  induction ps with
  | nil => intro qs h; exact ⟨h, fun x hx => by simp at hx⟩
  | cons a ps ih =>
    intro qs h
    obtain ⟨h1, h2, _⟩ := h
    obtain ⟨h3, h4⟩ := ih qs h2
    refine ⟨h3, fun x hx => ?_⟩
    rw [List.mem_cons] at hx
    rcases hx with rfl | hx
    · exact h1
    · exact h4 x hx
theorem na_app : ∀ ps qs, naL (ps ++ qs) = naL ps + naL qs ∧ nbL (ps ++ qs) = nbL ps + nbL qs ∧ n2L (ps ++ qs) = n2L ps + n2L qs ∧ noL (ps ++ qs) = noL ps + noL qs := by
  intro ps
  induction ps with
  | nil => intro qs; simp [naL, nbL, n2L, noL]
  | cons a ps ih =>
    intro qs
    obtain ⟨h1, h2, h3, h4⟩ := ih qs
    rw [List.cons_append, naL, naL, nbL, nbL, n2L, n2L, noL, noL, h1, h2, h3, h4]
    omega
theorem no40 : ∀ ps : List Int, (∀ x ∈ ps, x ≠ 40) → nbL ps = 0 ∧ noL ps = ps.length := by
  intro ps
  induction ps with
  | nil => intro _; exact ⟨rfl, rfl⟩
  | cons a ps ih =>
    intro h
    obtain ⟨h1, h2⟩ := ih (fun x hx => h x (List.mem_cons_of_mem _ hx))
    have h3 := h a List.mem_cons_self
    rw [nbL, noL, if_neg h3, if_neg h3, List.length_cons]
    omega
theorem spl (P : Int → Bool) : ∀ rs : List Int, ∃ ps qs, rs = ps ++ qs ∧ (∀ x ∈ ps, P x = true) ∧ ∀ y ∈ qs.head?, P y = false := by
  intro rs
  induction rs with
  | nil => exact ⟨[], [], rfl, fun x hx => by simp at hx, fun y hy => by simp at hy⟩
  | cons a rs ih =>
    by_cases h : P a = true
    · obtain ⟨ps, qs, h1, h2, h3⟩ := ih
      refine ⟨a :: ps, qs, by rw [h1]; rfl, fun x hx => ?_, h3⟩
      rw [List.mem_cons] at hx
      rcases hx with rfl | hx
      · exact h
      · exact h2 x hx
    · refine ⟨[], a :: rs, rfl, fun x hx => by simp at hx, fun y hy => ?_⟩
      simp at hy
      rw [← hy]
      simpa using h
theorem dep_app : ∀ (xs ys : List Int) (n h : Nat), dep xs n = some h → dep (xs ++ ys) n = dep ys h := by
  intro xs
  induction xs with
  | nil => intro ys n h e; injection e with e; rw [e]; rfl
  | cons c cs ih =>
    intro ys n h e
    rw [dep] at e
    rw [List.cons_append, dep]
    by_cases h6 : -6 ≤ c
    · rw [if_pos h6] at e ⊢
      by_cases h32 : 32 ≤ n
      · rw [if_pos h32] at e; cases e
      · rw [if_neg h32] at e ⊢; exact ih ys _ h e
    · rw [if_neg h6] at e ⊢
      by_cases h273 : c = -273
      · rw [if_pos h273] at e ⊢
        by_cases h0 : n = 0
        · rw [if_pos h0] at e; cases e
        · rw [if_neg h0] at e ⊢; exact ih ys _ h e
      · rw [if_neg h273] at e ⊢
        by_cases h2 : n < 2
        · rw [if_pos h2] at e; cases e
        · rw [if_neg h2] at e ⊢; exact ih ys _ h e
theorem dep_pop : ∀ (ps : List Int) (m : Nat), (∀ x ∈ ps, wOK x ∧ x ≠ 40) → dep (ps.map fun x => -x) (n2L ps + m + 1) = some (m + 1) := by
  intro ps
  induction ps with
  | nil => intro m _; show some (n2L [] + m + 1) = _; simp [n2L]
  | cons x ps ih =>
    intro m h
    obtain ⟨h1, h2⟩ := h x List.mem_cons_self
    obtain ⟨_, c2, c3, _⟩ := wOK_cm h1 h2
    have hr := ih m (fun y hy => h y (List.mem_cons_of_mem _ hy))
    rw [List.map_cons, dep, if_neg (by omega), n2L]
    by_cases h273 : x = 273
    · rw [if_pos (c3.mpr h273), if_neg (by omega), if_pos (Or.inr h273), show 0 + n2L ps + m + 1 = n2L ps + m + 1 by omega]
      exact hr
    · rw [if_neg (fun z => h273 (c3.mp z)), if_neg (show ¬ (x = 40 ∨ x = 273) by omega), if_neg (by omega), show 1 + n2L ps + m + 1 - 1 = n2L ps + m + 1 by omega]
      exact hr
theorem dep_one (c : Int) (h : Nat) (hc : -6 ≤ c) (h32 : h < 32) : dep [c] h = some (h + 1) := by
  rw [dep, if_pos hc, if_neg (by omega)]
  rfl
/-- rows as lists -/
theorem rowl_drop (f : Nat → Int) : ∀ (ps qs : List Int), rowl f (ps ++ qs).length = ps ++ qs → rowl f qs.length = qs := by
  intro ps
  induction ps with
  | nil => intro qs h; exact h
  | cons a ps ih =>
    intro qs h
    rw [List.cons_append, List.length_cons, rowl_s] at h
    injection h with _ h
    exact ih qs h
theorem rowl_top (f : Nat → Int) (x : Int) (rs : List Int) (h : rowl f (x :: rs).length = x :: rs) : f rs.length = x := by
  rw [List.length_cons, rowl_s] at h
  injection h
theorem stL_app {σ σ' : SS} {r : Nat} {n m : Nat} {f : Nat → Int} (h : gi σ r 2 = n) (h' : gi σ' r 2 = ((n + m : Nat) : Int)) (hs : ∀ j, j < n → gi σ' (r + 1) j = gi σ (r + 1) j) (hf : ∀ j, j < m → gi σ' (r + 1) (n + j) = f j) : stL σ' r = stL σ r ++ (List.range m).map f := by
  apply List.ext_getElem
  · rw [stL_len, List.length_append, stL_len, List.length_map, List.length_range, h, h']; omega
  · intro i h1 h2
    rw [stL_get]
    rw [stL_len, h'] at h1
    by_cases hi : i < n
    · rw [List.getElem_append_left (by rw [stL_len, h]; omega), stL_get]
      exact hs i hi
    · rw [List.getElem_append_right (by rw [stL_len, h]; omega), List.getElem_map, List.getElem_range, stL_len, h]
      have := hf (i - n) (by omega)
      rw [show n + (i - n) = i by omega] at this
      rw [Int.toNat_natCast]
      exact this
theorem range_getD (ps : List Int) (g : Int → Int) : (List.range ps.length).map (fun j => g (ps.getD j 0)) = ps.map g := by
  apply List.ext_getElem
  · rw [List.length_map, List.length_range, List.length_map]
  · intro i h1 h2
    rw [List.getElem_map, List.getElem_range, List.getElem_map]
    rw [List.length_map, List.length_range] at h1
    rw [List.getD_eq_getElem?_getD, List.getElem?_eq_getElem h1]
    rfl
