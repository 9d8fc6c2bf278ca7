/-! formulas: what holds between two tokens -/
def CSt (σ : SS) (rs : List Int) : Prop := gi σ 44 2 = (rs.length : Nat) ∧ rowl (gi σ 45) rs.length = rs ∧ gi σ 44 3 = ((nbL rs : Nat) : Int) ∧ gi σ 44 4 = ((naL rs : Nat) : Int)
def CDs (b c r n : Nat) (σ τ : SS) : Prop := gi σ r 2 = n ∧ gi τ 86 42 = ((560 * b + c + n : Nat) : Int) ∧ (∀ j, j < n → gi τ 113 (560 * b + c + j) = cmO (gi σ (r + 1) j) ∧ (0 ≤ gi σ (r + 1) j → gi τ 114 (560 * b + c + j) = gi σ (r + 1) j)) ∧ ∀ x ∈ stL σ r, opOK x
def UNs (b U r un : Nat) (σ τ : SS) : Prop := gi σ r 3 = un ∧ gi τ 86 45 = un ∧ gi τ 93 b = ((U + un : Nat) : Int)
def TopW (w : Int) (rs : List Int) : Prop := w = 1 ∧ (∀ y ∈ rs.head?, bd y ≤ 3) ∨ w = 2 ∧ ∃ y ∈ rs.head?, 4 ≤ bd y
def PIv (w : Int) (rs es : List Int) (un n : Nat) : Prop := SH rs ∧ naL rs ≤ 7 ∧ un ≤ 30 ∧ (w = 3 ∧ dep es 0 = some (n2L rs + 1) ∧ n2L rs + 1 ≤ un ∧ n + noL rs + 1 ≤ 9 * un ∨ w ≠ 3 ∧ dep es 0 = some (n2L rs) ∧ n2L rs ≤ un ∧ n + noL rs ≤ 9 * un + dnL rs ∧ TopW w rs)
def FI (b c U r : Nat) (w : Int) (rs : List Int) (un n : Nat) (σ τ : SS) : Prop := CSt σ rs ∧ (MSt τ rs ∧ gi τ 86 43 = ((naL rs : Nat) : Int)) ∧ CDs b c r n σ τ ∧ UNs b U r un σ τ ∧ PIv w rs (stL σ r) un n
theorem PIv.push {w : Int} {rs es : List Int} {un n : Nat} (h : PIv w rs es un n) (hw : w ≠ 3) (x : Int) (d : Nat) (hx : x = 273 ∧ w = 1 ∧ d = 0 ∨ x = 40 ∧ d = 1) (h6 : naL rs ≤ 6) (hd : un + d ≤ 30) : PIv 1 (x :: rs) es (un + d) n := by
  obtain ⟨h1, h2, h3, ⟨z, _⟩ | ⟨_, h4, h5, h7, h8⟩⟩ := h
  · exact absurd z hw
  have hdn := dn_na rs
  rcases hx with ⟨rfl, e2, rfl⟩ | ⟨rfl, rfl⟩
  · refine ⟨⟨Or.inr (Or.inr (Or.inr (Or.inr (Or.inr (Or.inr (Or.inr (Or.inr (Or.inr (Or.inr (Or.inl rfl)))))))))), h1, Or.inr (fun y hy => ?_)⟩, ?_, hd, Or.inr ⟨by decide, ?_, ?_, ?_, Or.inl ⟨rfl, fun y hy => ?_⟩⟩⟩
    · rcases h8 with ⟨_, h8⟩ | ⟨z, _⟩
      · have hb3 := h8 y hy
        have hyw : wOK y := by
          cases rs with
          | nil => simp at hy
          | cons a rs => simp at hy; rw [← hy]; exact h1.1
        have e3 : bd 273 = 3 := by decide
        rw [e3]
        rcases wOK_bd hyw with e | e | e <;> omega
      · omega
    · rw [naL, if_pos (Or.inr rfl)]; omega
    · rw [n2L, if_pos (Or.inr rfl), h4, Nat.zero_add]
    · rw [n2L, if_pos (Or.inr rfl)]; omega
    · rw [noL, dnL, if_neg (by decide), if_pos rfl]; omega
    · simp at hy
      rw [← hy]
      decide
  · refine ⟨⟨Or.inr (Or.inr (Or.inr (Or.inr (Or.inr (Or.inr (Or.inr (Or.inr (Or.inr (Or.inr (Or.inr rfl)))))))))), h1, Or.inl rfl⟩, ?_, hd, Or.inr ⟨by decide, ?_, ?_, ?_, Or.inl ⟨rfl, fun y hy => ?_⟩⟩⟩
    · rw [naL, if_pos (Or.inl rfl)]; omega
    · rw [n2L, if_pos (Or.inl rfl), h4, Nat.zero_add]
    · rw [n2L, if_pos (Or.inl rfl)]; omega
    · rw [noL, dnL, if_pos rfl, if_neg (by decide)]; omega
    · simp at hy
      rw [← hy]
      decide
theorem PIv.unit {w : Int} {rs es : List Int} {un n : Nat} (h : PIv w rs es un n) (hw : w ≠ 3) (v : Int) (hv : -6 ≤ v) (hd : un + 1 ≤ 30) : PIv 3 rs (es ++ [v]) (un + 1) (n + 1) := by
  obtain ⟨h1, h2, h3, ⟨z, _⟩ | ⟨_, h4, h5, h7, h8⟩⟩ := h
  · exact absurd z hw
  have hdn := dn_na rs
  refine ⟨h1, h2, hd, Or.inl ⟨rfl, ?_, by omega, by omega⟩⟩
  rw [dep_app _ _ _ _ h4]
  exact dep_one v _ hv (by omega)
theorem PIv.pops {ps qs es : List Int} {un n : Nat} (h : PIv 3 (ps ++ qs) es un n) (h40 : ∀ x ∈ ps, x ≠ 40) : PIv 3 qs (es ++ ps.map fun x => -x) un (n + ps.length) := by
  obtain ⟨h1, h2, h3, ⟨_, h4, h5, h6⟩ | ⟨z, _⟩⟩ := h
  · obtain ⟨a1, a2⟩ := SH_app ps qs h1
    obtain ⟨b1', b2', b3', b4'⟩ := na_app ps qs
    obtain ⟨c1, c2⟩ := no40 ps h40
    refine ⟨a1, by omega, h3, Or.inl ⟨rfl, ?_, by omega, by omega⟩⟩
    rw [dep_app _ _ _ _ h4, b3']
    exact dep_pop ps (n2L qs) (fun x hx => ⟨a2 x hx, h40 x hx⟩)
  · exact absurd rfl z
theorem PIv.op {qs es : List Int} {un n : Nat} (h : PIv 3 qs es un n) (x : Int) (hx : wOK x) (hx40 : x ≠ 40 ∧ x ≠ 273) (hq : ∀ y ∈ qs.head?, bd y < bd x) : PIv (if 3 ≤ bd x then 2 else 1) (x :: qs) es un n := by
  obtain ⟨h1, h2, h3, ⟨_, h4, h5, h6⟩ | ⟨z, _⟩⟩ := h
  · have hb := wOK_bd hx
    have hn2 : n2L (x :: qs) = n2L qs + 1 := by rw [n2L, if_neg (by omega)]; omega
    have hno : noL (x :: qs) = noL qs + 1 := by rw [noL, if_neg (by omega)]; omega
    have hdn : dnL (x :: qs) = 0 := by rw [dnL, if_neg (by omega)]
    refine ⟨⟨hx, h1, Or.inr (fun y hy => Or.inl (hq y hy))⟩, by rw [naL, if_neg (by omega)]; omega, h3, Or.inr ⟨?_, by rw [hn2]; exact h4, by omega, by omega, ?_⟩⟩
    · by_cases h3b : 3 ≤ bd x
      · rw [if_pos h3b]; decide
      · rw [if_neg h3b]; decide
    · by_cases h3b : 3 ≤ bd x
      · rw [if_pos h3b]
        exact Or.inr ⟨rfl, x, rfl, by omega⟩
      · rw [if_neg h3b]
        refine Or.inl ⟨rfl, fun y hy => ?_⟩
        simp at hy
        rw [← hy]
        omega
  · exact absurd rfl z
theorem PIv.close {qs es : List Int} {un n : Nat} (h : PIv 3 (40 :: qs) es un n) : PIv 3 qs es un n := by
  obtain ⟨h1, h2, h3, ⟨_, h4, h5, h6⟩ | ⟨z, _⟩⟩ := h
  · rw [naL, if_pos (Or.inl rfl)] at h2
    rw [n2L, if_pos (Or.inl rfl), Nat.zero_add] at h4 h5
    rw [noL, if_pos rfl] at h6
    exact ⟨h1.2.1, by omega, h3, Or.inl ⟨rfl, h4, h5, by omega⟩⟩
  · exact absurd rfl z
theorem PIv.n277 {w : Int} {rs es : List Int} {un n : Nat} (h : PIv w rs es un n) : n ≤ 277 ∧ rs.length ≤ 47 := by
  obtain ⟨h1, h2, h3, h4⟩ := h
  have hdn := dn_na rs
  have hl := SH_len rs h1
  have h5 := lvL_5 rs
  rcases h4 with ⟨_, _, _, h6⟩ | ⟨_, _, _, h6, _⟩ <;> omega
theorem CSt.of {P : Nat → Nat → Prop} {σ σ' : SS} {rs : List Int} (h : CSt σ rs) (he : EqP P σ σ') (hp : ∀ r k, P r k → r ≠ 44 ∧ r ≠ 45) : CSt σ' rs := by
  obtain ⟨h1, h2, h3, h4⟩ := h
  refine ⟨by rw [he.i _ _ (fun z => (hp _ _ z).1 rfl)]; exact h1, ?_, by rw [he.i _ _ (fun z => (hp _ _ z).1 rfl)]; exact h3, by rw [he.i _ _ (fun z => (hp _ _ z).1 rfl)]; exact h4⟩
  conv => rhs; rw [← h2]
  exact rowl_congr (fun i _ => he.i _ _ (fun z => (hp _ _ z).2 rfl))
theorem CDs.of {P P' : Nat → Nat → Prop} {b c r n : Nat} {σ τ σ' τ' : SS} (h : CDs b c r n σ τ) (he : EqP P σ σ') (he' : EqP P' τ τ') (hp : ∀ r' k, P r' k → (r' ≠ r ∨ k ≠ 2) ∧ r' ≠ r + 1) (hp' : ∀ r' k, P' r' k → r' ≠ 113 ∧ r' ≠ 114 ∧ (r' ≠ 86 ∨ k ≠ 42)) : CDs b c r n σ' τ' := by
  obtain ⟨h1, h2, h3, h4⟩ := h
  have e1 : ∀ k, gi σ' (r + 1) k = gi σ (r + 1) k := fun k => he.i _ _ (fun z => (hp _ _ z).2 rfl)
  have e2 : gi σ' r 2 = gi σ r 2 := he.i _ _ (fun z => by have := hp _ _ z; omega)
  refine ⟨by rw [e2]; exact h1, by rw [he'.i _ _ (fun z => by have := hp' _ _ z; omega)]; exact h2, fun j hj => ?_, by rw [stL_cg e2 e1]; exact h4⟩
  rw [e1, he'.i _ _ (fun z => (hp' _ _ z).1 rfl), he'.i _ _ (fun z => (hp' _ _ z).2.1 rfl)]
  exact h3 j hj
theorem UNs.of {P P' : Nat → Nat → Prop} {b U r un : Nat} {σ τ σ' τ' : SS} (h : UNs b U r un σ τ) (he : EqP P σ σ') (he' : EqP P' τ τ') (hp : ∀ r' k, P r' k → (r' ≠ r ∨ k ≠ 3)) (hp' : ∀ r' k, P' r' k → (r' ≠ 93 ∨ k ≠ b) ∧ (r' ≠ 86 ∨ k ≠ 45)) : UNs b U r un σ' τ' := by
  obtain ⟨h1, h2, h3⟩ := h
  exact ⟨by rw [he.i _ _ (fun z => by have := hp _ _ z; omega)]; exact h1, by rw [he'.i _ _ (fun z => by have := hp' _ _ z; omega)]; exact h2, by rw [he'.i _ _ (fun z => by have := hp' _ _ z; omega)]; exact h3⟩
theorem CDs.st {b c r n : Nat} {σ τ σ' : SS} (h : CDs b c r n σ τ) {P : Nat → Nat → Prop} (he : EqP P σ σ') (hp : ∀ r' k, P r' k → (r' ≠ r ∨ k ≠ 2) ∧ r' ≠ r + 1) : stL σ' r = stL σ r := stL_cg (he.i _ _ (fun z => by have := hp _ _ z; omega)) (fun k => he.i _ _ (fun z => (hp _ _ z).2 rfl))
/-- one step more -/
theorem CDs.add {b c r n : Nat} {σ τ : SS} (h : CDs b c r n σ τ) (v num : Int) (hv : opOK v) (hn : 0 ≤ v → num = v) : CDs b c r (n + 1) (si (si σ (r + 1) n v) r 2 ((n + 1 : Nat) : Int)) (si (si (si τ 113 (560 * b + c + n) (cmO v)) 114 (560 * b + c + n) num) 86 42 ((560 * b + c + n + 1 : Nat) : Int)) ∧ stL (si (si σ (r + 1) n v) r 2 ((n + 1 : Nat) : Int)) r = stL σ r ++ [v] := by
  obtain ⟨h1, h2, h3, h4⟩ := h
  have e : stL (si (si σ (r + 1) n v) r 2 ((n + 1 : Nat) : Int)) r = stL σ r ++ [v] := by
    have hz : ∀ j, j < 1 → gi (si (si σ (r + 1) n v) r 2 ((n + 1 : Nat) : Int)) (r + 1) (n + j) = v := by
      intro j hj
      obtain rfl : j = 0 := by omega
      show gi (si (si σ (r + 1) n v) r 2 ((n + 1 : Nat) : Int)) (r + 1) n = v
      rw [gi_ne_r _ _ _ _ (by omega), gi_same]
    have := stL_app (σ := σ) (σ' := si (si σ (r + 1) n v) r 2 ((n + 1 : Nat) : Int)) (r := r) (n := n) (m := 1) (f := fun _ => v) h1 (gi_same _ _ _ _) (fun j hj => by rw [gi_ne_r _ _ _ _ (by omega), gi_ne_k _ _ _ _ (by omega)]) hz
    exact this
  refine ⟨⟨gi_same _ _ _ _, by rw [gi_same]; omega, fun j hj => ?_, ?_⟩, e⟩
  · rw [gi_ne_r _ _ _ _ (show r + 1 ≠ r by omega), gi_ne_r _ _ _ _ (show 113 ≠ 86 by omega), gi_ne_r _ _ _ _ (show 113 ≠ 114 by omega), gi_ne_r _ _ _ _ (show 114 ≠ 86 by omega)]
    by_cases hjn : j = n
    · rw [hjn, gi_same, gi_same, gi_same]; exact ⟨rfl, hn⟩
    · rw [gi_ne_k _ _ _ _ hjn, gi_ne_k _ _ _ _ (show 560 * b + c + j ≠ 560 * b + c + n by omega), gi_ne_k _ _ _ _ (show 560 * b + c + j ≠ 560 * b + c + n by omega), gi_ne_r _ _ _ _ (show 114 ≠ 113 by omega)]
      exact h3 j (by omega)
  · rw [e]
    intro x hx
    rw [List.mem_append] at hx
    rcases hx with hx | hx
    · exact h4 x hx
    · simp at hx; rw [hx]; exact hv
/-- all that is popped -/
theorem CDs.pops {b c r n : Nat} {σ τ σ' τ' : SS} (h : CDs b c r n σ τ) (ps : List Int) (hps : ∀ x ∈ ps, wOK x ∧ x ≠ 40) (c2 : gi σ' r 2 = ((n + ps.length : Nat) : Int)) (co : ∀ j, j < n → gi σ' (r + 1) j = gi σ (r + 1) j) (cn : ∀ j, j < ps.length → gi σ' (r + 1) (n + j) = -(ps.getD j 0)) (m42 : gi τ' 86 42 = ((560 * b + c + n + ps.length : Nat) : Int)) (mo : ∀ j, j < n → gi τ' 113 (560 * b + c + j) = gi τ 113 (560 * b + c + j) ∧ gi τ' 114 (560 * b + c + j) = gi τ 114 (560 * b + c + j)) (mn : ∀ j, j < ps.length → gi τ' 113 (560 * b + c + n + j) = sgE (ps.getD j 0)) : CDs b c r (n + ps.length) σ' τ' ∧ stL σ' r = stL σ r ++ ps.map fun x => -x := by
  obtain ⟨h1, h2, h3, h4⟩ := h
  have e : stL σ' r = stL σ r ++ ps.map fun x => -x := by
    rw [stL_app h1 c2 co cn, ← range_getD ps (fun x => -x)]
  refine ⟨⟨c2, by rw [m42]; omega, fun j hj => ?_, ?_⟩, e⟩
  · by_cases hjn : j < n
    · rw [co j hjn, (mo j hjn).1, (mo j hjn).2]; exact h3 j hjn
    · have hj2 : j - n < ps.length := by omega
      have hm := List.getElem_mem hj2
      have eg : ps.getD (j - n) 0 = ps[j - n] := by rw [List.getD_eq_getElem?_getD, List.getElem?_eq_getElem hj2]; rfl
      obtain ⟨w1, w2⟩ := hps _ hm
      obtain ⟨d1, d2, _⟩ := wOK_cm w1 w2
      have a1 := cn (j - n) hj2
      have a2 := mn (j - n) hj2
      rw [show n + (j - n) = j by omega, eg] at a1
      rw [show 560 * b + c + n + (j - n) = 560 * b + c + j by omega, eg] at a2
      rw [a1, a2]
      exact ⟨d1.symm, fun z => by omega⟩
  · rw [e]
    intro x hx
    rw [List.mem_append] at hx
    rcases hx with hx | hx
    · exact h4 x hx
    · rw [List.mem_map] at hx
      obtain ⟨y, hy, rfl⟩ := hx
      exact (wOK_cm (hps y hy).1 (hps y hy).2).2.2.2.1
