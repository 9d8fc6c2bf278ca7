/-! formulas: a unit -/
section
variable {u b : Nat} {B : Nat → Int} {N : Nat} {σ0 τ0 σ τ : SS} {k : Int} {p n : Nat}
abbrev PF (r : Nat) : Nat → Nat → Prop := fun r' k => r' = 43 ∧ 2 ≤ k ∨ r' = 44 ∧ 2 ≤ k ∨ r' = 45 ∨ r' = r ∧ (k = 2 ∨ k = 3) ∨ r' = r + 1
abbrev PFr (b c : Nat) : Nat → Nat → Prop := fun r k => r = 86 ∧ (6 ≤ k ∧ k ≤ 10 ∨ 42 ≤ k ∧ k ≤ 45) ∨ r = 93 ∧ k = b ∨ (r = 113 ∨ r = 114) ∧ 560 * b + c ≤ k ∧ k < 560 * b + 560 ∨ r = 115 ∨ r = 116
theorem x_unitM {U r un : Nat} {w : Int} {rs : List Int} (hb : b < 2) (h : GS u b B N σ0 τ0 σ τ k p n) (hM : MSt τ rs) (h60 : rs.length ≤ 60) (hS : SH rs) (hU : UNs b U r un σ τ) (hUle : U ≤ 30) (hun : un ≤ 30) (hw : TopW w rs) : f_Mo_unit τ = j_Mo_unit_98 (if w = 1 ∧ k = 273 then 1 else 0) (if k = 40 then 1 else 0) (kcM k) (if un = 30 then 1 else 0) τ := by
  have e17 : f_Mo_isWord 7237492 τ = some (if k = ((256 + 17 : Nat) : Int) then 1 else 0, τ) := x_isWord h.1 17 (by omega)
  have e40 := x_isSignHere h.1 40 (by omega)
  have ew := x_wordHere h.1
  have h41 := h.2.2.2.2
  obtain ⟨_, u2, u3⟩ := hU
  have e56 : ∀ z, j_Mo_unit_56 z τ = j_Mo_unit_98 z (if k = 40 then 1 else 0) (kcM k) (if un = 30 then 1 else 0) τ := by
    intro z
    unfold j_Mo_unit_56 j_Mo_unit_93
    rw [e40, ob_eq, ew, ob_eq, h41, oc_pos (by omega), Int.toNat_natCast, u3, u2]
    by_cases hf : un = 30
    · rw [if_pos hf]
      by_cases h60 : ((U + un : Nat) : Int) = 60
      · rw [if_pos h60]
      · rw [if_neg h60, if_pos (show (un : Int) = 30 by omega)]
    · rw [if_neg hf, if_neg (show ¬ ((U + un : Nat) : Int) = 60 by omega), if_neg (show ¬ (un : Int) = 30 by omega)]
  have e36 : w = 1 → j_Mo_unit_36 1 τ = j_Mo_unit_98 (if w = 1 ∧ k = 273 then 1 else 0) (if k = 40 then 1 else 0) (kcM k) (if un = 30 then 1 else 0) τ := by
    intro hw1
    unfold j_Mo_unit_36 j_Mo_unit_55
    rw [if_neg (show ¬ (1 : Int) = 0 by decide), e17, ob_eq]
    by_cases h273 : k = 273
    · rw [if_pos (show k = ((256 + 17 : Nat) : Int) by omega), if_neg (show ¬ (1 : Int) = 0 by decide), e56, if_pos (show w = 1 ∧ k = 273 from ⟨hw1, h273⟩)]
    · rw [if_neg (show ¬ k = ((256 + 17 : Nat) : Int) by omega), if_pos (show (0 : Int) = 0 from rfl), e56, if_neg (show ¬ (w = 1 ∧ k = 273) from fun z => h273 z.2)]
  have e36z : w = 2 → j_Mo_unit_36 0 τ = j_Mo_unit_98 (if w = 1 ∧ k = 273 then 1 else 0) (if k = 40 then 1 else 0) (kcM k) (if un = 30 then 1 else 0) τ := by
    intro hw2
    unfold j_Mo_unit_36 j_Mo_unit_55
    rw [if_pos rfl, e56, if_neg (show ¬ (w = 1 ∧ k = 273) from fun z => by omega)]
  unfold f_Mo_unit j_Mo_unit_31
  rw [hM.1, iwc (by omega) (by omega), show ((rs.length + 1 : Nat) : Int) - 1 = (rs.length : Int) by omega, oc_pos (by omega), Int.toNat_natCast, oc_pos (by omega)]
  cases rs with
  | nil =>
    have h8 : gi τ 115 ([] : List Int).length = 8 := hM.2.1
    rw [h8, if_neg (show ¬ (8 : Int) ≤ 3 by decide), if_neg (show ¬ (8 : Int) < 7 by decide)]
    rcases hw with ⟨w1, _⟩ | ⟨_, y, hy, _⟩
    · exact e36 w1
    · simp at hy
  | cons x rs =>
    have ht := hM.top.1
    have hx := wOK_bd hS.1
    rw [List.length_cons, ht]
    rcases hw with ⟨w1, hh⟩ | ⟨w2, y, hy, hh⟩
    · have hx3 := hh x rfl
      by_cases h3 : rkE x ≤ 3
      · rw [if_pos h3]; exact e36 w1
      · rw [if_neg h3, if_neg (show ¬ rkE x < 7 by omega)]; exact e36 w1
    · simp at hy
      subst hy
      rw [if_neg (show ¬ rkE x ≤ 3 by omega), if_pos (show rkE x < 7 by omega)]
      exact e36z w2
/-- a unit that can stand there: all is counted, then the next token -/
theorem x_147G (hb : b < 2) {U un : Nat} (hg : gi τ 86 4 = 0) (h41 : gi τ 86 41 = b) (u2 : gi τ 86 45 = un) (u3 : gi τ 93 b = ((U + un : Nat) : Int)) (hle : U + un ≤ 1000) (x2 x3 x4 : Int) (d : Nat) (hd : x2 = 0 ∧ d = 1 ∨ x2 ≠ 0 ∧ d = 0) : j_Mo_unit_147 x2 x3 x4 τ = ob (f_Mo_goOn (si (si τ 93 b ((U + (un + d) : Nat) : Int)) 86 45 ((un + d : Nat) : Int))) fun _ s1 => if x2 = 0 then (if x3 = 0 then (if x4 = 0 then (j_Mo_unit_263 (if x4 = 0 then gi τ 86 9 else 0) 110 s1) else (j_Mo_unit_263 (if x4 = 0 then gi τ 86 9 else 0) x4 s1)) else (j_Mo_unit_222 x2 s1)) else (j_Mo_unit_222 x2 s1) := by
  unfold j_Mo_unit_147 j_Mo_unit_175 j_Mo_unit_191 j_Mo_unit_208
  rw [x_isGoodG hg, ob_eq, if_neg (show ¬ (1 : Int) = 0 by decide), h41, oc_pos (show 0 ≤ (b : Int) ∧ (b : Int) < 2 by omega), Int.toNat_natCast, u3]
  have e45 : ∀ v, gi (si τ 93 b v) 86 45 = un := fun v => by rw [gi_ne_r _ _ _ _ (by omega)]; exact u2
  have e9 : ∀ v w, gi (si (si τ 93 b v) 86 45 w) 86 9 = gi τ 86 9 := fun v w => by rw [gi_ne_k _ _ _ _ (by omega), gi_ne_r _ _ _ _ (by omega)]
  rcases hd with ⟨h2, rfl⟩ | ⟨h2, rfl⟩
  · rw [if_pos h2, oc_pos (show 0 ≤ (b : Int) ∧ (b : Int) < 2 by omega), os_eq, if_pos h2, e45, iwc (by omega) (by omega), iwc (by omega) (by omega), os_eq, show ((U + un : Nat) : Int) + 1 = ((U + (un + 1) : Nat) : Int) by omega, show (un : Int) + 1 = ((un + 1 : Nat) : Int) by omega]
    by_cases h4 : x4 = 0
    · rw [if_pos h4, if_pos h4, e9]
    · rw [if_neg h4, if_neg h4]
  · rw [if_neg h2, oc_pos (show 0 ≤ (b : Int) ∧ (b : Int) < 2 by omega), os_eq, if_neg h2, e45, iwc (by omega) (by omega), iwc (by omega) (by omega), os_eq, show ((U + un : Nat) : Int) + 0 = ((U + (un + 0) : Nat) : Int) by omega, show (un : Int) + 0 = ((un + 0 : Nat) : Int) by omega]
    by_cases h4 : x4 = 0
    · rw [if_pos h4]
      simp only [if_neg h2]
    · rw [if_neg h4]
      simp only [if_neg h2]
theorem x_98bad (x2 x3 x4 z : Int) (h : x2 = 0 ∧ (z ≠ 0 ∨ x4 = 0 ∧ x3 = 0 ∧ gi τ 86 8 ≠ 4) ∨ (x2 ≠ 0 ∨ x3 ≠ 0) ∧ gi τ 86 43 = 7) : j_Mo_unit_98 x2 x3 x4 z τ = j_Mo_unit_143 x2 x3 x4 τ := by
  unfold j_Mo_unit_98 j_Mo_unit_121 j_Mo_unit_126 j_Mo_unit_134
  by_cases h2 : x2 = 0
  · rw [if_pos h2]
    by_cases hz : z = 0
    · rw [if_pos hz]
      by_cases h4 : x4 = 0
      · rw [if_pos h4]
        by_cases h8 : gi τ 86 8 = 4
        · rw [if_pos h8, if_pos h2, if_neg (show ¬ x3 = 0 by omega), if_pos (show gi τ 86 43 = 7 by omega)]
        · rw [if_neg h8]
          by_cases h3 : x3 = 0
          · rw [if_pos h3]
          · rw [if_neg h3, if_pos h2, if_neg h3, if_pos (show gi τ 86 43 = 7 by omega)]
      · rw [if_neg h4, if_pos h2, if_neg (show ¬ x3 = 0 by omega), if_pos (show gi τ 86 43 = 7 by omega)]
    · rw [if_neg hz]
      by_cases h4 : x4 = 0
      · rw [if_pos h4]
        by_cases h8 : gi τ 86 8 = 4
        · rw [if_pos h8]
        · rw [if_neg h8]
          by_cases h3 : x3 = 0
          · rw [if_pos h3]
          · rw [if_neg h3]
      · rw [if_neg h4]
  · rw [if_neg h2, if_neg h2, if_pos (show gi τ 86 43 = 7 by omega)]
theorem x_98good (x2 x3 x4 z : Int) (h : x2 ≠ 0 ∧ gi τ 86 43 ≠ 7 ∨ x2 = 0 ∧ z = 0 ∧ (x3 = 0 ∧ (x4 ≠ 0 ∨ gi τ 86 8 = 4) ∨ x3 ≠ 0 ∧ gi τ 86 43 ≠ 7)) : j_Mo_unit_98 x2 x3 x4 z τ = j_Mo_unit_147 x2 x3 x4 τ := by
  unfold j_Mo_unit_98 j_Mo_unit_121 j_Mo_unit_126 j_Mo_unit_134
  by_cases h2 : x2 = 0
  · rw [if_pos h2, if_pos (show z = 0 by omega), if_pos h2]
    by_cases h3 : x3 = 0
    · rw [if_pos h3, if_pos h3]
      by_cases h4 : x4 = 0
      · rw [if_pos h4, if_pos (show gi τ 86 8 = 4 by omega)]
      · rw [if_neg h4]
    · rw [if_neg h3, if_neg h3, if_neg (show ¬ gi τ 86 43 = 7 by omega)]
      by_cases h4 : x4 = 0
      · rw [if_pos h4]
        by_cases h8 : gi τ 86 8 = 4
        · rw [if_pos h8]
        · rw [if_neg h8]
      · rw [if_neg h4]
  · rw [if_neg h2, if_neg h2, if_neg (show ¬ gi τ 86 43 = 7 by omega)]
theorem g_unit {c U r un m : Nat} {w : Int} {rs : List Int} (hu : u = 2 ∨ u = 22) (hb : b < 2) (hr : r = u + 14 ∨ r = u + 17) (hc : c ≤ 280) (hU : U ≤ 30) (h : GS u b B N σ0 τ0 σ τ k p n) (hF : FI b c U r w rs un m σ τ) (hw : w ≠ 3) (selfC : Int → SS → OO) (selfM : Int → SS → OO) (kF KM : Int → SS → OO) (Q : Int → SS → Int → SS → Prop)
    (next : ∀ (w' x1 : Int) (rs' : List Int) (un' m' : Nat) (σ' τ' : SS) (k' : Int) (p' n' : Nat), GS u b B N σ0 τ0 σ' τ' k' p' n' → n ≤ p' → p < n → FI b c U r w' rs' un' m' σ' τ' → EqP (PF r) σ σ' → EqP (PFr b c) τ τ' → (x1 = 0 ∧ w' = 3 ∨ x1 ≠ 0 ∧ w' ≠ 3) → W2 (ob (selfC w' σ') kF) (ob (selfM x1 τ') KM) Q)
    (bad : ∀ (σ' : SS) (K' : Int → SS → OO), GS u b B N σ0 τ0 σ' τ k p n → (∀ z s, gi s 86 4 ≠ 0 → K' z s = ob (selfM 1 s) KM) → W2 (kF 0 σ') (ob (f_Mo_misplaced τ) K') Q) :
    W2 (ob (ob (f_FR_readUnit r w σ) fun r2 s2 => if r2 = (-1) then (some (0, s2)) else (ob (f_To_move s2) fun _ s3 => selfC r2 s3)) kF) (ob (ob (f_Mo_unit τ) fun r6 s6 => selfM r6 s6) KM) Q := by
  obtain ⟨hC, ⟨hM, h43⟩, hD, hN, hP⟩ := hF
  obtain ⟨hn277, hl47⟩ := hP.n277
  obtain ⟨p1, p2, p3, p4⟩ := id hP
  have hw12 : TopW w rs := by
    rcases p4 with ⟨z, _⟩ | ⟨_, _, _, _, z⟩
    · exact absurd z hw
    · exact z
  obtain ⟨e3, e4, e6, en, eN, epn⟩ := h.k2
  have hg := h.2.1.1
  have h41 := h.2.2.2.2
  obtain ⟨c1, c2, c3, c4⟩ := id hC
  obtain ⟨d1, d2, d3, d4⟩ := id hD
  obtain ⟨u1, u2, u3⟩ := id hN
  have hr16 : 16 ≤ r ∧ r ≤ 39 ∧ u + 14 ≤ r ∧ r ≤ u + 17 := by omega
  have bad' : ∀ x2 x3 x4 (σ' : SS), GS u b B N σ0 τ0 σ' τ k p n → W2 (kF 0 σ') (ob (ob (j_Mo_unit_143 x2 x3 x4 τ) fun r6 s6 => selfM r6 s6) KM) Q := by
    intro x2 x3 x4 σ' hG
    unfold j_Mo_unit_143
    rw [ob_as, ob_as]
    refine bad σ' _ hG (fun z s hs => ?_)
    unfold j_Mo_unit_147
    rw [x_isGoodB hs, ob_eq, if_pos rfl, ob_eq]
  rw [x_unitM hb h hM (by omega) p1 hN hU p3 hw12]
  -- what can't stand there, on the class's side
  have cbad : ∀ (σ' : SS), f_FR_readUnit r w σ = some (-1, σ') → (ob (ob (f_FR_readUnit r w σ) fun r2 s2 => if r2 = (-1) then (some (0, s2)) else (ob (f_To_move s2) fun _ s3 => selfC r2 s3)) kF) = kF 0 σ' := by
    intro σ' e
    rw [e, ob_eq, if_pos rfl, ob_eq]
  -- a token that stands there is one
  have tok : ∀ (h0 : k ≠ 0), p < n := by
    intro h0
    rcases h.1.2.2.2.2.2.2.2.2 with ⟨z, _⟩ | ⟨z, _⟩
    · exact absurd z h0
    · exact z
  have num8 : gi τ 86 8 = 4 ↔ k = 2 := by
    rcases h.1.2.2.2.2.2.2.2.2 with ⟨e, z, _⟩ | ⟨_, ⟨e, z⟩ | ⟨e, z, _⟩ | ⟨e, z, _⟩ | ⟨e, z, _⟩ | ⟨i, hi, e, z, _⟩⟩ <;> omega
  by_cases h273 : k = 273
  · have hk0 : kcM k = 0 := by rw [h273]; decide
    by_cases hw1 : w = 1
    · by_cases h7 : naL rs = 7
      · -- too deep
        have e : f_FR_readUnit r w σ = some (-1, σ) := by
          unfold f_FR_readUnit f_FR_nest
          rw [ol_eq, e3, if_pos h273, if_pos hw1, c4, if_pos (show (6 : Int) < ((naL rs : Nat) : Int) by omega), ob_eq, if_pos rfl]
        rw [cbad σ e, x_98bad _ _ _ _ (Or.inr ⟨Or.inl (by rw [if_pos ⟨hw1, h273⟩]; decide), by rw [h43, h7]; rfl⟩)]
        exact bad' _ _ _ σ h
      · have e : f_FR_readUnit r w σ = some (1, si (si (si σ 45 rs.length 273) 44 2 ((rs.length + 1 : Nat) : Int)) 44 4 ((naL rs + 1 : Nat) : Int)) := by
          unfold f_FR_readUnit f_FR_nest
          rw [ol_eq, e3, if_pos h273, if_pos hw1, c4, if_neg (show ¬ (6 : Int) < ((naL rs : Nat) : Int) by omega), x_await c1 (by omega), ob_eq, if_neg (show ¬ (1 : Int) = 0 by decide), gi_ne_k _ _ _ _ (show 4 ≠ 2 by omega), gi_ne_r _ _ _ _ (show 44 ≠ 45 by omega), c4, iwc (by omega) (by omega), os_eq, ob_eq, if_neg (show ¬ (1 : Int) = 0 by decide), show ((naL rs : Nat) : Int) + 1 = ((naL rs + 1 : Nat) : Int) by omega]
        rw [e, ob_eq, if_neg (show ¬ (1 : Int) = -1 by decide), ob_as, x_98good _ _ _ _ (Or.inl ⟨by rw [if_pos ⟨hw1, h273⟩]; decide, by rw [h43]; omega⟩), x_147G hb hg h41 u2 u3 (by omega) _ _ _ 0 (Or.inr ⟨by rw [if_pos ⟨hw1, h273⟩]; decide, rfl⟩), ob_as, ob_as]
        have hEc : EqP (PF r) σ (si (si (si σ 45 rs.length 273) 44 2 ((rs.length + 1 : Nat) : Int)) 44 4 ((naL rs + 1 : Nat) : Int)) := EqP.si (EqP.si (EqP.si (EqP.rf _ _) _ _ _ (by omega)) _ _ _ (by omega)) _ _ _ (by omega)
        have hEk : EqP (fun r' k => r' = 44 ∨ r' = 45) σ (si (si (si σ 45 rs.length 273) 44 2 ((rs.length + 1 : Nat) : Int)) 44 4 ((naL rs + 1 : Nat) : Int)) := EqP.si (EqP.si (EqP.si (EqP.rf _ _) _ _ _ (by omega)) _ _ _ (by omega)) _ _ _ (by omega)
        have hG1c : GS u b B N σ0 τ0 (si (si (si σ 45 rs.length 273) 44 2 ((rs.length + 1 : Nat) : Int)) 44 4 ((naL rs + 1 : Nat) : Int)) τ k p n := h.wr (P := fun r' k => r' = 44 ∧ 2 ≤ k ∨ r' = 45) (P' := fun _ _ => False) (EqP.si (EqP.si (EqP.si (EqP.rf _ _) _ _ _ (by omega)) _ _ _ (by omega)) _ _ _ (by omega)) (EqP.rf _ _) (fun r k z => by omega) (fun r k z => z.elim)
        have hC1 : CSt (si (si (si σ 45 rs.length 273) 44 2 ((rs.length + 1 : Nat) : Int)) 44 4 ((naL rs + 1 : Nat) : Int)) (273 :: rs) := by
          refine ⟨?_, ?_, ?_, ?_⟩
          · rw [gi_ne_k _ _ _ _ (by omega), gi_same, List.length_cons]
          · rw [List.length_cons, rowl_s]
            congr 1
            · rw [gi_ne_r _ _ _ _ (by omega), gi_ne_r _ _ _ _ (by omega), gi_same]
            · conv => rhs; rw [← c2]
              exact rowl_congr (fun i hi => by rw [gi_ne_r _ _ _ _ (by omega), gi_ne_r _ _ _ _ (by omega), gi_ne_k _ _ _ _ (by omega)])
          · rw [gi_ne_k _ _ _ _ (by omega), gi_ne_k _ _ _ _ (by omega), gi_ne_r _ _ _ _ (by omega), c3, nbL, if_neg (by decide), Nat.zero_add]
          · rw [gi_same, naL, if_pos (Or.inr rfl), Nat.add_comm]
        generalize si (si (si σ 45 rs.length 273) 44 2 ((rs.length + 1 : Nat) : Int)) 44 4 ((naL rs + 1 : Nat) : Int) = σ1 at hEc hEk hG1c hC1 ⊢
        have hEm : EqP (fun r k => r = 93 ∧ k = b ∨ r = 86 ∧ k = 45) τ (si (si τ 93 b ((U + (un + 0) : Nat) : Int)) 86 45 ((un + 0 : Nat) : Int)) := EqP.si (EqP.si (EqP.rf _ _) _ _ _ (by omega)) _ _ _ (by omega)
        have hG1 := hG1c.wr (P := fun _ _ => False) (EqP.rf _ _) hEm (fun r k z => z.elim) (fun r k z => ⟨by first | exact pmA (by omega) | exact pmB (by omega) | exact pmC (by omega) | exact pmD (by omega) | exact pmE (by omega) | exact pmF (by omega) | exact pmG (by omega) | exact pmH (by omega) | exact pmI (by omega) | (rcases z with z | z <;> first | exact pmA (by omega) | exact pmB (by omega) | exact pmC (by omega) | exact pmD (by omega) | exact pmE (by omega) | exact pmF (by omega) | exact pmG (by omega) | exact pmH (by omega) | exact pmI (by omega)) | (rcases z with z | z | z <;> first | exact pmA (by omega) | exact pmB (by omega) | exact pmC (by omega) | exact pmD (by omega) | exact pmE (by omega) | exact pmF (by omega) | exact pmG (by omega) | exact pmH (by omega) | exact pmI (by omega)), by omega⟩)
        have v2 : gi (si (si τ 93 b ((U + (un + 0) : Nat) : Int)) 86 45 ((un + 0 : Nat) : Int)) 86 45 = un := gi_same _ _ _ _
        have v3 : gi (si (si τ 93 b ((U + (un + 0) : Nat) : Int)) 86 45 ((un + 0 : Nat) : Int)) 93 b = ((U + un : Nat) : Int) := by rw [gi_ne_r _ _ _ _ (by omega), gi_same]; rfl
        generalize si (si τ 93 b ((U + (un + 0) : Nat) : Int)) 86 45 ((un + 0 : Nat) : Int) = τ1 at hEm hG1 v2 v3 ⊢
        refine w2_call (g_move hu hG1) ?_
        rintro _ σ2 _ τ2 ⟨k2, p2', n2, hG2, hp2, hE2, hE2'⟩
        rw [if_neg (show ¬ (if w = 1 ∧ k = 273 then (1 : Int) else 0) = 0 by rw [if_pos ⟨hw1, h273⟩]; decide)]
        unfold j_Mo_unit_222 j_Mo_unit_233
        have hM2 : MSt τ2 rs := (hM.of hEm (fun r k z => by omega)).of hE2' (fun r k z => by omega)
        have f43 : gi τ2 86 43 = ((naL rs : Nat) : Int) := by rw [hE2'.i _ _ (by omega), hEm.i _ _ (by omega)]; exact h43
        rw [if_neg (show ¬ (if w = 1 ∧ k = 273 then (1 : Int) else 0) = 0 by rw [if_pos ⟨hw1, h273⟩]; decide), x_pushE hM2.1 (by omega), ob_eq]
        have hM3 := hM2.push 273
        have hr3 : rkE 273 = 3 := by decide
        have hs3 : sgE 273 = 126 := by decide
        rw [hr3, hs3] at hM3
        have hE3 : EqP (fun r k => r = 115 ∨ r = 116 ∨ r = 86 ∧ k = 44) τ2 (si (si (si τ2 115 (rs.length + 1) 3) 116 (rs.length + 1) 126) 86 44 ((rs.length + 1 + 1 : Nat) : Int)) := EqP.si (EqP.si (EqP.si (EqP.rf _ _) _ _ _ (by omega)) _ _ _ (by omega)) _ _ _ (by omega)
        have g43 : gi (si (si (si τ2 115 (rs.length + 1) 3) 116 (rs.length + 1) 126) 86 44 ((rs.length + 1 + 1 : Nat) : Int)) 86 43 = ((naL rs : Nat) : Int) := by rw [hE3.i _ _ (by omega)]; exact f43
        generalize si (si (si τ2 115 (rs.length + 1) 3) 116 (rs.length + 1) 126) 86 44 ((rs.length + 1 + 1 : Nat) : Int) = τ3 at hM3 hE3 g43 ⊢
        rw [g43, iwc (by omega) (by omega), os_eq, ob_eq]
        have hE4 : EqP (fun r k => r = 86 ∧ k = 43) τ3 (si τ3 86 43 (((naL rs : Nat) : Int) + 1)) := EqP.si (EqP.rf _ _) _ _ _ (by omega)
        have k43 : gi (si τ3 86 43 (((naL rs : Nat) : Int) + 1)) 86 43 = (((naL rs : Nat) : Int) + 1) := gi_same _ _ _ _
        generalize si τ3 86 43 (((naL rs : Nat) : Int) + 1) = τ4 at hE4 k43 ⊢
        have hEall : EqP (fun r k => r = 86 ∧ (6 ≤ k ∧ k ≤ 10 ∨ k = 43 ∨ k = 44 ∨ k = 45) ∨ r = 93 ∧ k = b ∨ r = 115 ∨ r = 116) τ τ4 := (((hEm.mo (fun r k z => by omega)).tr (hE2'.mo (fun r k z => by omega))).tr (hE3.mo (fun r k z => by omega))).tr (hE4.mo (fun r k z => by omega))
        have hEallc : EqP (fun r k => r = 43 ∧ 2 ≤ k ∨ r = 44 ∨ r = 45) σ σ2 := (hEk.mo (fun r k z => by omega)).tr (hE2.mo (fun r k z => by omega))
        have hG4 : GS u b B N σ0 τ0 σ2 τ4 k2 p2' n2 := hG2.wr (P := fun _ _ => False) (P' := fun r k => r = 86 ∧ (k = 43 ∨ k = 44) ∨ r = 115 ∨ r = 116) (EqP.rf _ _) ((hE3.mo (fun r k z => by omega)).tr (hE4.mo (fun r k z => by omega))) (fun r k z => z.elim) (fun r k z => ⟨by first | exact pmA (by omega) | exact pmB (by omega) | exact pmC (by omega) | exact pmD (by omega) | exact pmE (by omega) | exact pmF (by omega) | exact pmG (by omega) | exact pmH (by omega) | exact pmI (by omega) | (rcases z with z | z <;> first | exact pmA (by omega) | exact pmB (by omega) | exact pmC (by omega) | exact pmD (by omega) | exact pmE (by omega) | exact pmF (by omega) | exact pmG (by omega) | exact pmH (by omega) | exact pmI (by omega)) | (rcases z with z | z | z <;> first | exact pmA (by omega) | exact pmB (by omega) | exact pmC (by omega) | exact pmD (by omega) | exact pmE (by omega) | exact pmF (by omega) | exact pmG (by omega) | exact pmH (by omega) | exact pmI (by omega)), by omega⟩)
        refine next 1 1 (273 :: rs) un m σ2 τ4 k2 p2' n2 hG4 hp2 (tok (by omega)) ⟨hC1.of hE2 (fun r k z => by omega), ⟨hM3.of hE4 (fun r k z => by omega), ?_⟩, hD.of hEallc hEall (fun r' k z => by omega) (fun r' k z => by omega), ?_, ?_⟩ (hEc.tr (hE2.mo (fun r k z => by omega))) (hEall.mo (fun r k z => by omega)) (Or.inr ⟨by decide, by decide⟩)
        · rw [k43, naL, if_pos (Or.inr rfl)]; omega
        · refine ⟨by rw [hEallc.i _ _ (by omega)]; exact u1, ?_, ?_⟩
          · rw [hE4.i _ _ (by omega), hE3.i _ _ (by omega), hE2'.i _ _ (by omega)]; exact v2
          · rw [hE4.i _ _ (by omega), hE3.i _ _ (by omega), hE2'.i _ _ (by omega)]; exact v3
        · rw [hD.st hEallc (fun r' k z => by omega)]
          exact hP.push hw 273 0 (Or.inl ⟨rfl, hw1, rfl⟩) (by omega) (by omega)
    · -- a not that can't stand there
      have e : f_FR_readUnit r w σ = some (-1, σ) := by
        unfold f_FR_readUnit
        rw [ol_eq, e3, if_pos h273, if_neg hw1]
      rw [cbad σ e, x_98bad _ _ _ _ (Or.inl ⟨by rw [if_neg (fun z => hw1 z.1)], Or.inr ⟨hk0, by rw [if_neg (by omega)], fun z => by have := num8.mp z; omega⟩⟩)]
      exact bad' _ _ _ σ h
  · have hx2 : (if w = 1 ∧ k = 273 then (1 : Int) else 0) = 0 := if_neg (fun z => h273 z.2)
    rw [hx2]
    by_cases hfull : un = 30
    · have e : f_FR_readUnit r w σ = some (-1, σ) := by
        unfold f_FR_readUnit
        rw [ol_eq, e3, if_neg h273, u1, if_neg (show ¬ (un : Int) < 30 by omega)]
      rw [cbad σ e, x_98bad _ _ _ _ (Or.inl ⟨rfl, Or.inl (by rw [if_pos hfull]; decide)⟩)]
      exact bad' _ _ _ σ h
    · rw [if_neg hfull]
      by_cases h40 : k = 40
      · have hk0 : kcM k = 0 := by rw [h40]; decide
        rw [if_pos h40, hk0]
        by_cases h7 : naL rs = 7
        · have e : f_FR_readUnit r w σ = some (-1, σ) := by
            unfold f_FR_readUnit f_FR_nest
            rw [ol_eq, e3, if_neg h273, u1, if_pos (show (un : Int) < 30 by omega), if_pos h40, c4, if_pos (show (6 : Int) < ((naL rs : Nat) : Int) by omega), ob_eq, if_pos rfl]
          rw [cbad σ e, x_98bad _ _ _ _ (Or.inr ⟨Or.inr (by decide), by rw [h43, h7]; rfl⟩)]
          exact bad' _ _ _ σ h
        · obtain ⟨σ1, e, hEk, hC1, hr3⟩ : ∃ σ1, f_FR_readUnit r w σ = some (1, σ1) ∧ EqP (fun r' k => r' = 44 ∧ 2 ≤ k ∨ r' = 45 ∨ r' = r ∧ k = 3) σ σ1 ∧ CSt σ1 (40 :: rs) ∧ gi σ1 r 3 = ((un + 1 : Nat) : Int) := by
            refine ⟨si (si (si (si (si σ 45 rs.length 40) 44 2 ((rs.length + 1 : Nat) : Int)) 44 4 ((naL rs + 1 : Nat) : Int)) 44 3 ((nbL rs + 1 : Nat) : Int)) r 3 ((un + 1 : Nat) : Int), ?_, EqP.si (EqP.si (EqP.si (EqP.si (EqP.si (EqP.rf _ _) _ _ _ (by omega)) _ _ _ (by omega)) _ _ _ (by omega)) _ _ _ (by omega)) _ _ _ (by omega), ⟨?_, ?_, ?_, ?_⟩, gi_same _ _ _ _⟩
            · have hnb : nbL rs ≤ 100 := by
                have : ∀ l : List Int, nbL l ≤ naL l := by
                  intro l
                  induction l with
                  | nil => exact Nat.le_refl _
                  | cons a l ih =>
                    rw [nbL, naL]
                    by_cases ha : a = 40
                    · rw [if_pos ha, if_pos (Or.inl ha)]; omega
                    · rw [if_neg ha]; omega
                have := this rs
                omega
              unfold f_FR_readUnit f_FR_nest
              rw [ol_eq, e3, if_neg h273, u1, if_pos (show (un : Int) < 30 by omega), if_pos h40, c4, if_neg (show ¬ (6 : Int) < ((naL rs : Nat) : Int) by omega), x_await c1 (by omega), ob_eq, if_neg (show ¬ (1 : Int) = 0 by decide), gi_ne_k _ _ _ _ (show 4 ≠ 2 by omega), gi_ne_r _ _ _ _ (show 44 ≠ 45 by omega), c4, iwc (x := ((naL rs : Nat) : Int) + 1) (by omega) (by omega), os_eq, ob_eq, if_neg (show ¬ (1 : Int) = 0 by decide), show ((naL rs : Nat) : Int) + 1 = ((naL rs + 1 : Nat) : Int) by omega, gi_ne_k _ _ _ _ (show 3 ≠ 4 by omega), gi_ne_k _ _ _ _ (show 3 ≠ 2 by omega), gi_ne_r _ _ _ _ (show 44 ≠ 45 by omega), c3, iwc (x := ((nbL rs : Nat) : Int) + 1) (by omega) (by omega), os_eq, gi_ne_r _ _ _ _ (show r ≠ 44 by omega), gi_ne_r _ _ _ _ (show r ≠ 44 by omega), gi_ne_r _ _ _ _ (show r ≠ 44 by omega), gi_ne_r _ _ _ _ (show r ≠ 45 by omega), u1, iwc (by omega) (by omega), os_eq, show ((nbL rs : Nat) : Int) + 1 = ((nbL rs + 1 : Nat) : Int) by omega, show (un : Int) + 1 = ((un + 1 : Nat) : Int) by omega]
            · rw [gi_ne_r _ _ _ _ (by omega), gi_ne_k _ _ _ _ (by omega), gi_ne_k _ _ _ _ (by omega), gi_same, List.length_cons]
            · rw [List.length_cons, rowl_s]
              congr 1
              · rw [gi_ne_r _ _ _ _ (by omega), gi_ne_r _ _ _ _ (by omega), gi_ne_r _ _ _ _ (by omega), gi_ne_r _ _ _ _ (by omega), gi_same]
              · conv => rhs; rw [← c2]
                exact rowl_congr (fun i hi => by rw [gi_ne_r _ _ _ _ (by omega), gi_ne_r _ _ _ _ (by omega), gi_ne_r _ _ _ _ (by omega), gi_ne_r _ _ _ _ (by omega), gi_ne_k _ _ _ _ (by omega)])
            · rw [gi_ne_r _ _ _ _ (by omega), gi_same, nbL, if_pos rfl, Nat.add_comm]
            · rw [gi_ne_r _ _ _ _ (by omega), gi_ne_k _ _ _ _ (by omega), gi_same, naL, if_pos (Or.inl rfl), Nat.add_comm]
          rw [e, ob_eq, if_neg (show ¬ (1 : Int) = -1 by decide), ob_as, x_98good _ _ _ _ (Or.inr ⟨rfl, rfl, Or.inr ⟨by decide, by rw [h43]; omega⟩⟩), x_147G hb hg h41 u2 u3 (by omega) _ _ _ 1 (Or.inl ⟨rfl, rfl⟩), ob_as, ob_as]
          have hG1c := h.wr (P' := fun _ _ => False) hEk (EqP.rf _ _) (fun r k z => by omega) (fun r k z => z.elim)
          have hEm : EqP (fun r k => r = 93 ∧ k = b ∨ r = 86 ∧ k = 45) τ (si (si τ 93 b ((U + (un + 1) : Nat) : Int)) 86 45 ((un + 1 : Nat) : Int)) := EqP.si (EqP.si (EqP.rf _ _) _ _ _ (by omega)) _ _ _ (by omega)
          have hG1 := hG1c.wr (P := fun _ _ => False) (EqP.rf _ _) hEm (fun r k z => z.elim) (fun r k z => ⟨by first | exact pmA (by omega) | exact pmB (by omega) | exact pmC (by omega) | exact pmD (by omega) | exact pmE (by omega) | exact pmF (by omega) | exact pmG (by omega) | exact pmH (by omega) | exact pmI (by omega) | (rcases z with z | z <;> first | exact pmA (by omega) | exact pmB (by omega) | exact pmC (by omega) | exact pmD (by omega) | exact pmE (by omega) | exact pmF (by omega) | exact pmG (by omega) | exact pmH (by omega) | exact pmI (by omega)) | (rcases z with z | z | z <;> first | exact pmA (by omega) | exact pmB (by omega) | exact pmC (by omega) | exact pmD (by omega) | exact pmE (by omega) | exact pmF (by omega) | exact pmG (by omega) | exact pmH (by omega) | exact pmI (by omega)), by omega⟩)
          have v2 : gi (si (si τ 93 b ((U + (un + 1) : Nat) : Int)) 86 45 ((un + 1 : Nat) : Int)) 86 45 = ((un + 1 : Nat) : Int) := gi_same _ _ _ _
          have v3 : gi (si (si τ 93 b ((U + (un + 1) : Nat) : Int)) 86 45 ((un + 1 : Nat) : Int)) 93 b = ((U + (un + 1) : Nat) : Int) := by rw [gi_ne_r _ _ _ _ (by omega), gi_same]
          generalize si (si τ 93 b ((U + (un + 1) : Nat) : Int)) 86 45 ((un + 1 : Nat) : Int) = τ1 at hEm hG1 v2 v3 ⊢
          refine w2_call (g_move hu hG1) ?_
          rintro _ σ2 _ τ2 ⟨k2, p2', n2, hG2, hp2, hE2, hE2'⟩
          rw [if_pos (show (0 : Int) = 0 from rfl), if_neg (show ¬ (1 : Int) = 0 by decide)]
          unfold j_Mo_unit_222 j_Mo_unit_233
          have hM2 : MSt τ2 rs := (hM.of hEm (fun r k z => by omega)).of hE2' (fun r k z => by omega)
          have f43 : gi τ2 86 43 = ((naL rs : Nat) : Int) := by rw [hE2'.i _ _ (by omega), hEm.i _ _ (by omega)]; exact h43
          rw [if_pos (show (0 : Int) = 0 from rfl), x_pushE hM2.1 (by omega), ob_eq]
          have hM3 := hM2.push 40
          have hr7 : rkE 40 = 7 := by decide
          have hs7 : sgE 40 = 126 := by decide
          rw [hr7, hs7] at hM3
          have hE3 : EqP (fun r k => r = 115 ∨ r = 116 ∨ r = 86 ∧ k = 44) τ2 (si (si (si τ2 115 (rs.length + 1) 7) 116 (rs.length + 1) 126) 86 44 ((rs.length + 1 + 1 : Nat) : Int)) := EqP.si (EqP.si (EqP.si (EqP.rf _ _) _ _ _ (by omega)) _ _ _ (by omega)) _ _ _ (by omega)
          have g43 : gi (si (si (si τ2 115 (rs.length + 1) 7) 116 (rs.length + 1) 126) 86 44 ((rs.length + 1 + 1 : Nat) : Int)) 86 43 = ((naL rs : Nat) : Int) := by rw [hE3.i _ _ (by omega)]; exact f43
          generalize si (si (si τ2 115 (rs.length + 1) 7) 116 (rs.length + 1) 126) 86 44 ((rs.length + 1 + 1 : Nat) : Int) = τ3 at hM3 hE3 g43 ⊢
          rw [g43, iwc (by omega) (by omega), os_eq, ob_eq]
          have hE4 : EqP (fun r k => r = 86 ∧ k = 43) τ3 (si τ3 86 43 (((naL rs : Nat) : Int) + 1)) := EqP.si (EqP.rf _ _) _ _ _ (by omega)
          have k43 : gi (si τ3 86 43 (((naL rs : Nat) : Int) + 1)) 86 43 = (((naL rs : Nat) : Int) + 1) := gi_same _ _ _ _
          generalize si τ3 86 43 (((naL rs : Nat) : Int) + 1) = τ4 at hE4 k43 ⊢
          have hEall : EqP (fun r k => r = 86 ∧ (6 ≤ k ∧ k ≤ 10 ∨ k = 43 ∨ k = 44 ∨ k = 45) ∨ r = 93 ∧ k = b ∨ r = 115 ∨ r = 116) τ τ4 := (((hEm.mo (fun r k z => by omega)).tr (hE2'.mo (fun r k z => by omega))).tr (hE3.mo (fun r k z => by omega))).tr (hE4.mo (fun r k z => by omega))
          have hEallc : EqP (fun r' k => r' = 43 ∧ 2 ≤ k ∨ r' = 44 ∧ 2 ≤ k ∨ r' = 45 ∨ r' = r ∧ k = 3) σ σ2 := (hEk.mo (fun r k z => by omega)).tr (hE2.mo (fun r k z => by omega))
          have hG4 : GS u b B N σ0 τ0 σ2 τ4 k2 p2' n2 := hG2.wr (P := fun _ _ => False) (P' := fun r k => r = 86 ∧ (k = 43 ∨ k = 44) ∨ r = 115 ∨ r = 116) (EqP.rf _ _) ((hE3.mo (fun r k z => by omega)).tr (hE4.mo (fun r k z => by omega))) (fun r k z => z.elim) (fun r k z => ⟨by first | exact pmA (by omega) | exact pmB (by omega) | exact pmC (by omega) | exact pmD (by omega) | exact pmE (by omega) | exact pmF (by omega) | exact pmG (by omega) | exact pmH (by omega) | exact pmI (by omega) | (rcases z with z | z <;> first | exact pmA (by omega) | exact pmB (by omega) | exact pmC (by omega) | exact pmD (by omega) | exact pmE (by omega) | exact pmF (by omega) | exact pmG (by omega) | exact pmH (by omega) | exact pmI (by omega)) | (rcases z with z | z | z <;> first | exact pmA (by omega) | exact pmB (by omega) | exact pmC (by omega) | exact pmD (by omega) | exact pmE (by omega) | exact pmF (by omega) | exact pmG (by omega) | exact pmH (by omega) | exact pmI (by omega)), by omega⟩)
          refine next 1 1 (40 :: rs) (un + 1) m σ2 τ4 k2 p2' n2 hG4 hp2 (tok (by omega)) ⟨hC1.of hE2 (fun r k z => by omega), ⟨hM3.of hE4 (fun r k z => by omega), ?_⟩, hD.of hEallc hEall (fun r' k z => by omega) (fun r' k z => by omega), ?_, ?_⟩ (hEallc.mo (fun r k z => by omega)) (hEall.mo (fun r k z => by omega)) (Or.inr ⟨by decide, by decide⟩)
          · rw [k43, naL, if_pos (Or.inl rfl)]; omega
          · refine ⟨by rw [hE2.i _ _ (by omega)]; exact hr3, ?_, ?_⟩
            · rw [hE4.i _ _ (by omega), hE3.i _ _ (by omega), hE2'.i _ _ (by omega)]; exact v2
            · rw [hE4.i _ _ (by omega), hE3.i _ _ (by omega), hE2'.i _ _ (by omega)]; exact v3
          · rw [hD.st hEallc (fun r' k z => by omega)]
            exact hP.push hw 40 1 (Or.inr ⟨rfl, rfl⟩) (by omega) (by omega)
      · rw [if_neg h40]
        -- a number or a word
        have leaf : ∀ (v num x4 cM : Int), opOK v → -6 ≤ v → cM = cmO v → (0 ≤ v → num = v) → -2000000 ≤ v → k ≠ 0 → (x4 = 0 ∧ cM = 110 ∧ num = gi τ 86 9 ∧ gi τ 86 8 = 4 ∨ x4 ≠ 0 ∧ cM = x4 ∧ num = 0) →
            (∀ s : SS, f_Fo_add r v s = f_Fo_add r v s) → f_FR_readUnit r w σ = (ob (f_Fo_add r v σ) fun _ s11 => j_FR_readUnit_128 r s11) → W2 (ob (ob (f_FR_readUnit r w σ) fun r2 s2 => if r2 = (-1) then (some (0, s2)) else (ob (f_To_move s2) fun _ s3 => selfC r2 s3)) kF) (ob (ob (j_Mo_unit_98 0 0 x4 0 τ) fun r6 s6 => selfM r6 s6) KM) Q := by
          intro v num x4 cM hok h6 hcM hnum _ hk0 hx4 _ e
          rw [e, x_add d1 (by omega), ob_eq]
          unfold j_FR_readUnit_128
          have hEk : EqP (fun r' k => r' = r ∧ (k = 2 ∨ k = 3) ∨ r' = r + 1) σ (si (si (si σ (r + 1) m v) r 2 ((m + 1 : Nat) : Int)) r 3 ((un + 1 : Nat) : Int)) := EqP.si (EqP.si (EqP.si (EqP.rf _ _) _ _ _ (by omega)) _ _ _ (by omega)) _ _ _ (by omega)
          rw [gi_ne_k _ _ _ _ (show 3 ≠ 2 by omega), gi_ne_r _ _ _ _ (show r ≠ r + 1 by omega), u1, iwc (by omega) (by omega), os_eq, ob_eq, if_neg (show ¬ (3 : Int) = -1 by decide), ob_as, show (un : Int) + 1 = ((un + 1 : Nat) : Int) by omega]
          rw [x_98good _ _ _ _ (Or.inr ⟨rfl, rfl, Or.inl ⟨rfl, by omega⟩⟩), x_147G hb hg h41 u2 u3 (by omega) _ _ _ 1 (Or.inl ⟨rfl, rfl⟩), ob_as, ob_as]
          have hG1c := h.wr (P' := fun _ _ => False) hEk (EqP.rf _ _) (fun r k z => by omega) (fun r k z => z.elim)
          have hcd := CDs.add (b := b) (c := c) (r := r) (n := m) (σ := σ) (τ := τ) hD v num hok hnum
          have s2 : gi (si (si (si σ (r + 1) m v) r 2 ((m + 1 : Nat) : Int)) r 3 ((un + 1 : Nat) : Int)) r 2 = ((m + 1 : Nat) : Int) := by rw [gi_ne_k _ _ _ _ (by omega), gi_same]
          have s3 : gi (si (si (si σ (r + 1) m v) r 2 ((m + 1 : Nat) : Int)) r 3 ((un + 1 : Nat) : Int)) r 3 = ((un + 1 : Nat) : Int) := gi_same _ _ _ _
          have sn : ∀ j, gi (si (si (si σ (r + 1) m v) r 2 ((m + 1 : Nat) : Int)) r 3 ((un + 1 : Nat) : Int)) (r + 1) j = gi (si (si σ (r + 1) m v) r 2 ((m + 1 : Nat) : Int)) (r + 1) j := fun j => gi_ne_r _ _ _ _ (by omega)
          have s2' : gi (si (si (si σ (r + 1) m v) r 2 ((m + 1 : Nat) : Int)) r 3 ((un + 1 : Nat) : Int)) r 2 = gi (si (si σ (r + 1) m v) r 2 ((m + 1 : Nat) : Int)) r 2 := gi_ne_k _ _ _ _ (by omega)
          have sst := stL_cg s2' sn
          generalize si (si (si σ (r + 1) m v) r 2 ((m + 1 : Nat) : Int)) r 3 ((un + 1 : Nat) : Int) = σ1 at hEk hG1c s2 s3 sn s2' sst ⊢
          have hEm : EqP (fun r k => r = 93 ∧ k = b ∨ r = 86 ∧ k = 45) τ (si (si τ 93 b ((U + (un + 1) : Nat) : Int)) 86 45 ((un + 1 : Nat) : Int)) := EqP.si (EqP.si (EqP.rf _ _) _ _ _ (by omega)) _ _ _ (by omega)
          have hG1 := hG1c.wr (P := fun _ _ => False) (EqP.rf _ _) hEm (fun r k z => z.elim) (fun r k z => ⟨by first | exact pmA (by omega) | exact pmB (by omega) | exact pmC (by omega) | exact pmD (by omega) | exact pmE (by omega) | exact pmF (by omega) | exact pmG (by omega) | exact pmH (by omega) | exact pmI (by omega) | (rcases z with z | z <;> first | exact pmA (by omega) | exact pmB (by omega) | exact pmC (by omega) | exact pmD (by omega) | exact pmE (by omega) | exact pmF (by omega) | exact pmG (by omega) | exact pmH (by omega) | exact pmI (by omega)) | (rcases z with z | z | z <;> first | exact pmA (by omega) | exact pmB (by omega) | exact pmC (by omega) | exact pmD (by omega) | exact pmE (by omega) | exact pmF (by omega) | exact pmG (by omega) | exact pmH (by omega) | exact pmI (by omega)), by omega⟩)
          have v2 : gi (si (si τ 93 b ((U + (un + 1) : Nat) : Int)) 86 45 ((un + 1 : Nat) : Int)) 86 45 = ((un + 1 : Nat) : Int) := gi_same _ _ _ _
          have v3 : gi (si (si τ 93 b ((U + (un + 1) : Nat) : Int)) 86 45 ((un + 1 : Nat) : Int)) 93 b = ((U + (un + 1) : Nat) : Int) := by rw [gi_ne_r _ _ _ _ (by omega), gi_same]
          generalize si (si τ 93 b ((U + (un + 1) : Nat) : Int)) 86 45 ((un + 1 : Nat) : Int) = τ1 at hEm hG1 v2 v3 ⊢
          refine w2_call (g_move hu hG1) ?_
          rintro _ σ2 _ τ2 ⟨k2, p2', n2, hG2, hp2, hE2, hE2'⟩
          have f42 : gi τ2 86 42 = ((560 * b + c + m : Nat) : Int) := by rw [hE2'.i _ _ (by omega), hEm.i _ _ (by omega)]; exact d2
          have eM : (if (0 : Int) = 0 then (if (0 : Int) = 0 then (if x4 = 0 then (j_Mo_unit_263 (if x4 = 0 then gi τ 86 9 else 0) 110 τ2) else (j_Mo_unit_263 (if x4 = 0 then gi τ 86 9 else 0) x4 τ2)) else (j_Mo_unit_222 0 τ2)) else (j_Mo_unit_222 0 τ2)) = some (0, si (si (si τ2 113 (560 * b + c + m) cM) 114 (560 * b + c + m) num) 86 42 ((560 * b + c + m + 1 : Nat) : Int)) := by
            rw [if_pos rfl, if_pos rfl]
            unfold j_Mo_unit_263
            rcases hx4 with ⟨a1, a2, a3, _⟩ | ⟨a1, a2, a3⟩
            · rw [if_pos a1, if_pos a1, ← a2, ← a3, x_emit f42 (by omega), ob_eq]
            · rw [if_neg a1, if_neg a1, ← a2, ← a3, x_emit f42 (by omega), ob_eq]
          rw [eM, ob_eq]
          have hE3 : EqP (fun r k => r = 86 ∧ k = 42 ∨ (r = 113 ∨ r = 114) ∧ k = 560 * b + c + m) τ2 (si (si (si τ2 113 (560 * b + c + m) cM) 114 (560 * b + c + m) num) 86 42 ((560 * b + c + m + 1 : Nat) : Int)) := EqP.si (EqP.si (EqP.si (EqP.rf _ _) _ _ _ (by omega)) _ _ _ (by omega)) _ _ _ (by omega)
          have m42 : gi (si (si (si τ2 113 (560 * b + c + m) cM) 114 (560 * b + c + m) num) 86 42 ((560 * b + c + m + 1 : Nat) : Int)) 86 42 = ((560 * b + c + m + 1 : Nat) : Int) := gi_same _ _ _ _
          have m113 : gi (si (si (si τ2 113 (560 * b + c + m) cM) 114 (560 * b + c + m) num) 86 42 ((560 * b + c + m + 1 : Nat) : Int)) 113 (560 * b + c + m) = cM := by rw [gi_ne_r _ _ _ _ (by omega), gi_ne_r _ _ _ _ (by omega), gi_same]
          have m114 : gi (si (si (si τ2 113 (560 * b + c + m) cM) 114 (560 * b + c + m) num) 86 42 ((560 * b + c + m + 1 : Nat) : Int)) 114 (560 * b + c + m) = num := by rw [gi_ne_r _ _ _ _ (by omega), gi_same]
          generalize si (si (si τ2 113 (560 * b + c + m) cM) 114 (560 * b + c + m) num) 86 42 ((560 * b + c + m + 1 : Nat) : Int) = τ3 at hE3 m42 m113 m114 ⊢
          have hG3 : GS u b B N σ0 τ0 σ2 τ3 k2 p2' n2 := hG2.wr (P := fun _ _ => False) (EqP.rf _ _) hE3 (fun r k z => z.elim) (fun r k z => ⟨by first | exact pmA (by omega) | exact pmB (by omega) | exact pmC (by omega) | exact pmD (by omega) | exact pmE (by omega) | exact pmF (by omega) | exact pmG (by omega) | exact pmH (by omega) | exact pmI (by omega) | (rcases z with z | z <;> first | exact pmA (by omega) | exact pmB (by omega) | exact pmC (by omega) | exact pmD (by omega) | exact pmE (by omega) | exact pmF (by omega) | exact pmG (by omega) | exact pmH (by omega) | exact pmI (by omega)) | (rcases z with z | z | z <;> first | exact pmA (by omega) | exact pmB (by omega) | exact pmC (by omega) | exact pmD (by omega) | exact pmE (by omega) | exact pmF (by omega) | exact pmG (by omega) | exact pmH (by omega) | exact pmI (by omega)), by omega⟩)
          have hEallc : EqP (PF r) σ σ2 := (hEk.mo (fun r k z => by omega)).tr (hE2.mo (fun r k z => by omega))
          have hEall : EqP (PFr b c) τ τ3 := ((hEm.mo (fun r k z => by omega)).tr (hE2'.mo (fun r k z => by omega))).tr (hE3.mo (fun r k z => by omega))
          have rn : ∀ j, gi σ2 (r + 1) j = gi (si (si σ (r + 1) m v) r 2 ((m + 1 : Nat) : Int)) (r + 1) j := fun j => by rw [hE2.i _ _ (by omega)]; exact sn j
          have st2 : stL σ2 r = stL σ r ++ [v] := by
            rw [← hcd.2, ← sst]
            exact stL_cg (hE2.i _ _ (by omega)) (fun k => hE2.i _ _ (by omega))
          refine next 3 0 rs (un + 1) (m + 1) σ2 τ3 k2 p2' n2 hG3 hp2 (tok hk0) ⟨(hC.of hEk (fun r k z => by omega)).of hE2 (fun r k z => by omega), ⟨((hM.of hEm (fun r k z => by omega)).of hE2' (fun r k z => by omega)).of hE3 (fun r k z => by omega), ?_⟩, ⟨?_, ?_, fun j hj => ?_, ?_⟩, ⟨?_, ?_, ?_⟩, ?_⟩ hEallc hEall (Or.inl ⟨rfl, rfl⟩)
          · rw [hE3.i _ _ (by omega), hE2'.i _ _ (by omega), hEm.i _ _ (by omega)]; exact h43
          · rw [hE2.i _ _ (by omega)]; exact s2
          · rw [m42]; omega
          · rw [rn]
            by_cases hjm : j = m
            · rw [hjm, m113, m114, gi_ne_r _ _ _ _ (show r + 1 ≠ r by omega), gi_same]
              exact ⟨hcM, hnum⟩
            · rw [gi_ne_r _ _ _ _ (show r + 1 ≠ r by omega), gi_ne_k _ _ _ _ hjm, hE3.i 113 _ (by omega), hE3.i 114 _ (by omega), hE2'.i 113 _ (by omega), hE2'.i 114 _ (by omega), hEm.i 113 _ (by omega), hEm.i 114 _ (by omega)]
              exact d3 j (by omega)
          · rw [st2]
            intro x hx
            rw [List.mem_append] at hx
            rcases hx with hx | hx
            · exact d4 x hx
            · simp at hx; rw [hx]; exact hok
          · rw [hE2.i _ _ (by omega)]; exact s3
          · rw [hE3.i _ _ (by omega), hE2'.i _ _ (by omega)]; exact v2
          · rw [hE3.i _ _ (by omega), hE2'.i _ _ (by omega)]; exact v3
          · rw [st2]
            exact hP.unit hw v h6 (by omega)
        by_cases hk2 : k = 2
        · have hval : gi σ 43 5 = gi τ 86 9 ∧ 0 ≤ gi τ 86 9 ∧ gi τ 86 9 ≤ 9999 := by
            rcases h.1.2.2.2.2.2.2.2.2 with ⟨e, z, _⟩ | ⟨_, ⟨e, z⟩ | ⟨e, z, z2⟩ | ⟨e, z, _⟩ | ⟨e, z, _⟩ | ⟨i, hi, e, z, _⟩⟩
            · omega
            · omega
            · exact z2
            · omega
            · omega
            · omega
          have hk0 : kcM k = 0 := by rw [hk2]; decide
          rw [hk0]
          refine leaf (gi τ 86 9) (gi τ 86 9) 0 110 (Or.inl ⟨hval.2.1, hval.2.2⟩) (by omega) ?_ (fun _ => rfl) (by omega) (by omega) (Or.inl ⟨rfl, rfl, rfl, num8.mpr hk2⟩) (fun _ => rfl) ?_
          · unfold cmO; rw [if_pos hval.2.1]
          · unfold f_FR_readUnit f_Fo_addNumber
            rw [ol_eq, e3, if_neg h273, u1, if_pos (show (un : Int) < 30 by omega), if_neg h40, x_knownBy, ob_eq, if_pos hk2, hval.1, ob_as]
            rfl
        · rcases kc_kn k with ⟨a1, a2⟩ | ⟨a1, a2, a3, a4⟩
          · have e : f_FR_readUnit r w σ = some (-1, σ) := by
              unfold f_FR_readUnit
              rw [ol_eq, e3, if_neg h273, u1, if_pos (show (un : Int) < 30 by omega), if_neg h40, x_knownBy, ob_eq, if_neg hk2, if_pos a1]
            rw [cbad σ e, a2, x_98bad _ _ _ _ (Or.inl ⟨rfl, Or.inr ⟨rfl, rfl, fun z => hk2 (num8.mp z)⟩⟩)]
            exact bad' _ _ _ σ h
          · refine leaf (-1 - knC k) 0 (kcM k) (kcM k) (Or.inr (Or.inl ⟨by omega, by omega⟩)) (by omega) a4 (fun z => by omega) (by omega) ?_ (Or.inr ⟨a3, rfl, rfl⟩) (fun _ => rfl) ?_
            · intro z; rw [z] at a3; exact a3 (by decide)
            · unfold f_FR_readUnit f_Fo_addKnown
              rw [ol_eq, e3, if_neg h273, u1, if_pos (show (un : Int) < 30 by omega), if_neg h40, x_knownBy, ob_eq, if_neg hk2, if_neg (show ¬ knC k = -1 by omega), iwc (x := -1 - knC k) (by omega) (by omega), ob_as]
              rfl
end
