/-! the land as a snapshot ld of the store; formulas on both sides -/
def LC (ld σ : SS) : Prop := ∀ r k, 2 ≤ r → r ≤ 20 → r ≠ 18 → gi σ r k = gi ld r k
theorem LC.of {P : Nat → Nat → Prop} {ld σ τ : SS} (h : LC ld σ) (he : EqP P σ τ) (hp : ∀ r k, P r k → r < 2 ∨ 20 < r ∨ r = 18) : LC ld τ := fun r k h1 h2 h3 => by
  rw [(he r k (fun z => by have := hp r k z; omega)).1]; exact h r k h1 h2 h3
noncomputable def stL (ld : SS) (r : Nat) : List Int := (List.range (gi ld r 2).toNat).map (gi ld (r + 1))
theorem stL_len (ld : SS) (r : Nat) : (stL ld r).length = (gi ld r 2).toNat := by simp [stL]
theorem stL_get (ld : SS) (r j : Nat) (h : j < (stL ld r).length) : (stL ld r)[j] = gi ld (r + 1) j := by simp [stL]
def opOK (c : Int) : Prop := (0 ≤ c ∧ c ≤ 9999) ∨ (-6 ≤ c ∧ c < 0) ∨ c = -273 ∨ c = -271 ∨ c = -272 ∨ c = -37 ∨ c = -42 ∨ c = -43 ∨ c = -45 ∨ c = -47 ∨ c = -60 ∨ c = -61 ∨ c = -62
def FOK (ld : SS) (r : Nat) : Prop := gi ld r 2 = 0 ∨ (0 < gi ld r 2 ∧ WFc (stL ld r) ∧ ∀ c ∈ stL ld r, opOK c)
noncomputable def fmF (ld : SS) (r : Nat) (un : Int) (kn : Nat → Int) : Int := if gi ld r 2 = 0 then un else evS (stL ld r) kn
theorem x_fm {ld σ : SS} (hL : LC ld σ) (r u1 : Nat) (hr : r = 16 ∨ r = 19) (hF : FOK ld r) (hu : u1 ≠ r + 2) (hrn : rN u1 = 6) (kn : Nat → Int) (y : Int) (hk : ∀ j, j < 6 → gi σ u1 j = kn j) : Wp (f_Fo_answer r u1 y σ) fun v τ => v = fmF ld r y kn ∧ ∃ g, τ = sr σ (r + 2) g := by
  have e2 : gi σ r 2 = gi ld r 2 := hL r 2 (by omega) (by omega) (by omega)
  unfold fmF
  rcases hF with h0 | ⟨h0, hw, _⟩
  · rw [if_pos h0]
    exact wp_eqe (x_answer0 r u1 y σ (by rw [e2, h0])) ⟨rfl, gi σ (r + 2), (sr_self σ (r + 2)).symm⟩
  · rw [if_neg (by omega)]
    obtain ⟨g, hg⟩ := x_answer r u1 hu hrn kn (stL ld r) hw y σ (by rw [e2, stL_len]; omega) (fun j h => by rw [stL_get, hL (r + 1) j (by omega) (by omega) (by omega)]) hk
    exact wp_eqe hg ⟨rfl, g, rfl⟩
/-! the reference's formulas -/
def cmO (c : Int) : Int := if 0 ≤ c then 110 else if c = -1 then 104 else if c = -2 then 103 else if c = -3 then 115 else if c = -4 then 98 else if c = -5 then 109 else if c = -6 then 108 else if c = -273 then 126 else if c = -271 then 124 else if c = -272 then 38 else -c
theorem x_isLetterM (a : Int) (σ : SS) : f_Mo_isLetter a σ = some (if 97 ≤ a ∧ a ≤ 122 then 1 else 0, σ) := by
  unfold f_Mo_isLetter
  by_cases h1 : a < 97
  · rw [if_pos h1, if_neg (by omega)]
  · rw [if_neg h1]
    by_cases h2 : 122 < a
    · rw [if_pos h2, if_neg (by omega)]
    · rw [if_neg h2, if_pos (by omega)]
/-- what the reference's row of asked numbers says -/
def askM (σ : SS) : Nat → Int := fun j => gi σ 86 (46 + j)
theorem x_asked (c n : Int) (h : opOK c) (h6 : -6 ≤ c) (hn : 0 ≤ c → n = c) (σ : SS) : f_Mo_asked (cmO c) n σ = some (if 0 ≤ c then c else askM σ (-1 - c).toNat, σ) := by
  unfold f_Mo_asked cmO askM
  by_cases h0 : 0 ≤ c
  · simp [h0, hn h0]
  · have hc : c = -1 ∨ c = -2 ∨ c = -3 ∨ c = -4 ∨ c = -5 ∨ c = -6 := by omega
    rcases hc with rfl | rfl | rfl | rfl | rfl | rfl <;> simp
theorem x_two (c a b : Int) (h : opOK c) (h6 : ¬ -6 ≤ c) (h273 : c ≠ -273) (σ : SS) : f_Mo_two (cmO c) a b σ = some (jn (-c) a b, σ) := by
  unfold f_Mo_two cmO jn oc
  unfold opOK at h
  have hc : c = -271 ∨ c = -272 ∨ c = -37 ∨ c = -42 ∨ c = -43 ∨ c = -45 ∨ c = -47 ∨ c = -60 ∨ c = -61 ∨ c = -62 := by omega
  rcases hc with rfl | rfl | rfl | rfl | rfl | rfl | rfl | rfl | rfl | rfl
  · by_cases ha : a = 0 <;> by_cases hb : b = 0 <;> simp [ha, hb]
  · by_cases ha : a = 0 <;> by_cases hb : b = 0 <;> simp [ha, hb]
  · by_cases hb : b = 0 <;> simp [hb]
  · simp
  · simp
  · simp
  · by_cases hb : b = 0 <;> simp [hb]
  · by_cases hb : b ≤ a <;> simp [hb]
  · by_cases hb : a = b <;> simp [hb]
  · by_cases hb : a ≤ b <;> simp [hb]
theorem cmO_let {c : Int} (h : opOK c) : (97 ≤ cmO c ∧ cmO c ≤ 122 ↔ -6 ≤ c) ∧ (cmO c = 126 ↔ c = -273) := by
  unfold cmO
  unfold opOK at h
  by_cases h0 : 0 ≤ c
  · simp [h0]; omega
  · have hc : c = -1 ∨ c = -2 ∨ c = -3 ∨ c = -4 ∨ c = -5 ∨ c = -6 ∨ c = -273 ∨ c = -271 ∨ c = -272 ∨ c = -37 ∨ c = -42 ∨ c = -43 ∨ c = -45 ∨ c = -47 ∨ c = -60 ∨ c = -61 ∨ c = -62 := by omega
    rcases hc with rfl | rfl | rfl | rfl | rfl | rfl | rfl | rfl | rfl | rfl | rfl | rfl | rfl | rfl | rfl | rfl | rfl <;> decide
theorem ix2 (b k : Nat) (h : b < 2 ∧ k < 1000) : iw (iw (2 * (b : Int)) + (k : Int)) = ((2 * b + k : Nat) : Int) := by simp (disch := omega) only [iwc]; omega
theorem ix6 (b k : Nat) (h : b < 2 ∧ k < 1000) : iw (iw (6 * (b : Int)) + (k : Int)) = ((6 * b + k : Nat) : Int) := by simp (disch := omega) only [iwc]; omega
theorem ix8 (b k : Nat) (h : b < 1000 ∧ k < 1000) : iw (iw (8 * (b : Int)) + (k : Int)) = ((8 * b + k : Nat) : Int) := by simp (disch := omega) only [iwc]; omega
theorem ix14 (b k : Nat) (h : b < 2 ∧ k < 1000) : iw (iw (14 * (b : Int)) + (k : Int)) = ((14 * b + k : Nat) : Int) := by simp (disch := omega) only [iwc]; omega
theorem tn {x : Int} (n : Nat) (h : x = n) : x.toNat = n := by rw [h]; rfl
/-- the reference's rule k against the class's formula at role r -/
def RM (ld σ : SS) (r k b : Nat) : Prop := gi σ 109 (2 * b + k) = (if gi ld r 2 = 0 then 0 else 1) ∧ (gi ld r 2 ≠ 0 → ∃ fr : Nat, gi σ 106 (2 * b + k) = fr ∧ gi σ 107 (2 * b + k) = ((fr + (gi ld r 2).toNat : Nat) : Int) ∧ (560 * b ≤ fr ∧ fr + (gi ld r 2).toNat ≤ 560 * b + 560) ∧ ∀ j (h : j < (stL ld r).length), gi σ 113 (fr + j) = cmO (stL ld r)[j] ∧ (0 ≤ (stL ld r)[j] → gi σ 114 (fr + j) = (stL ld r)[j]))
theorem x_comes_loop (b k fr : Nat) (hb : b < 2) (hk : k < 2) (cs : List Int) (hcs : ∀ c ∈ cs, opOK c) (hfr : fr + cs.length ≤ 1120) :
    ∀ (rest : List Int) (i : Nat) (st : List Int) (σ : SS) (fu : Nat) (v : Int), cs.drop i = rest → i + rest.length = cs.length → gi σ 86 40 = b → gi σ 107 (2 * b + k) = ((fr + cs.length : Nat) : Int) → (∀ j (h : j < cs.length), gi σ 113 (fr + j) = cmO cs[j] ∧ (0 ≤ cs[j] → gi σ 114 (fr + j) = cs[j])) → rowl (gi σ 117) st.length = st → st.length ≤ 32 → rpn rest (askM σ) st = some [v] → rest.length < fu → ∃ g, l_Mo_comes_16 k fu st.length ((fr + i : Nat) : Int) σ = some (v, sr σ 117 g) := by
  intro rest
  induction rest with
  | nil =>
    intro i st σ fu v hd hi hbk hto hcode hst h32 hv hfu
    obtain ⟨fu, rfl⟩ : ∃ f, fu = f + 1 := ⟨fu - 1, by omega⟩
    simp only [List.length_nil] at hi
    have hv2 : st = [v] := by injection hv
    subst hv2
    rw [l_Mo_comes_16, hbk, ix2 b k ⟨hb, by omega⟩, Int.toNat_natCast, hto, oc_pos (by omega), if_pos (by omega)]
    refine ⟨gi σ 117, ?_⟩
    rw [sr_self]
    have h1 : gi σ 117 0 = v := by simpa [rowl] using hst
    rw [h1]
  | cons c rest ih =>
    intro i st σ fu v hd hi hbk hto hcode hst h32 hv hfu
    obtain ⟨fu, rfl⟩ : ∃ f, fu = f + 1 := ⟨fu - 1, by omega⟩
    simp only [List.length_cons] at hi hfu
    have hil : i < cs.length := by omega
    have hci : cs[i] = c := by
      have := List.drop_eq_getElem_cons hil
      rw [hd] at this
      injection this with h1 h2
      exact h1.symm
    have hdr : cs.drop (i + 1) = rest := by
      have := List.drop_eq_getElem_cons hil
      rw [hd] at this
      injection this with h1 h2
      exact h2.symm
    have hok : opOK c := hcs c (by rw [← hci]; exact List.getElem_mem hil)
    obtain ⟨hread, hnum⟩ := hcode i hil
    rw [hci] at hread hnum
    obtain ⟨hlet, htil⟩ := cmO_let hok
    have hi1 : iw (((fr + i : Nat) : Int) + 1) = ((fr + (i + 1) : Nat) : Int) := by rw [iwc (by omega) (by omega)]; omega
    rw [l_Mo_comes_16, hbk, ix2 b k ⟨hb, by omega⟩, Int.toNat_natCast, hto, oc_pos (by omega), if_neg (by omega), oc_pos (by omega), ol_eq, Int.toNat_natCast, hread]
    rw [rpn_cons] at hv
    unfold rpS at hv
    have keep : ∀ (f : Nat → Int), gi (sr σ 117 f) 86 40 = b ∧ gi (sr σ 117 f) 107 (2 * b + k) = ((fr + cs.length : Nat) : Int) ∧ (∀ j (h : j < cs.length), gi (sr σ 117 f) 113 (fr + j) = cmO cs[j] ∧ (0 ≤ cs[j] → gi (sr σ 117 f) 114 (fr + j) = cs[j])) ∧ askM (sr σ 117 f) = askM σ := by
      intro f
      refine ⟨?_, ?_, ?_, ?_⟩
      · rw [gi_sr_n _ _ (by omega)]; exact hbk
      · rw [gi_sr_n _ _ (by omega)]; exact hto
      · intro j h; rw [gi_sr_n _ _ (by omega), gi_sr_n _ _ (by omega)]; exact hcode j h
      · unfold askM; funext j; rw [gi_sr_n _ _ (by omega)]
    by_cases h6 : -6 ≤ c
    · rw [if_pos h6] at hv
      by_cases hl : 32 ≤ st.length
      · rw [if_pos hl] at hv; cases hv
      rw [if_neg hl] at hv
      rw [if_neg (by rw [htil]; omega), x_isLetterM, ob_eq, if_pos (hlet.mpr h6), if_neg (by decide), oc_pos (by omega), x_asked c _ hok h6 hnum, ob_eq, oc_pos (by omega), os_eq, si_sr, hi1, Int.toNat_natCast, iwc (x := (st.length : Int) + 1) (by omega) (by omega)]
      generalize (if 0 ≤ c then c else askM σ (-1 - c).toNat) = x at hv ⊢
      have hlen : ((st.length : Int) + 1) = (((x :: st).length : Nat) : Int) := by simp
      rw [hlen]
      obtain ⟨k1, k2, k3, k4⟩ := keep (fun j => if j = st.length then x else gi σ 117 j)
      obtain ⟨g, hg⟩ := ih (i + 1) (x :: st) _ fu v hdr (by omega) k1 k2 k3 (by
        rw [List.length_cons, rowl_s, gi_sr_s, if_pos rfl]
        congr 1
        conv => rhs; rw [← hst]
        apply rowl_congr
        intro j hj
        rw [if_neg (by omega)]) (by simp only [List.length_cons]; omega) (by rw [k4]; exact hv) (by omega)
      exact ⟨g, by rw [hg, sr_sr]⟩
    · rw [if_neg h6] at hv
      by_cases h273 : c = -273
      · rw [if_pos h273] at hv
        rw [if_pos (htil.mpr h273)]
        match st, hst, h32, hv with
        | [], _, _, hv => cases hv
        | a :: st, hst, h32, hv =>
          have e1 : iw ((((a :: st).length : Nat) : Int) - 1) = (st.length : Int) := by rw [iwc (by simp only [List.length_cons]; omega) (by simp only [List.length_cons] at h32 ⊢; omega)]; simp
          rw [e1, oc_pos (by simp only [List.length_cons] at h32; omega), Int.toNat_natCast]
          rw [List.length_cons, rowl_s] at hst
          injection hst with ha hst
          have put : ∀ x : Int, x = (if a = 0 then 1 else 0) → ∃ g, j_Mo_comes_71 (l_Mo_comes_16 k fu) k ((a :: st).length : Nat) ((fr + i : Nat) : Int) st.length x σ = some (v, sr σ 117 g) := by
            intro x hx
            unfold j_Mo_comes_71
            rw [oc_pos (by simp only [List.length_cons] at h32; omega), os_eq, si_sr, hi1, Int.toNat_natCast]
            have hlen : (a :: st).length = (x :: st).length := by simp
            rw [hlen]
            obtain ⟨k1, k2, k3, k4⟩ := keep (fun j => if j = st.length then x else gi σ 117 j)
            obtain ⟨g, hg⟩ := ih (i + 1) (x :: st) _ fu v hdr (by omega) k1 k2 k3 (by
              rw [List.length_cons, rowl_s, gi_sr_s, if_pos rfl]
              congr 1
              conv => rhs; rw [← hst]
              apply rowl_congr
              intro j hj
              rw [if_neg (by omega)]) (by simpa using h32) (by rw [k4, hx]; exact hv) (by omega)
            exact ⟨g, by rw [hg, sr_sr]⟩
          rw [ha]
          by_cases ha0 : a = 0
          · rw [if_pos ha0]; apply put; rw [if_pos ha0]
          · rw [if_neg ha0]; apply put; rw [if_neg ha0]
      · rw [if_neg h273] at hv
        rw [if_neg (fun z => h273 (htil.mp z)), x_isLetterM, ob_eq, if_neg (fun z => h6 (hlet.mp z)), if_pos rfl]
        match st, hst, h32, hv with
        | [], _, _, hv => cases hv
        | [a], _, _, hv => cases hv
        | y :: a :: st, hst, h32, hv =>
          simp only [List.length_cons] at h32 hst
          have e1 : iw ((((y :: a :: st).length : Nat) : Int) + (-1)) = ((st.length + 1 : Nat) : Int) := by rw [iwc (by simp only [List.length_cons]; omega) (by simp only [List.length_cons]; omega)]; simp; omega
          have e2 : iw (((st.length + 1 : Nat) : Int) - 1) = (st.length : Int) := by rw [iwc (by omega) (by omega)]; omega
          rw [e1, e2, oc_pos (by omega), oc_pos (by omega), Int.toNat_natCast, Int.toNat_natCast]
          rw [rowl_s, rowl_s] at hst
          injection hst with hb' hst
          injection hst with ha hst
          rw [hb', ha, x_two c a y hok h6 h273, ob_eq, oc_pos (by omega), os_eq, si_sr, hi1]
          have hlen : ((st.length + 1 : Nat) : Int) = (((jn (-c) a y :: st).length : Nat) : Int) := by simp
          rw [hlen]
          obtain ⟨k1, k2, k3, k4⟩ := keep (fun j => if j = st.length then jn (-c) a y else gi σ 117 j)
          obtain ⟨g, hg⟩ := ih (i + 1) (jn (-c) a y :: st) _ fu v hdr (by omega) k1 k2 k3 (by
            rw [List.length_cons, rowl_s, gi_sr_s, if_pos rfl]
            congr 1
            conv => rhs; rw [← hst]
            apply rowl_congr
            intro j hj
            rw [if_neg (by omega)]) (by simp only [List.length_cons]; omega) (by rw [k4]; exact hv) (by omega)
          exact ⟨g, by rw [hg, sr_sr]⟩
theorem rpn_congr (f g : Nat → Int) (h : ∀ j, j < 6 → f j = g j) : ∀ (cs st : List Int), rpn cs f st = rpn cs g st := by
  intro cs
  induction cs with
  | nil => intro st; rfl
  | cons c cs ih =>
    intro st
    rw [rpn_cons, rpn_cons]
    have e : rpS c f st = rpS c g st := by
      unfold rpS
      by_cases h6 : -6 ≤ c
      · rw [if_pos h6, if_pos h6]
        by_cases h0 : 0 ≤ c
        · rw [if_pos h0, if_pos h0]
        · rw [if_neg h0, if_neg h0, h _ (by omega)]
      · rw [if_neg h6, if_neg h6]
    rw [e]
    cases rpS c g st with
    | none => rfl
    | some st2 => exact ih st2
theorem evS_congr {f g : Nat → Int} (h : ∀ j, j < 6 → f j = g j) (cs : List Int) : evS cs f = evS cs g := by
  unfold evS; rw [rpn_congr f g h]
theorem x_comes {ld σ : SS} (r k b : Nat) (hb : b < 2) (hk : k < 2) (hF : FOK ld r) (hR : RM ld σ r k b) (hn : gi ld r 2 ≠ 0) (hbk : gi σ 86 40 = b) (kn : Nat → Int) (hkn : ∀ j, j < 6 → gi σ 86 (46 + j) = kn j) : Wp (f_Mo_comes k σ) fun v τ => v = evS (stL ld r) kn ∧ ∃ g, τ = sr σ 117 g := by
  obtain ⟨fr, h1, h2, h3, h4⟩ := hR.2 hn
  rcases hF with h0 | ⟨h0, hw, hop⟩
  · exact absurd h0 hn
  unfold f_Mo_comes
  rw [hbk, ix2 b k ⟨hb, by omega⟩, oc_pos (by omega), ol_eq, Int.toNat_natCast, h1]
  have hl := stL_len ld r
  obtain ⟨g, hg⟩ := x_comes_loop b k fr hb hk (stL ld r) hop (by omega) (stL ld r) 0 [] σ FU (evS (stL ld r) (askM σ)) rfl (by simp) hbk (by rw [h2, hl]) h4 rfl (by simp) (evS_eq hw _) (by have := hw.2.1; unfold FU; omega)
  rw [evS_congr (f := askM σ) (g := kn) hkn] at hg
  exact wp_eqe hg ⟨rfl, g, rfl⟩
