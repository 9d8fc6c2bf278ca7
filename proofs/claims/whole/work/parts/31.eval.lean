/-! formulas: how many values stand behind some steps; what comes of a whole one -/
def dep : List Int → Nat → Option Nat
  | [], n => some n
  | c :: cs, n => if -6 ≤ c then (if 32 ≤ n then none else dep cs (n + 1)) else if c = -273 then (if n = 0 then none else dep cs n) else (if n < 2 then none else dep cs (n - 1))
theorem rpn_dep (kn : Nat → Int) : ∀ (cs st : List Int) (m : Nat), dep cs st.length = some m → ∃ st', rpn cs kn st = some st' ∧ st'.length = m := by
  intro cs
  induction cs with
  | nil => intro st m h; exact ⟨st, rfl, by injection h⟩
  | cons c cs ih =>
    intro st m h
    rw [dep] at h
    rw [rpn_cons]
    unfold rpS
    by_cases h6 : -6 ≤ c
    · rw [if_pos h6] at h ⊢
      by_cases h32 : 32 ≤ st.length
      · rw [if_pos h32] at h; cases h
      · rw [if_neg h32] at h ⊢
        exact ih ((if 0 ≤ c then c else kn (-1 - c).toNat) :: st) m h
    · rw [if_neg h6] at h ⊢
      by_cases h273 : c = -273
      · rw [if_pos h273] at h ⊢
        cases st with
        | nil => simp at h
        | cons a st => rw [if_neg (by simp)] at h; exact ih ((if a = 0 then 1 else 0) :: st) m h
      · rw [if_neg h273] at h ⊢
        match st, h with
        | [], h => rw [if_pos (by simp)] at h; cases h
        | [a], h => rw [if_pos (by simp)] at h; cases h
        | b :: a :: st, h => rw [if_neg (by simp)] at h; exact ih (jn (-c) a b :: st) m h
noncomputable def evS (cs : List Int) (kn : Nat → Int) : Int := match rpn cs kn [] with
  | some [v] => v
  | _ => 0
def WFc (cs : List Int) : Prop := dep cs 0 = some 1 ∧ cs.length ≤ 320 ∧ ∀ c ∈ cs, -300 ≤ c ∧ c ≤ 9999
theorem evS_eq {cs : List Int} (h : WFc cs) (kn : Nat → Int) : rpn cs kn [] = some [evS cs kn] := by
  obtain ⟨st, h1, h2⟩ := rpn_dep kn cs [] 1 h.1
  unfold evS
  rw [h1]
  match st, h2 with
  | [v], _ => rfl
theorem x_ans_loop (t u1 : Nat) (hu : u1 ≠ t + 2) (hrn : rN u1 = 6) (kn : Nat → Int) (cs : List Int) (hcs : ∀ c ∈ cs, -300 ≤ c ∧ c ≤ 9999) (hN : cs.length ≤ 320) (y2 : Int) :
    ∀ (rest : List Int) (i : Nat) (st : List Int) (σ : SS) (fu : Nat) (v : Int), cs.drop i = rest → i + rest.length = cs.length → gi σ t 2 = cs.length → (∀ j (h : j < cs.length), gi σ (t + 1) j = cs[j]) → (∀ j, j < 6 → gi σ u1 j = kn j) → rowl (gi σ (t + 2)) st.length = st → st.length ≤ 32 → rpn rest kn st = some [v] → rest.length < fu → ∃ g, l_Fo_answer_5 t u1 y2 fu st.length i σ = some (v, sr σ (t + 2) g) := by
  intro rest
  induction rest with
  | nil =>
    intro i st σ fu v hd hi hc hcode hk hst h32 hv hfu
    obtain ⟨fu, rfl⟩ : ∃ f, fu = f + 1 := ⟨fu - 1, by omega⟩
    simp only [List.length_nil] at hi
    have hv2 : st = [v] := by injection hv
    subst hv2
    rw [l_Fo_answer_5, if_pos (by rw [hc]; omega)]
    unfold j_Fo_answer_174
    refine ⟨gi σ (t + 2), ?_⟩
    rw [sr_self]
    have h1 : gi σ (t + 2) 0 = v := by
      have := hst
      simp [rowl] at this
      exact this
    simp [h1]
  | cons c rest ih =>
    intro i st σ fu v hd hi hc hcode hk hst h32 hv hfu
    obtain ⟨fu, rfl⟩ : ∃ f, fu = f + 1 := ⟨fu - 1, by omega⟩
    simp only [List.length_cons] at hi hfu
    have hil : i < cs.length := by omega
    have hci : cs[i] = c := by
      have := List.drop_eq_getElem_cons hil
      rw [hd] at this
      injection this with h1 h2
      exact h1.symm
    have hdr : cs.drop (i + 1) = rest := by
      have := List.drop_eq_getElem_cons hil
      rw [hd] at this
      injection this with h1 h2
      exact h2.symm
    have hcb := hcs c (by rw [← hci]; exact List.getElem_mem hil)
    have hread : gi σ (t + 1) ((i : Int)).toNat = c := by rw [Int.toNat_natCast, hcode i hil, hci]
    have hi1 : iw ((i : Int) + 1) = ((i + 1 : Nat) : Int) := by rw [iwc (by omega) (by omega)]; omega
    rw [l_Fo_answer_5, if_neg (by rw [hc]; omega), if_neg (by omega), oc_pos (by omega), ol_eq, hread]
    rw [rpn_cons] at hv
    unfold rpS at hv
    -- the store behind a step: only the stack's row is another
    have keep : ∀ (f : Nat → Int), gi (sr σ (t + 2) f) t 2 = cs.length ∧ (∀ j (h : j < cs.length), gi (sr σ (t + 2) f) (t + 1) j = cs[j]) ∧ (∀ j, j < 6 → gi (sr σ (t + 2) f) u1 j = kn j) := by
      intro f
      refine ⟨?_, ?_, ?_⟩
      · rw [gi_sr_n _ _ (by omega)]; exact hc
      · intro j h; rw [gi_sr_n _ _ (by omega)]; exact hcode j h
      · intro j h; rw [gi_sr_n _ _ hu]; exact hk j h
    by_cases h6 : -6 ≤ c
    · rw [if_pos h6] at hv
      by_cases hl : 32 ≤ st.length
      · rw [if_pos hl] at hv; cases hv
      rw [if_neg hl] at hv
      rw [if_neg (by omega), if_neg (by omega), hrn, iwc (x := -1 - c) (by omega) (by omega), if_pos (by omega)]
      have push : ∀ x : Int, x = (if 0 ≤ c then c else kn (-1 - c).toNat) → ∃ g, j_Fo_answer_81 t u1 (l_Fo_answer_5 t u1 y2 fu) y2 st.length i st.length x σ = some (v, sr σ (t + 2) g) := by
        intro x hx
        unfold j_Fo_answer_81
        rw [oc_pos (by omega), os_eq, si_sr, hi1, Int.toNat_natCast, iwc (x := (st.length : Int) + 1) (by omega) (by omega)]
        have hlen : ((st.length : Int) + 1) = (((x :: st).length : Nat) : Int) := by simp
        rw [hlen]
        obtain ⟨k1, k2, k3⟩ := keep (fun j => if j = st.length then x else gi σ (t + 2) j)
        obtain ⟨g, hg⟩ := ih (i + 1) (x :: st) _ fu v hdr (by omega) k1 k2 k3 (by
          rw [List.length_cons, rowl_s, gi_sr_s, if_pos rfl]
          congr 1
          rw [← hst, rowl_len]
          apply rowl_congr
          intro j hj
          rw [if_neg (by omega)]) (by simp only [List.length_cons]; omega) (by rw [hx]; exact hv) (by omega)
        exact ⟨g, by rw [hg, sr_sr]⟩
      by_cases h0 : c < 0
      · rw [if_pos h0, oc_pos (by omega)]
        apply push
        rw [if_neg (by omega)]
        exact hk _ (by omega)
      · rw [if_neg h0]
        apply push
        rw [if_pos (by omega)]
    · rw [if_neg h6] at hv
      rw [if_pos (by omega)]
      by_cases h273 : c = -273
      · rw [if_pos h273] at hv ⊢
        match st, hst, h32, hv with
        | [], _, _, hv => cases hv
        | a :: st, hst, h32, hv =>
          have e1 : iw ((((a :: st).length : Nat) : Int) - 1) = (st.length : Int) := by rw [iwc (by simp only [List.length_cons]; omega) (by simp only [List.length_cons] at h32 ⊢; omega)]; simp
          rw [if_pos (by simp only [List.length_cons]; omega), e1, oc_pos (by simp only [List.length_cons] at h32; omega), Int.toNat_natCast]
          rw [List.length_cons, rowl_s] at hst
          injection hst with ha hst
          have put : ∀ x : Int, x = (if a = 0 then 1 else 0) → ∃ g, j_Fo_answer_126 t u1 (l_Fo_answer_5 t u1 y2 fu) y2 ((a :: st).length : Nat) i st.length x σ = some (v, sr σ (t + 2) g) := by
            intro x hx
            unfold j_Fo_answer_126
            rw [oc_pos (by simp only [List.length_cons] at h32; omega), os_eq, si_sr, hi1, Int.toNat_natCast]
            have hlen : (a :: st).length = (x :: st).length := by simp
            rw [hlen]
            obtain ⟨k1, k2, k3⟩ := keep (fun j => if j = st.length then x else gi σ (t + 2) j)
            obtain ⟨g, hg⟩ := ih (i + 1) (x :: st) _ fu v hdr (by omega) k1 k2 k3 (by
              rw [List.length_cons, rowl_s, gi_sr_s, if_pos rfl]
              congr 1
              rw [← hst, rowl_len]
              apply rowl_congr
              intro j hj
              rw [if_neg (by omega)]) (by simpa using h32) (by rw [hx]; exact hv) (by omega)
            exact ⟨g, by rw [hg, sr_sr]⟩
          rw [ha]
          by_cases ha0 : a = 0
          · rw [if_pos ha0]; apply put; rw [if_pos ha0]
          · rw [if_neg ha0]; apply put; rw [if_neg ha0]
      · rw [if_neg h273] at hv ⊢
        match st, hst, h32, hv with
        | [], _, _, hv => cases hv
        | [a], _, _, hv => cases hv
        | b :: a :: st, hst, h32, hv =>
          simp only [List.length_cons] at h32 hst
          have e1 : iw ((((b :: a :: st).length : Nat) : Int) + (-1)) = ((st.length + 1 : Nat) : Int) := by rw [iwc (by simp only [List.length_cons]; omega) (by simp only [List.length_cons]; omega)]; simp; omega
          have e2 : iw (((st.length + 1 : Nat) : Int) - 1) = (st.length : Int) := by rw [iwc (by omega) (by omega)]; omega
          rw [if_pos (by simp only [List.length_cons]; omega), e1, e2, oc_pos (by omega), oc_pos (by omega), Int.toNat_natCast, Int.toNat_natCast, iwc (x := -c) (by omega) (by omega)]
          rw [rowl_s, rowl_s] at hst
          injection hst with hb hst
          injection hst with ha hst
          rw [hb, ha, f_Fo_join_eq, ob_eq, oc_pos (by omega), os_eq, si_sr, hi1]
          have hlen : ((st.length + 1 : Nat) : Int) = (((jn (-c) a b :: st).length : Nat) : Int) := by simp
          rw [hlen]
          obtain ⟨k1, k2, k3⟩ := keep (fun j => if j = st.length then jn (-c) a b else gi σ (t + 2) j)
          obtain ⟨g, hg⟩ := ih (i + 1) (jn (-c) a b :: st) _ fu v hdr (by omega) k1 k2 k3 (by
            rw [List.length_cons, rowl_s, gi_sr_s, if_pos rfl]
            congr 1
            rw [← hst, rowl_len]
            apply rowl_congr
            intro j hj
            rw [if_neg (by omega)]) (by simp only [List.length_cons]; omega) hv (by omega)
          exact ⟨g, by rw [hg, sr_sr]⟩
theorem x_answer (t u1 : Nat) (hu : u1 ≠ t + 2) (hrn : rN u1 = 6) (kn : Nat → Int) (cs : List Int) (hw : WFc cs) (y2 : Int) (σ : SS) (hc : gi σ t 2 = cs.length) (hcode : ∀ j (h : j < cs.length), gi σ (t + 1) j = cs[j]) (hk : ∀ j, j < 6 → gi σ u1 j = kn j) : ∃ g, f_Fo_answer t u1 y2 σ = some (evS cs kn, sr σ (t + 2) g) := by
  have h := x_ans_loop t u1 hu hrn kn cs hw.2.2 hw.2.1 y2 cs 0 [] σ FU (evS cs kn) rfl (by simp) hc hcode hk rfl (by simp) (evS_eq hw kn) (by have := hw.2.1; unfold FU; omega)
  exact h
theorem x_answer0 (t u1 : Nat) (y2 : Int) (σ : SS) (hc : gi σ t 2 = 0) : f_Fo_answer t u1 y2 σ = some (y2, σ) := by
  unfold f_Fo_answer FU
  rw [l_Fo_answer_5, if_pos (by rw [hc]; omega)]
  unfold j_Fo_answer_174
  simp
