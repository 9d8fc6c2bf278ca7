/-! formulas: steps and what waits, on both sides -/
theorem x_add {r : Nat} {σ : SS} {n : Nat} (h : gi σ r 2 = n) (hn : n < 320) (a : Int) : f_Fo_add r a σ = some (0, si (si σ (r + 1) n a) r 2 ((n + 1 : Nat) : Int)) := by
  unfold f_Fo_add
  rw [h, if_neg (by omega), if_neg (by omega), oc_pos (by omega), os_eq, Int.toNat_natCast, gi_ne_r _ _ _ _ (show r ≠ r + 1 by omega), h, iwc (by omega) (by omega), os_eq, show (n : Int) + 1 = ((n + 1 : Nat) : Int) by omega]
theorem x_emit {τ : SS} {q : Nat} (h : gi τ 86 42 = q) (hq : q < 1120) (a v : Int) : f_Mo_emit a v τ = some (0, si (si (si τ 113 q a) 114 q v) 86 42 ((q + 1 : Nat) : Int)) := by
  have e1 : gi (si τ 113 q a) 86 42 = q := by rw [gi_ne_r _ _ _ _ (by omega)]; exact h
  have e2 : gi (si (si τ 113 q a) 114 q v) 86 42 = q := by rw [gi_ne_r _ _ _ _ (by omega)]; exact e1
  unfold f_Mo_emit
  rw [h, oc_pos (by omega), os_eq, Int.toNat_natCast, e1, oc_pos (by omega), os_eq, Int.toNat_natCast, e2, iwc (by omega) (by omega), os_eq, show (q : Int) + 1 = ((q + 1 : Nat) : Int) by omega]
theorem x_await {σ : SS} {c : Nat} (h : gi σ 44 2 = c) (hc : c < 60) (a : Int) : f_FR_await a σ = some (1, si (si σ 45 c a) 44 2 ((c + 1 : Nat) : Int)) := by
  unfold f_FR_await
  rw [h, if_neg (by omega), if_pos (by omega), oc_pos (by omega), os_eq, Int.toNat_natCast, gi_ne_r _ _ _ _ (show 44 ≠ 45 by omega), h, iwc (by omega) (by omega), os_eq, show (c : Int) + 1 = ((c + 1 : Nat) : Int) by omega]
theorem x_pushE {τ : SS} {c : Nat} (h : gi τ 86 44 = c) (hc : c < 90) (a v : Int) : f_Mo_pushE a v τ = some (0, si (si (si τ 115 c a) 116 c v) 86 44 ((c + 1 : Nat) : Int)) := by
  have e1 : gi (si τ 115 c a) 86 44 = c := by rw [gi_ne_r _ _ _ _ (by omega)]; exact h
  have e2 : gi (si (si τ 115 c a) 116 c v) 86 44 = c := by rw [gi_ne_r _ _ _ _ (by omega)]; exact e1
  unfold f_Mo_pushE
  rw [h, oc_pos (by omega), os_eq, Int.toNat_natCast, e1, oc_pos (by omega), os_eq, Int.toNat_natCast, e2, iwc (by omega) (by omega), os_eq, show (c : Int) + 1 = ((c + 1 : Nat) : Int) by omega]
def tpB : List Int → Int
  | [] => 0
  | x :: _ => bd x
def cmB : List Int → Int
  | [] => 0
  | y :: _ => if bd y = 4 then 1 else 0
theorem x_bindTop {σ : SS} {rs : List Int} (h : gi σ 44 2 = rs.length) (h60 : rs.length ≤ 60) (hr : rowl (gi σ 45) rs.length = rs) : f_FR_bindingOnTop σ = some (tpB rs, σ) := by
  unfold f_FR_bindingOnTop
  rw [h]
  match rs, h60, hr with
  | [], _, _ => rw [if_pos (by simp)]; rfl
  | x :: rs, h60, hr =>
    have ht := rowl_top _ _ _ hr
    rw [List.length_cons] at h60 ⊢
    rw [if_neg (by omega), if_neg (by omega), iwc (by omega) (by omega), oc_pos (by omega), show ((((rs.length + 1 : Nat) : Int)) - 1).toNat = rs.length by omega, ht, x_bindingOf, ob_eq]
    rfl
abbrev PSe (r : Nat) : Nat → Nat → Prop := fun r' k => r' = 44 ∧ (k = 2 ∨ k = 4) ∨ r' = r ∧ k = 2 ∨ r' = r + 1
theorem x_settleC (r : Nat) (hr : r ≤ 40) (y2 : Int) (hy : 1 ≤ y2) (qs : List Int) (hq : ∀ y ∈ qs.head?, bd y < y2) : ∀ (ps : List Int) (fu : Nat) (σ : SS) (n : Nat), ps.length < fu → (∀ x ∈ ps, wOK x ∧ x ≠ 40 ∧ y2 ≤ bd x) → gi σ 44 2 = ((ps ++ qs).length : Nat) → (ps ++ qs).length ≤ 60 → rowl (gi σ 45) (ps ++ qs).length = ps ++ qs → gi σ r 2 = n → n + ps.length ≤ 320 → gi σ 44 4 = ((naL (ps ++ qs) : Nat) : Int) → naL (ps ++ qs) ≤ 100 → Wp (l_FR_settle_0 r y2 fu σ) fun _ σ' => EqP (PSe r) σ σ' ∧ gi σ' 44 2 = (qs.length : Nat) ∧ gi σ' 44 4 = ((naL qs : Nat) : Int) ∧ gi σ' r 2 = ((n + ps.length : Nat) : Int) ∧ (∀ j, j < n → gi σ' (r + 1) j = gi σ (r + 1) j) ∧ ∀ j, j < ps.length → gi σ' (r + 1) (n + j) = -(ps.getD j 0) := by
  intro ps
  induction ps with
  | nil =>
    intro fu σ n hfu _ h2 h60 hrow hn hle h4 h100
    obtain ⟨fu, rfl⟩ : ∃ f, fu = f + 1 := ⟨fu - 1, by omega⟩
    have hfin : EqP (PSe r) σ σ ∧ gi σ 44 2 = (qs.length : Nat) ∧ gi σ 44 4 = ((naL qs : Nat) : Int) ∧ gi σ r 2 = ((n + ([] : List Int).length : Nat) : Int) ∧ (∀ j, j < n → gi σ (r + 1) j = gi σ (r + 1) j) ∧ ∀ j, j < ([] : List Int).length → gi σ (r + 1) (n + j) = -(([] : List Int).getD j 0) := ⟨EqP.rf _ _, h2, h4, hn, fun j _ => rfl, fun j hj => absurd hj (Nat.not_lt_zero _)⟩
    rw [List.nil_append] at h2 h60 hrow
    rw [l_FR_settle_0]
    by_cases h0 : gi σ 44 2 ≤ 0
    · exact wp_t h0 (wp_some hfin)
    · refine wp_f h0 (wp_f (by omega) (wp_eq (x_bindTop h2 h60 hrow) (wp_t ?_ (wp_some hfin))))
      cases qs with
      | nil => exfalso; rw [h2] at h0; simp at h0
      | cons y qs => exact hq y (by simp)
  | cons x ps ih =>
    intro fu σ n hfu hps h2 h60 hrow hn hle h4 h100
    obtain ⟨fu, rfl⟩ : ∃ f, fu = f + 1 := ⟨fu - 1, by omega⟩
    obtain ⟨x1, x2, x3⟩ := hps x List.mem_cons_self
    obtain ⟨_, _, _, _, x5, x6⟩ := wOK_cm x1 x2
    have htop := rowl_top _ _ _ hrow
    rw [List.cons_append] at h2 h60 hrow h4 h100
    have hb := x_bindTop h2 h60 hrow
    rw [List.length_cons] at hfu h60 h2 hle
    rw [naL] at h4 h100
    rw [l_FR_settle_0]
    refine wp_f (by omega) (wp_f (by omega) (wp_eq hb (wp_f (show ¬ bd x < y2 by omega) (wp_os ?_))))
    rw [h2, iwc (by omega) (by omega), show (((ps ++ qs).length + 1 : Nat) : Int) - 1 = (((ps ++ qs).length : Nat) : Int) by omega]
    have hE1 : EqP (PSe r) σ (si σ 44 2 (((ps ++ qs).length : Nat) : Int)) := EqP.si (EqP.rf _ _) _ _ _ (by omega)
    have g2 : gi (si σ 44 2 (((ps ++ qs).length : Nat) : Int)) 44 2 = (((ps ++ qs).length : Nat) : Int) := gi_same _ _ _ _
    have g4 : gi (si σ 44 2 (((ps ++ qs).length : Nat) : Int)) 44 4 = gi σ 44 4 := gi_ne_k _ _ _ _ (by omega)
    have gn : gi (si σ 44 2 (((ps ++ qs).length : Nat) : Int)) r 2 = n := by rw [gi_ne_r _ _ _ _ (by omega)]; exact hn
    have go : ∀ j, gi (si σ 44 2 (((ps ++ qs).length : Nat) : Int)) (r + 1) j = gi σ (r + 1) j := fun j => gi_ne_r _ _ _ _ (by omega)
    generalize si σ 44 2 (((ps ++ qs).length : Nat) : Int) = s1 at hE1 g2 g4 gn go ⊢
    have t1 : gi s1 45 (ps ++ qs).length = x := by rw [hE1.i _ _ (by omega)]; exact htop
    refine wp_oc (by omega) ?_
    rw [g2, Int.toNat_natCast, t1]
    unfold f_Fo_addOperator
    rw [iwc (x := -x) (by omega) (by omega), x_add gn (by omega), ob_eq, ob_eq]
    have hE2 : EqP (PSe r) σ (si (si s1 (r + 1) n (-x)) r 2 ((n + 1 : Nat) : Int)) := EqP.si (EqP.si hE1 _ _ _ (by omega)) _ _ _ (by omega)
    have k2 : gi (si (si s1 (r + 1) n (-x)) r 2 ((n + 1 : Nat) : Int)) 44 2 = (((ps ++ qs).length : Nat) : Int) := by rw [gi_ne_r _ _ _ _ (by omega), gi_ne_r _ _ _ _ (by omega)]; exact g2
    have k4 : gi (si (si s1 (r + 1) n (-x)) r 2 ((n + 1 : Nat) : Int)) 44 4 = gi σ 44 4 := by rw [gi_ne_r _ _ _ _ (by omega), gi_ne_r _ _ _ _ (by omega)]; exact g4
    have kn : gi (si (si s1 (r + 1) n (-x)) r 2 ((n + 1 : Nat) : Int)) r 2 = ((n + 1 : Nat) : Int) := gi_same _ _ _ _
    have kx : gi (si (si s1 (r + 1) n (-x)) r 2 ((n + 1 : Nat) : Int)) (r + 1) n = -x := by rw [gi_ne_r _ _ _ _ (by omega), gi_same]
    have ko : ∀ j, j < n → gi (si (si s1 (r + 1) n (-x)) r 2 ((n + 1 : Nat) : Int)) (r + 1) j = gi σ (r + 1) j := fun j hj => by rw [gi_ne_r _ _ _ _ (by omega), gi_ne_k _ _ _ _ (by omega)]; exact go j
    generalize si (si s1 (r + 1) n (-x)) r 2 ((n + 1 : Nat) : Int) = s2 at hE2 k2 k4 kn kx ko ⊢
    have t2 : gi s2 45 (ps ++ qs).length = x := by rw [hE2.i _ _ (by omega)]; exact htop
    refine wp_oc (by omega) ?_
    rw [k2, Int.toNat_natCast, t2]
    have hrow2 : rowl (gi s2 45) (ps ++ qs).length = ps ++ qs := by
      have e : rowl (gi s2 45) (ps ++ qs).length = rowl (gi σ 45) (ps ++ qs).length := rowl_congr (fun i _ => hE2.i _ _ (by omega))
      rw [e]
      exact rowl_drop (gi σ 45) [x] (ps ++ qs) hrow
    have fin : ∀ s3, EqP (fun r' k => r' = 44 ∧ k = 4) s2 s3 → gi s3 44 4 = ((naL (ps ++ qs) : Nat) : Int) → Wp (l_FR_settle_0 r y2 fu s3) fun _ σ' => EqP (PSe r) σ σ' ∧ gi σ' 44 2 = (qs.length : Nat) ∧ gi σ' 44 4 = ((naL qs : Nat) : Int) ∧ gi σ' r 2 = ((n + (x :: ps).length : Nat) : Int) ∧ (∀ j, j < n → gi σ' (r + 1) j = gi σ (r + 1) j) ∧ ∀ j, j < (x :: ps).length → gi σ' (r + 1) (n + j) = -((x :: ps).getD j 0) := by
      intro s3 hE3 h43
      refine wp_mono (ih fu s3 (n + 1) (by omega) (fun y hy => hps y (List.mem_cons_of_mem _ hy)) (by rw [hE3.i _ _ (by omega)]; exact k2) (by omega) ?_ (by rw [hE3.i _ _ (by omega)]; exact kn) (by omega) h43 (by omega)) ?_
      · have e : rowl (gi s3 45) (ps ++ qs).length = rowl (gi s2 45) (ps ++ qs).length := rowl_congr (fun i _ => hE3.i _ _ (by omega))
        rw [e]; exact hrow2
      · rintro _ σ' ⟨a1, a2, a3, a4, a5, a6⟩
        refine ⟨(hE2.tr (hE3.mo (fun r k z => by omega))).tr a1, a2, a3, by rw [a4, List.length_cons]; omega, fun j hj => ?_, fun j hj => ?_⟩
        · rw [a5 j (by omega), hE3.i _ _ (by omega)]; exact ko j hj
        · rw [List.length_cons] at hj
          cases j with
          | zero =>
            show gi σ' (r + 1) n = -x
            rw [a5 n (by omega), hE3.i _ _ (by omega), kx]
          | succ j =>
            rw [show n + (j + 1) = n + 1 + j by omega, a6 j (by omega)]
            rfl
    by_cases h273 : x = 273
    · refine wp_t h273 (wp_os ?_)
      rw [if_pos (Or.inr h273)] at h4
      rw [k4, h4, iwc (by omega) (by omega)]
      exact fin _ (EqP.si (EqP.rf _ _) _ _ _ (by omega)) (by rw [gi_same]; omega)
    · refine wp_f h273 ?_
      rw [if_neg (by omega)] at h4
      exact fin s2 (EqP.rf _ _) (by rw [k4, h4]; omega)
/-- the reference's row of what waits: the whole at the bottom -/
def MSt (τ : SS) (rs : List Int) : Prop := gi τ 86 44 = ((rs.length + 1 : Nat) : Int) ∧ gi τ 115 0 = 8 ∧ rowl (fun i => gi τ 115 (i + 1)) rs.length = rs.map rkE ∧ rowl (fun i => gi τ 116 (i + 1)) rs.length = rs.map sgE
theorem MSt.top {τ : SS} {x : Int} {rs : List Int} (h : MSt τ (x :: rs)) : gi τ 115 (rs.length + 1) = rkE x ∧ gi τ 116 (rs.length + 1) = sgE x := by
  obtain ⟨_, _, h3, h4⟩ := h
  rw [List.map_cons, List.length_cons, rowl_s] at h3 h4
  injection h3 with h3 _
  injection h4 with h4 _
  exact ⟨h3, h4⟩
theorem MSt.pop {P : Nat → Nat → Prop} {τ τ' : SS} {x : Int} {rs : List Int} (h : MSt τ (x :: rs)) (he : EqP P τ τ') (hp : ∀ r k, P r k → r ≠ 115 ∧ r ≠ 116) (h2 : gi τ' 86 44 = ((rs.length + 1 : Nat) : Int)) : MSt τ' rs := by
  obtain ⟨_, h1, h3, h4⟩ := h
  rw [List.map_cons, List.length_cons, rowl_s] at h3 h4
  injection h3 with _ h3
  injection h4 with _ h4
  refine ⟨h2, by rw [he.i _ _ (fun z => (hp _ _ z).1 rfl)]; exact h1, ?_, ?_⟩
  · rw [← h3]; exact rowl_congr (fun i _ => he.i _ _ (fun z => (hp _ _ z).1 rfl))
  · rw [← h4]; exact rowl_congr (fun i _ => he.i _ _ (fun z => (hp _ _ z).2 rfl))
theorem MSt.of {P : Nat → Nat → Prop} {τ τ' : SS} {rs : List Int} (h : MSt τ rs) (he : EqP P τ τ') (hp : ∀ r k, P r k → r ≠ 115 ∧ r ≠ 116 ∧ (r ≠ 86 ∨ k ≠ 44)) : MSt τ' rs := by
  obtain ⟨h0, h1, h3, h4⟩ := h
  refine ⟨by rw [he.i _ _ (fun z => by have := hp _ _ z; omega)]; exact h0, by rw [he.i _ _ (fun z => (hp _ _ z).1 rfl)]; exact h1, ?_, ?_⟩
  · rw [← h3]; exact rowl_congr (fun i _ => he.i _ _ (fun z => (hp _ _ z).1 rfl))
  · rw [← h4]; exact rowl_congr (fun i _ => he.i _ _ (fun z => (hp _ _ z).2.1 rfl))
theorem MSt.push {τ : SS} {rs : List Int} (h : MSt τ rs) (x : Int) : MSt (si (si (si τ 115 (rs.length + 1) (rkE x)) 116 (rs.length + 1) (sgE x)) 86 44 ((rs.length + 1 + 1 : Nat) : Int)) (x :: rs) := by
  obtain ⟨h0, h1, h3, h4⟩ := h
  refine ⟨gi_same _ _ _ _, ?_, ?_, ?_⟩
  · rw [gi_ne_r _ _ _ _ (by omega), gi_ne_r _ _ _ _ (by omega), gi_ne_k _ _ _ _ (by omega)]; exact h1
  · rw [List.map_cons, List.length_cons, rowl_s, gi_ne_r _ _ _ _ (show 115 ≠ 86 by omega), gi_ne_r _ _ _ _ (show 115 ≠ 116 by omega), gi_same, ← h3]
    congr 1
    exact rowl_congr (fun i hi => by rw [gi_ne_r _ _ _ _ (show 115 ≠ 86 by omega), gi_ne_r _ _ _ _ (show 115 ≠ 116 by omega), gi_ne_k _ _ _ _ (by omega)])
  · rw [List.map_cons, List.length_cons, rowl_s, gi_ne_r _ _ _ _ (show 116 ≠ 86 by omega), gi_same, ← h4]
    congr 1
    exact rowl_congr (fun i hi => by rw [gi_ne_r _ _ _ _ (show 116 ≠ 86 by omega), gi_ne_k _ _ _ _ (by omega), gi_ne_r _ _ _ _ (show 116 ≠ 115 by omega)])
abbrev PPo (q m : Nat) : Nat → Nat → Prop := fun r k => r = 86 ∧ (k = 42 ∨ k = 43 ∨ k = 44) ∨ (r = 113 ∨ r = 114) ∧ q ≤ k ∧ k < q + m
theorem x_popM (y1 : Int) (qs : List Int) (hq : ∀ y ∈ qs.head?, 6 < rkE y ∨ rkE y < y1) (Q : Int → SS → Prop) (τ0 : SS) : ∀ (ps : List Int) (fu q : Nat) (τ : SS), ps.length < fu → (∀ x ∈ ps, wOK x ∧ x ≠ 40 ∧ y1 ≤ rkE x) → MSt τ (ps ++ qs) → (ps ++ qs).length ≤ 80 → gi τ 86 42 = q → q + ps.length ≤ 1120 → gi τ 86 43 = ((naL (ps ++ qs) : Nat) : Int) → naL (ps ++ qs) ≤ 100 →
    (∀ τ', EqP (PPo q ps.length) τ τ' → MSt τ' qs → gi τ' 86 43 = ((naL qs : Nat) : Int) → gi τ' 86 42 = ((q + ps.length : Nat) : Int) → (∀ j, j < ps.length → gi τ' 113 (q + j) = sgE (ps.getD j 0)) → Wp (j_Mo_behindUnit_104 y1 τ') Q) → Wp (l_Mo_behindUnit_23 y1 fu τ) Q := by
  intro ps
  induction ps with
  | nil =>
    intro fu q τ hfu _ hM h80 h42 hle h43 h100 hK
    obtain ⟨fu, rfl⟩ : ∃ f, fu = f + 1 := ⟨fu - 1, by omega⟩
    have hfin := hK τ (EqP.rf _ _) hM h43 h42 (fun j hj => absurd hj (Nat.not_lt_zero _))
    rw [List.nil_append] at hM h80
    rw [l_Mo_behindUnit_23, hM.1, iwc (by omega) (by omega), show ((qs.length + 1 : Nat) : Int) - 1 = (qs.length : Int) by omega]
    refine wp_oc (by omega) ?_
    rw [Int.toNat_natCast]
    cases qs with
    | nil =>
      refine wp_t ?_ hfin
      rw [show ([] : List Int).length = 0 from rfl, hM.2.1]
      decide
    | cons y qs =>
      have ht := hM.top.1
      have hy := hq y (by simp)
      rw [List.length_cons, ht]
      by_cases h6 : 6 < rkE y
      · exact wp_t h6 hfin
      · exact wp_f h6 (wp_oc (by rw [List.length_cons] at h80; omega) (wp_t (by omega) hfin))
  | cons x ps ih =>
    intro fu q τ hfu hps hM h80 h42 hle h43 h100 hK
    obtain ⟨fu, rfl⟩ : ∃ f, fu = f + 1 := ⟨fu - 1, by omega⟩
    obtain ⟨x1, x2, x3⟩ := hps x List.mem_cons_self
    rw [List.cons_append] at hM h80 h43 h100
    have ht := hM.top
    have hrk : rkE x ≤ 6 := by rcases wOK_bd x1 with h | h | h <;> omega
    rw [List.length_cons] at hfu hle h80
    rw [naL] at h43 h100
    rw [l_Mo_behindUnit_23, hM.1, List.length_cons, iwc (x := (((ps ++ qs).length + 1 + 1 : Nat) : Int) - 1) (by omega) (by omega), show (((ps ++ qs).length + 1 + 1 : Nat) : Int) - 1 = (((ps ++ qs).length + 1 : Nat) : Int) by omega, Int.toNat_natCast, ht.1]
    refine wp_oc (by omega) (wp_f (by omega) (wp_oc (by omega) (wp_f (by omega) (wp_os ?_))))
    have hE1 : EqP (fun r k => r = 86 ∧ k = 44) τ (si τ 86 44 (((ps ++ qs).length + 1 : Nat) : Int)) := EqP.si (EqP.rf _ _) _ _ _ (by omega)
    have hM1 : MSt (si τ 86 44 (((ps ++ qs).length + 1 : Nat) : Int)) (ps ++ qs) := hM.pop hE1 (fun r k z => by omega) (gi_same _ _ _ _)
    have k42 : gi (si τ 86 44 (((ps ++ qs).length + 1 : Nat) : Int)) 86 42 = q := by rw [gi_ne_k _ _ _ _ (by omega)]; exact h42
    have k43 : gi (si τ 86 44 (((ps ++ qs).length + 1 : Nat) : Int)) 86 43 = gi τ 86 43 := gi_ne_k _ _ _ _ (by omega)
    have k44 : gi (si τ 86 44 (((ps ++ qs).length + 1 : Nat) : Int)) 86 44 = (((ps ++ qs).length + 1 : Nat) : Int) := gi_same _ _ _ _
    have kt : gi (si τ 86 44 (((ps ++ qs).length + 1 : Nat) : Int)) 115 ((ps ++ qs).length + 1) = rkE x ∧ gi (si τ 86 44 (((ps ++ qs).length + 1 : Nat) : Int)) 116 ((ps ++ qs).length + 1) = sgE x := ⟨by rw [hE1.i _ _ (by omega)]; exact ht.1, by rw [hE1.i _ _ (by omega)]; exact ht.2⟩
    generalize si τ 86 44 (((ps ++ qs).length + 1 : Nat) : Int) = τ1 at hE1 hM1 k42 k43 k44 kt ⊢
    refine wp_oc (by omega) ?_
    rw [k44, Int.toNat_natCast, kt.1]
    have step : ∀ τ2, EqP (fun r k => r = 86 ∧ k = 43) τ1 τ2 → gi τ2 86 43 = ((naL (ps ++ qs) : Nat) : Int) → Wp (j_Mo_behindUnit_87 (l_Mo_behindUnit_23 y1 fu) y1 τ2) Q := by
      intro τ2 hE2 n43
      have hM2 : MSt τ2 (ps ++ qs) := hM1.of hE2 (fun r k z => by omega)
      have n42 : gi τ2 86 42 = q := by rw [hE2.i _ _ (by omega)]; exact k42
      have n44 : gi τ2 86 44 = (((ps ++ qs).length + 1 : Nat) : Int) := by rw [hE2.i _ _ (by omega)]; exact k44
      have nt : gi τ2 116 ((ps ++ qs).length + 1) = sgE x := by rw [hE2.i _ _ (by omega)]; exact kt.2
      unfold j_Mo_behindUnit_87
      refine wp_oc (by omega) ?_
      rw [n44, Int.toNat_natCast, nt, x_emit n42 (by omega), ob_eq]
      have hE3 : EqP (PPo q 1) τ2 (si (si (si τ2 113 q (sgE x)) 114 q 0) 86 42 ((q + 1 : Nat) : Int)) := EqP.si (EqP.si (EqP.si (EqP.rf _ _) _ _ _ (by omega)) _ _ _ (by omega)) _ _ _ (by omega)
      have hM3 : MSt (si (si (si τ2 113 q (sgE x)) 114 q 0) 86 42 ((q + 1 : Nat) : Int)) (ps ++ qs) := hM2.of (P := fun r k => r = 86 ∧ k = 42 ∨ r = 113 ∨ r = 114) (EqP.si (EqP.si (EqP.si (EqP.rf _ _) _ _ _ (by omega)) _ _ _ (by omega)) _ _ _ (by omega)) (fun r k z => by omega)
      have m42 : gi (si (si (si τ2 113 q (sgE x)) 114 q 0) 86 42 ((q + 1 : Nat) : Int)) 86 42 = ((q + 1 : Nat) : Int) := gi_same _ _ _ _
      have m43 : gi (si (si (si τ2 113 q (sgE x)) 114 q 0) 86 42 ((q + 1 : Nat) : Int)) 86 43 = ((naL (ps ++ qs) : Nat) : Int) := by rw [gi_ne_k _ _ _ _ (by omega), gi_ne_r _ _ _ _ (by omega), gi_ne_r _ _ _ _ (by omega)]; exact n43
      have m113 : gi (si (si (si τ2 113 q (sgE x)) 114 q 0) 86 42 ((q + 1 : Nat) : Int)) 113 q = sgE x := by rw [gi_ne_r _ _ _ _ (by omega), gi_ne_r _ _ _ _ (by omega), gi_same]
      generalize si (si (si τ2 113 q (sgE x)) 114 q 0) 86 42 ((q + 1 : Nat) : Int) = τ3 at hE3 hM3 m42 m43 m113 ⊢
      refine ih fu (q + 1) τ3 (by omega) (fun y hy => hps y (List.mem_cons_of_mem _ hy)) hM3 (by omega) m42 (by omega) m43 (by omega) ?_
      intro τ' hE' hM' h43' h42' h113'
      refine hK τ' ?_ hM' h43' (by rw [h42', List.length_cons]; omega) (fun j hj => ?_)
      · rw [List.length_cons]
        exact (((hE1.mo (fun r k z => by omega)).tr (hE2.mo (fun r k z => by omega))).tr (hE3.mo (fun r k z => by omega))).tr (hE'.mo (fun r k z => by omega))
      · rw [List.length_cons] at hj
        cases j with
        | zero =>
          show gi τ' 113 q = sgE x
          rw [hE'.i _ _ (by omega), m113]
        | succ j =>
          rw [show q + (j + 1) = q + 1 + j by omega, h113' j (by omega)]
          rfl
    by_cases h273 : x = 273
    · have hr3 : rkE x = 3 := by rw [h273]; decide
      refine wp_t hr3 (wp_os ?_)
      rw [if_pos (Or.inr h273)] at h43
      rw [k43, h43, iwc (by omega) (by omega)]
      exact step _ (EqP.si (EqP.rf _ _) _ _ _ (by omega)) (by rw [gi_same]; omega)
    · have hr3 : rkE x ≠ 3 := by rcases wOK_bd x1 with h | h | h <;> omega
      refine wp_f hr3 ?_
      rw [if_neg (by omega)] at h43
      exact step τ1 (EqP.rf _ _) (by rw [k43, h43]; omega)
theorem x_compared (qs : List Int) (hq : ∀ y ∈ qs.head?, bd y < 5) (hw : ∀ y ∈ qs.head?, wOK y) (τ : SS) (h0 : gi τ 115 0 = 8) : ∀ (ps : List Int) (fu : Nat), ps.length < fu → (∀ x ∈ ps, wOK x ∧ 5 ≤ bd x) → rowl (fun i => gi τ 115 (i + 1)) (ps ++ qs).length = (ps ++ qs).map rkE → (ps ++ qs).length ≤ 80 → l_Mo_isCompared_7 fu (((ps ++ qs).length : Nat) : Int) τ = some (cmB qs, τ) := by
  intro ps
  induction ps with
  | nil =>
    intro fu hfu _ hM h80
    obtain ⟨fu, rfl⟩ : ∃ f, fu = f + 1 := ⟨fu - 1, by omega⟩
    rw [List.nil_append] at hM h80 ⊢
    rw [l_Mo_isCompared_7, oc_pos (by omega), Int.toNat_natCast]
    cases qs with
    | nil =>
      rw [show ([] : List Int).length = 0 from rfl, h0, if_neg (by decide), oc_pos (by decide), if_neg (by decide), oc_pos (by decide), if_neg (by decide)]
      rfl
    | cons y qs =>
      rw [List.map_cons, List.length_cons, rowl_s] at hM
      injection hM with ht _
      have hy := hq y (by simp)
      have hyw := wOK_bd (hw y (by simp))
      rw [List.length_cons] at h80 ⊢
      rw [ht, if_neg (by omega), oc_pos (by omega), if_neg (by omega), oc_pos (by omega)]
      show (if rkE y = 4 then _ else _) = some ((if bd y = 4 then 1 else 0), τ)
      by_cases h4 : bd y = 4
      · rw [if_pos (by omega), if_pos h4]
      · rw [if_neg (by omega), if_neg h4]
  | cons x ps ih =>
    intro fu hfu hps hM h80
    obtain ⟨fu, rfl⟩ : ∃ f, fu = f + 1 := ⟨fu - 1, by omega⟩
    obtain ⟨x1, x3⟩ := hps x List.mem_cons_self
    rw [List.cons_append] at hM h80 ⊢
    rw [List.map_cons, List.length_cons, rowl_s] at hM
    injection hM with ht hM
    have hx := wOK_bd x1
    rw [List.length_cons] at h80 hfu ⊢
    have hrec : l_Mo_isCompared_7 fu (iw (((((ps ++ qs).length + 1 : Nat) : Int)) + -1)) τ = some (cmB qs, τ) := by
      rw [iwc (by omega) (by omega), show (((ps ++ qs).length + 1 : Nat) : Int) + -1 = (((ps ++ qs).length : Nat) : Int) by omega]
      exact ih fu (by omega) (fun y hy => hps y (List.mem_cons_of_mem _ hy)) hM (by omega)
    rw [l_Mo_isCompared_7, oc_pos (by omega), Int.toNat_natCast, ht]
    by_cases h5 : rkE x = 5
    · rw [if_pos h5]; exact hrec
    · rw [if_neg h5, oc_pos (by omega), if_pos (by omega)]; exact hrec
/-- the words of a unit, the signs between units -/
def kcM (k : Int) : Int := if k = 268 then 104 else if k = 274 then 103 else if k = 263 then 115 else if k = 264 then 98 else if k = 275 then 109 else if k = 276 then 108 else 0
def knC (k : Int) : Int := if k = 268 then 0 else if k = 274 then 1 else if k = 263 then 2 else if k = 264 then 3 else if k = 275 then 4 else if k = 276 then 5 else -1
theorem kc_kn (k : Int) : (knC k = -1 ∧ kcM k = 0) ∨ (0 ≤ knC k ∧ knC k ≤ 5 ∧ kcM k ≠ 0 ∧ kcM k = cmO (-1 - knC k)) := by
  unfold kcM knC
  by_cases h1 : k = 268
  · rw [if_pos h1, if_pos h1]; exact Or.inr (by decide)
  rw [if_neg h1, if_neg h1]
  by_cases h2 : k = 274
  · rw [if_pos h2, if_pos h2]; exact Or.inr (by decide)
  rw [if_neg h2, if_neg h2]
  by_cases h3 : k = 263
  · rw [if_pos h3, if_pos h3]; exact Or.inr (by decide)
  rw [if_neg h3, if_neg h3]
  by_cases h4 : k = 264
  · rw [if_pos h4, if_pos h4]; exact Or.inr (by decide)
  rw [if_neg h4, if_neg h4]
  by_cases h5 : k = 275
  · rw [if_pos h5, if_pos h5]; exact Or.inr (by decide)
  rw [if_neg h5, if_neg h5]
  by_cases h6 : k = 276
  · rw [if_pos h6, if_pos h6]; exact Or.inr (by decide)
  rw [if_neg h6, if_neg h6]
  exact Or.inl ⟨rfl, rfl⟩
theorem x_knownBy (k : Int) (σ : SS) : f_FR_knownBy k σ = some (knC k, σ) := by
  unfold f_FR_knownBy knC
  by_cases h3 : k = 263
  · subst h3; rfl
  by_cases h4 : k = 264
  · subst h4; rfl
  by_cases h1 : k = 268
  · subst h1; rfl
  by_cases h2 : k = 274
  · subst h2; rfl
  by_cases h5 : k = 275
  · subst h5; rfl
  by_cases h6 : k = 276
  · subst h6; rfl
  rw [if_neg h3, if_neg h4, if_neg h1, if_neg h2, if_neg h5, if_neg h6, if_neg h1, if_neg h2, if_neg h3, if_neg h4, if_neg h5, if_neg h6]
section
variable {B : Nat → Int} {N : Nat} {σ τ : SS} {k : Int} {p n : Nat}
theorem x_wordHere (h : TK B N σ τ k p n) : f_Mo_wordHere τ = some (kcM k, τ) := by
  have w := fun j hj => x_isWord h j hj
  have w12 : f_Mo_isWord 1751474548 τ = some (if k = ((256 + 12 : Nat) : Int) then 1 else 0, τ) := w 12 (by omega)
  have w18 : f_Mo_isWord 444301141350 τ = some (if k = ((256 + 18 : Nat) : Int) then 1 else 0, τ) := w 18 (by omega)
  have w7 : f_Mo_isWord 8319403477078864494 τ = some (if k = ((256 + 7 : Nat) : Int) then 1 else 0, τ) := w 7 (by omega)
  have w8 : f_Mo_isWord 495673373300 τ = some (if k = ((256 + 8 : Nat) : Int) then 1 else 0, τ) := w 8 (by omega)
  have w19 : f_Mo_isWord 1835625573 τ = some (if k = ((256 + 19 : Nat) : Int) then 1 else 0, τ) := w 19 (by omega)
  have w20 : f_Mo_isWord 1818584692 τ = some (if k = ((256 + 20 : Nat) : Int) then 1 else 0, τ) := w 20 (by omega)
  unfold f_Mo_wordHere kcM
  rw [w12, ob_eq]
  by_cases h1 : k = 268
  · rw [if_pos (show k = ((256 + 12 : Nat) : Int) by omega), if_neg (by decide), if_pos h1]
  rw [if_neg (show ¬ k = ((256 + 12 : Nat) : Int) by omega), if_pos rfl, if_neg h1, w18, ob_eq]
  by_cases h2 : k = 274
  · rw [if_pos (show k = ((256 + 18 : Nat) : Int) by omega), if_neg (by decide), if_pos h2]
  rw [if_neg (show ¬ k = ((256 + 18 : Nat) : Int) by omega), if_pos rfl, if_neg h2, w7, ob_eq]
  by_cases h3 : k = 263
  · rw [if_pos (show k = ((256 + 7 : Nat) : Int) by omega), if_neg (by decide), if_pos h3]
  rw [if_neg (show ¬ k = ((256 + 7 : Nat) : Int) by omega), if_pos rfl, if_neg h3, w8, ob_eq]
  by_cases h4 : k = 264
  · rw [if_pos (show k = ((256 + 8 : Nat) : Int) by omega), if_neg (by decide), if_pos h4]
  rw [if_neg (show ¬ k = ((256 + 8 : Nat) : Int) by omega), if_pos rfl, if_neg h4, w19, ob_eq]
  by_cases h5 : k = 275
  · rw [if_pos (show k = ((256 + 19 : Nat) : Int) by omega), if_neg (by decide), if_pos h5]
  rw [if_neg (show ¬ k = ((256 + 19 : Nat) : Int) by omega), if_pos rfl, if_neg h5, w20, ob_eq]
  by_cases h6 : k = 276
  · rw [if_pos (show k = ((256 + 20 : Nat) : Int) by omega), if_neg (by decide), if_pos h6]
  rw [if_neg (show ¬ k = ((256 + 20 : Nat) : Int) by omega), if_pos rfl, if_neg h6]
/-- the rank of an operator; 0: none (a not neither) -/
def rnk (k : Int) : Int := if k = 273 then 0 else bd k
theorem x_rankHere (h : TK B N σ τ k p n) : f_Mo_rankHere τ = some (rnk k, τ) := by
  have w16 : f_Mo_isWord 6385252 τ = some (if k = ((256 + 16 : Nat) : Int) then 1 else 0, τ) := x_isWord h 16 (by omega)
  have w15 : f_Mo_isWord 28530 τ = some (if k = ((256 + 15 : Nat) : Int) then 1 else 0, τ) := x_isWord h 15 (by omega)
  have s := fun c hc => x_isSignHere h c hc
  unfold f_Mo_rankHere
  rw [w16, ob_eq]
  by_cases h1 : k = 272
  · rw [if_pos (show k = ((256 + 16 : Nat) : Int) by omega), if_neg (by decide), h1]; rfl
  rw [if_neg (show ¬ k = ((256 + 16 : Nat) : Int) by omega), if_pos rfl, w15, ob_eq]
  by_cases h2 : k = 271
  · rw [if_pos (show k = ((256 + 15 : Nat) : Int) by omega), if_neg (by decide), h2]; rfl
  rw [if_neg (show ¬ k = ((256 + 15 : Nat) : Int) by omega), if_pos rfl, s 60 (by omega), ob_eq]
  by_cases h3 : k = 60
  · rw [if_pos h3, if_neg (by decide), h3]; rfl
  rw [if_neg h3, if_pos rfl, s 62 (by omega), ob_eq]
  by_cases h4 : k = 62
  · rw [if_pos h4, if_neg (by decide), h4]; rfl
  rw [if_neg h4, if_pos rfl, s 61 (by omega), ob_eq]
  by_cases h5 : k = 61
  · rw [if_pos h5, if_neg (by decide), h5]; rfl
  rw [if_neg h5, if_pos rfl, s 43 (by omega), ob_eq]
  by_cases h6 : k = 43
  · rw [if_pos h6, if_neg (by decide), h6]; rfl
  rw [if_neg h6, if_pos rfl, s 45 (by omega), ob_eq]
  by_cases h7 : k = 45
  · rw [if_pos h7, if_neg (by decide), h7]; rfl
  rw [if_neg h7, if_pos rfl, s 42 (by omega), ob_eq]
  by_cases h8 : k = 42
  · rw [if_pos h8, if_neg (by decide), h8]; rfl
  rw [if_neg h8, if_pos rfl, s 47 (by omega), ob_eq]
  by_cases h9 : k = 47
  · rw [if_pos h9, if_neg (by decide), h9]; rfl
  rw [if_neg h9, if_pos rfl, s 37 (by omega), ob_eq]
  by_cases h10 : k = 37
  · rw [if_pos h10, if_neg (by decide), h10]; rfl
  rw [if_neg h10, if_pos rfl]
  have hb : rnk k = 0 := by
    unfold rnk bd
    by_cases h11 : k = 273
    · rw [if_pos h11]
    · rw [if_neg h11, if_neg (by omega), if_neg (by omega), if_neg (by omega), if_neg (by omega), if_neg (by omega), if_neg (by omega)]
  rw [hb]
end
