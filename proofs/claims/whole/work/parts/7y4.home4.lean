/-! home: the class's search -/
def N1 (W : Nat) : Nat → Nat
  | 0 => 0
  | d + 1 => W * (1 + N1 W d) + 1
abbrev PDf (dep : Nat) : Nat → Nat → Prop := fun r k => (r = 72 ∧ dep ≤ k ∨ r = 73 ∧ dep + 1 ≤ k ∨ r = 74 ∧ 24 * (dep + 1) ≤ k) ∨ (r = 61 ∧ (k = 5 ∨ k = 19) ∨ r = 65) ∨ (76 ≤ r ∧ r ≤ 78 ∨ r = 18 ∨ r = 21)
noncomputable def gH (ld : SS) (tp : Nat → Int) (a b W : Nat) (tt : Int) (d p : Nat) (q : QQ) (w : Nat) : List (List Nat) :=
  if oth ld w p = -1 then [] else if (mhH ld tp a b w p q).1 = true then (if (mhH ld tp a b w p q).2.1 = gi ld 8 w ∧ oth ld w p = tt then [[w]] else []) else (flH ld tp a b W tt d (oth ld w p).toNat (mhH ld tp a b w p q).2.2).map (w :: ·)
theorem gH_on {ld : SS} {tp : Nat → Int} {a b W : Nat} {tt : Int} {d p : Nat} {q : QQ} {w : Nat} (pre : List Nat) (h : oth ld w p ≠ -1 → (mhH ld tp a b w p q).1 = false → d = 0) : (gH ld tp a b W tt d p q w).map (pre ++ ·) = onH ld tp a b tt pre w p q := by
  unfold gH onH
  by_cases h1 : oth ld w p = -1
  · rw [if_pos h1, if_pos h1]; rfl
  rw [if_neg h1, if_neg h1]
  by_cases h2 : (mhH ld tp a b w p q).1 = true
  · rw [if_pos h2, if_pos h2]
    by_cases h3 : (mhH ld tp a b w p q).2.1 = gi ld 8 w ∧ oth ld w p = tt
    · rw [if_pos h3, if_pos h3]; rfl
    · rw [if_neg h3, if_neg h3]; rfl
  · rw [if_neg h2, if_neg h2]
    rw [Bool.not_eq_true] at h2
    rw [h h1 h2]
    rfl
theorem gH_deep {ld : SS} {tp : Nat → Int} {a b W : Nat} {tt : Int} {d p : Nat} {q : QQ} {w : Nat} (pre : List Nat) (h1 : oth ld w p ≠ -1) (h2 : (mhH ld tp a b w p q).1 = false) : (gH ld tp a b W tt d p q w).map (pre ++ ·) = (flH ld tp a b W tt d (oth ld w p).toNat (mhH ld tp a b w p q).2.2).map ((pre ++ [w]) ++ ·) := by
  unfold gH
  rw [if_neg h1, if_neg (by rw [h2]; decide), List.map_map]
  refine List.map_congr_left (fun l _ => ?_)
  show pre ++ (w :: l) = (pre ++ [w]) ++ l
  rw [List.append_assoc]
  rfl
theorem x_dfs {ld : SS} (hok : LdOK ld) {tp : Nat → Int} {a b m : Nat} (hc : CPL ld a b m) {D W : Nat} {tt : Int} (hD : D ≤ 4) (hW : gi ld 2 4 = W) (Q : Int → SS → Prop) :
    ∀ (d : Nat), 1 ≤ d → ∀ (pre : List Nat) (dep : Nat), pre.length = dep → dep + d = D → ∀ (p : Nat) (q : QQ), QOK q → ¬ overP q → ∀ (s : HS) (σ : SS) (fu x3 : Nat), LC ld σ → (∀ j, j < 12 → gi σ 47 j = tp j) → gi σ 61 17 = tt → gi σ 61 18 = D → (∀ i (h : i < pre.length), gi σ 72 i = (pre[i] : Int)) → gi σ 72 dep = -1 → gi σ 73 dep = p → TS σ (24 * dep) a b m q → HB σ s → s.1 ≤ x3 → x3 + N1 W d < 1000000 → N1 W d < fu →
    (∀ τ fu' x3', EqP (PDf dep) σ τ → HB τ (((flH ld tp a b W tt d p q).map (pre ++ ·)).foldl hstep s) → (((flH ld tp a b W tt d p q).map (pre ++ ·)).foldl hstep s).1 ≤ x3' → x3' ≤ x3 + N1 W d → fu ≤ fu' + N1 W d → Wp (l_Fi_searchHome_18 fu' ((dep : Int) - 1) ((x3' : Nat) : Int) τ) Q) →
    Wp (l_Fi_searchHome_18 fu dep x3 σ) Q := by
  have l4 := hok.2.1
  intro d
  induction d with
  | zero => intro h; exact absurd h (by omega)
  | succ d ihd =>
    rintro - pre dep rfl hdD p q hq ho s0 σ0 fu0 x30 hL0 htp0 g170 g180 h720 hm10 h730 hTS0 hH0 hs0 hx0 hfu0 hQ0
    have hflH : flH ld tp a b W tt (d + 1) p q = (List.range' 0 W).flatMap (gH ld tp a b W tt d p q) := by
      rw [← List.range_eq_range']; rfl
    rw [hflH] at hQ0
    rw [N1] at hx0 hfu0 hQ0
    have inner : ∀ (r w : Nat), w + r = W → ∀ (s : HS) (σ : SS) (fu x3 : Nat), EqP (PDf pre.length) σ0 σ → gi σ 72 pre.length = (w : Int) - 1 → HB σ s → s.1 ≤ x3 → x3 + (r * (1 + N1 W d) + 1) < 1000000 → r * (1 + N1 W d) + 1 < fu →
        (∀ τ fu' x3', EqP (PDf pre.length) σ0 τ → HB τ ((((List.range' w r).flatMap (gH ld tp a b W tt d p q)).map (pre ++ ·)).foldl hstep s) → ((((List.range' w r).flatMap (gH ld tp a b W tt d p q)).map (pre ++ ·)).foldl hstep s).1 ≤ x3' → x3' ≤ x3 + (r * (1 + N1 W d) + 1) → fu ≤ fu' + (r * (1 + N1 W d) + 1) → Wp (l_Fi_searchHome_18 fu' ((pre.length : Int) - 1) ((x3' : Nat) : Int) τ) Q) →
        Wp (l_Fi_searchHome_18 fu pre.length x3 σ) Q := by
      intro r
      induction r with
      | zero =>
        intro w hw s σ fu x3 hE hcn hH hs hx hfu hQ
        rw [Nat.zero_mul] at hx hfu hQ
        obtain ⟨fu, rfl⟩ : ∃ f, fu = f + 1 := ⟨fu - 1, by omega⟩
        rw [l_Fi_searchHome_18]
        refine wp_f (by omega) (wp_f (by omega) (wp_f (by omega) (wp_oc (by omega) (wp_oc (by omega) (wp_os (wp_oc (by omega) ?_))))))
        rw [Int.toNat_natCast, hcn, iwc (x := (w : Int) - 1 + 1) (by omega) (by omega)]
        have hE1 : EqP (fun r k => r = 72 ∧ k = pre.length) σ (si σ 72 pre.length ((w : Int) - 1 + 1)) := EqP.si (EqP.rf _ _) _ _ _ (by omega)
        have k72 : gi (si σ 72 pre.length ((w : Int) - 1 + 1)) 72 pre.length = (w : Int) - 1 + 1 := gi_same _ _ _ _
        generalize si σ 72 pre.length ((w : Int) - 1 + 1) = s7 at hE1 k72 ⊢
        have hE7 : EqP (PDf pre.length) σ0 s7 := hE.tr (hE1.mo (fun r k z => by omega))
        rw [k72, (hL0.of hE7 (fun r k z => by omega)) 2 4 (by omega) (by omega) (by omega), hW]
        refine wp_f (by omega) ?_
        rw [show iw ((pre.length : Int) + -1) = (pre.length : Int) - 1 by rw [iwc (by omega) (by omega)]; omega, show iw ((x3 : Int) + 1) = ((x3 + 1 : Nat) : Int) by rw [iwc (by omega) (by omega)]; omega]
        exact hQ s7 fu (x3 + 1) hE7 (hH.of hE1 (fun r k z => by omega)) (by show s.1 ≤ _; omega) (by omega) (by omega)
      | succ r ihr =>
        intro w hw s σ fu x3 hE hcn hH hs hx hfu hQ
        rw [show (r + 1) * (1 + N1 W d) = r * (1 + N1 W d) + (1 + N1 W d) from Nat.succ_mul _ _] at hx hfu hQ
        generalize hR : r * (1 + N1 W d) = R at ihr hx hfu hQ
        obtain ⟨fu, rfl⟩ : ∃ f, fu = f + 1 := ⟨fu - 1, by omega⟩
        rw [l_Fi_searchHome_18]
        refine wp_f (by omega) (wp_f (by omega) (wp_f (by omega) (wp_oc (by omega) (wp_oc (by omega) (wp_os (wp_oc (by omega) ?_))))))
        rw [Int.toNat_natCast, hcn, iwc (x := (w : Int) - 1 + 1) (by omega) (by omega), show (w : Int) - 1 + 1 = w by omega]
        have hE1 : EqP (fun r k => r = 72 ∧ k = pre.length) σ (si σ 72 pre.length (w : Int)) := EqP.si (EqP.rf _ _) _ _ _ (by omega)
        have k72 : gi (si σ 72 pre.length (w : Int)) 72 pre.length = (w : Int) := gi_same _ _ _ _
        generalize si σ 72 pre.length (w : Int) = s7 at hE1 k72 ⊢
        have hE7 : EqP (PDf pre.length) σ0 s7 := hE.tr (hE1.mo (fun r k z => by omega))
        have hL7 := hL0.of hE7 (fun r k z => by omega)
        rw [k72, hL7 2 4 (by omega) (by omega) (by omega), hW]
        refine wp_t (by omega) ?_
        have hx1 : iw ((x3 : Int) + 1) = ((x3 + 1 : Nat) : Int) := by rw [iwc (by omega) (by omega)]; omega
        rw [hx1]
        have hTS7 : TS s7 (24 * pre.length) a b m q := hTS0.of hq.2.1 hE7 (fun k h1 h2 => by omega)
        refine wp_call (x_goesOnH hok hc (tp := tp) (tt := tt) hD pre (by omega) w p (by omega) q hq ho s (by omega) s7 hL7 (fun j hj => by rw [hE7.i _ _ (by omega)]; exact htp0 j hj) (by rw [hE7.i _ _ (by omega)]; exact g170) (by rw [hE7.i _ _ (by omega)]; exact g180) (fun i hi => by rw [hE7.i _ _ (by omega)]; exact h720 i hi) k72 (by rw [hE7.i _ _ (by omega)]; exact h730) hTS7 (hH.of hE1 (fun r k z => by omega))) ?_
        rintro v s12 ⟨hE12, hres⟩
        have hE012 : EqP (PDf pre.length) σ0 s12 := hE7.tr (hE12.mo (fun r k z => by omega))
        have c12 : gi s12 72 pre.length = (w : Int) := by rw [hE12.i _ _ (by omega)]; exact k72
        rw [List.range'_succ, List.flatMap_cons, List.map_append, List.foldl_append] at hQ
        rcases hres with ⟨rfl, hH12, hdp⟩ | ⟨rfl, ho1, hm2, hdp, hH12, n73, n72, hTS12⟩
        · have hon : (gH ld tp a b W tt d p q w).map (pre ++ ·) = onH ld tp a b tt pre w p q := gH_on pre (fun u1 u2 => by have := hdp u1 u2; omega)
          rw [hon] at hQ
          have hcnt : ((onH ld tp a b tt pre w p q).foldl hstep s).1 ≤ x3 + 1 := by
            unfold onH
            split
            · show s.1 ≤ _; omega
            · split
              · split
                · show s.1 + 1 ≤ _; omega
                · show s.1 ≤ _; omega
              · show s.1 ≤ _; omega
          refine wp_t rfl (ihr (w + 1) (by omega) _ s12 fu (x3 + 1) hE012 (by rw [c12]; omega) hH12 hcnt (by omega) (by omega) ?_)
          intro τ fu' x3' u1 u2 u3 u4 u5
          exact hQ τ fu' x3' u1 u2 u3 (by omega) (by omega)
        · have hon : (gH ld tp a b W tt d p q w).map (pre ++ ·) = (flH ld tp a b W tt d (oth ld w p).toNat (mhH ld tp a b w p q).2.2).map ((pre ++ [w]) ++ ·) := gH_deep pre ho1 hm2
          rw [hon] at hQ
          have hor := oth_rng hok (w : Int) (p : Int)
          obtain ⟨e, he⟩ : ∃ e : Nat, oth ld w p = e := ⟨(oth ld w p).toNat, by omega⟩
          have hmq : QOK (mhH ld tp a b w p q).2.2 ∧ ((mhH ld tp a b w p q).1 = false → ¬ overP (mhH ld tp a b w p q).2.2) := by
            unfold mhH
            rw [he, Int.toNat_natCast]
            exact milP_ok (tp := tp) (a := a) (b := b) (y := w) (hok.pl (p := e) (by omega)).1.1 (gi ld 8 w).toNat 0 q hq ho
          refine wp_f (by decide) ?_
          rw [show iw ((pre.length : Int) + 1) = ((pre.length + 1 : Nat) : Int) by rw [iwc (by omega) (by omega)]; omega]
          refine ihd (by omega) (pre ++ [w]) (pre.length + 1) List.length_append (by omega) (oth ld w p).toNat _ hmq.1 (hmq.2 hm2) s s12 fu (x3 + 1) (hL0.of hE012 (fun r k z => by omega)) (fun j hj => by rw [hE012.i _ _ (by omega)]; exact htp0 j hj) (by rw [hE012.i _ _ (by omega)]; exact g170) (by rw [hE012.i _ _ (by omega)]; exact g180) (fun i hi => ?_) n72 (by rw [n73]; omega) hTS12 hH12 (by omega) (by omega) (by omega) ?_
          · have hi' : i < pre.length + 1 := by rw [List.length_append] at hi; exact hi
            by_cases e : i < pre.length
            · rw [List.getElem_append_left e, hE012.i _ _ (by omega)]; exact h720 i e
            · obtain rfl : i = pre.length := by omega
              rw [List.getElem_append_right (by omega)]
              simp only [Nat.sub_self, List.getElem_cons_zero]
              exact c12
          · intro τ fu' x3' u1 u2 u3 u4 u5
            rw [show ((pre.length + 1 : Nat) : Int) - 1 = (pre.length : Int) by omega]
            refine ihr (w + 1) (by omega) _ τ fu' x3' (hE012.tr (u1.mo (fun r k z => by omega))) (by rw [u1.i _ _ (by omega), c12]; omega) u2 u3 (by omega) (by omega) ?_
            intro τ2 fu2 x32 v1 v2 v3 v4 v5
            exact hQ τ2 fu2 x32 v1 v2 v3 (by omega) (by omega)
    refine inner W 0 (by omega) s0 σ0 fu0 x30 (EqP.rf _ _) (by rw [hm10]; rfl) hH0 hs0 (by omega) (by omega) ?_
    intro τ fu' x3' u1 u2 u3 u4 u5
    exact hQ0 τ fu' x3' u1 u2 u3 u4 u5
