/-! the shortest, on both sides -/
abbrev PFa : Nat → Nat → Prop := fun r _ => r = 66
abbrev PFm : Nat → Nat → Prop := fun r _ => r = 123
def FRow (σ : SS) (r : Nat) (f : Nat → Int) : Prop := ∀ j, j < 8 → gi σ r j = f j
theorem fN_pl {ld : SS} (hok : LdOK ld) {y : Nat} (hy : (y : Int) < gi ld 2 4) : (fN ld y : Int) = gi ld 6 y ∧ (tN ld y : Int) = gi ld 7 y ∧ fN ld y < 8 ∧ tN ld y < 8 ∧ fN ld y ≠ tN ld y := by
  obtain ⟨w1, w2, w3, w4, w5⟩ := hok.wy hy
  have l0 := hok.1
  unfold fN tN
  omega
theorem FRow_upd {σ : SS} {r : Nat} {f : Nat → Int} (h : FRow σ r f) (a : Nat) (v : Int) : FRow (si σ r a v) r (fun j => if j = a then v else f j) := by
  intro j hj
  dsimp only
  by_cases hja : j = a
  · rw [hja, gi_same, if_pos rfl]
  · rw [gi_ne_k _ _ _ _ hja, if_neg hja]; exact h j hj
theorem zmin_rx (f : Nat → Int) (a b : Nat) (l : Int) : (fun j => if j = a then zmin (f a) (f b + l) else f j) = rx f a b l := by
  funext j
  unfold rx zmin
  by_cases h : j = a
  · rw [if_pos h]
  · rw [if_neg h]
theorem x_farC {ld : SS} (hok : LdOK ld) (to : Nat) (hto : (to : Int) < gi ld 2 0) (σ0 : SS) (hL : LC ld σ0) : Wp (f_Fi_lookHowFar to σ0) fun _ τ => FRow τ 66 (faR ld to 8) ∧ EqP PFa σ0 τ := by
  have l0 := hok.1
  have l4 := hok.2.1
  unfold f_Fi_lookHowFar
  refine loopN (β := Unit) 8 (fun fu c _ s => l_Fi_lookHowFar_2 to fu c s) (fun _ s => s) (fun c _ s => (∀ j, j < c → gi s 66 j = inF to j) ∧ EqP PFa σ0 s) _ ?_ 8 0 FU () σ0 (by omega) (by unfold FU; omega) ⟨fun j hj => by omega, EqP.rf _ _⟩ ?_
  · rintro fu c _ s hc ⟨hr, hE⟩ hk
    show Wp (l_Fi_lookHowFar_2 to (fu + 1) (c : Int) s) _
    rw [l_Fi_lookHowFar_2]
    refine wp_f (by omega) ?_
    have go : ∀ v, v = inF to c → Wp (j_Fi_lookHowFar_24 (l_Fi_lookHowFar_2 to fu) to c c v s) fun _ τ => FRow τ 66 (faR ld to 8) ∧ EqP PFa σ0 τ := by
      intro v hv
      unfold j_Fi_lookHowFar_24
      refine wp_oc (by omega) (wp_os ?_)
      rw [Int.toNat_natCast, show iw ((c : Int) + 1) = ((c + 1 : Nat) : Int) by rw [iwc (by omega) (by omega)]; omega]
      refine hk _ ⟨fun j hj => ?_, EqP.si hE _ _ _ rfl⟩
      by_cases hjc : j = c
      · rw [hjc, gi_same, hv]
      · rw [gi_ne_k _ _ _ _ hjc]; exact hr j (by omega)
    by_cases h : (c : Int) = (to : Int)
    · refine wp_t h (go 0 ?_)
      unfold inF; rw [if_pos (by omega)]
    · refine wp_f h (go 1000000 ?_)
      unfold inF; rw [if_neg (by omega)]
  · rintro fu' s ⟨hr, hE⟩
    show Wp (l_Fi_lookHowFar_2 to (fu' + 1) ((8 : Nat) : Int) s) _
    rw [l_Fi_lookHowFar_2]
    refine wp_t (by omega) ?_
    have hr8 : FRow s 66 (inF to) := hr
    refine loopN (β := Nat → Int) 8 (fun fu c _ s => l_Fi_lookHowFar_33 fu c s) (fun _ g => rdR ld g) (fun _ g s => FRow s 66 g ∧ nbr ld to g ∧ EqP PFa σ0 s) _ ?_ 8 0 FU (inF to) s (by omega) (by unfold FU; omega) ⟨hr8, inF_nbr ld to, hE⟩ ?_
    · rintro fu c g t hc ⟨hg, hn, hE2⟩ hk
      show Wp (l_Fi_lookHowFar_33 (fu + 1) (c : Int) t) _
      rw [l_Fi_lookHowFar_33]
      refine wp_f (by omega) ?_
      refine loopN (β := Nat → Int) (gi ld 2 4).toNat (fun fu2 y _ s => l_Fi_lookHowFar_41 (l_Fi_lookHowFar_33 fu) c fu2 y s) (fun y g => wyR ld g y) (fun _ g s => FRow s 66 g ∧ nbr ld to g ∧ EqP PFa σ0 s) _ ?_ (gi ld 2 4).toNat 0 FU g t (by omega) (by unfold FU; omega) ⟨hg, hn, hE2⟩ ?_
      · rintro fu2 y g2 t2 hy ⟨hg2, hn2, hE3⟩ hk2
        have hLt := hL.of hE3 (fun r k z => by omega)
        have hy4 : (y : Int) < gi ld 2 4 := by omega
        obtain ⟨f1, f2, f3, f4, f5⟩ := fN_pl hok hy4
        obtain ⟨w1, w2, w3, w4, w5⟩ := hok.wy hy4
        have b1 := hn2.2.1 (fN ld y)
        have b2 := hn2.2.1 (tN ld y)
        show Wp (l_Fi_lookHowFar_41 (l_Fi_lookHowFar_33 fu) c (fu2 + 1) (y : Int) t2) _
        rw [l_Fi_lookHowFar_41]
        refine wp_f (by rw [hLt 2 4 (by omega) (by omega) (by omega)]; omega) (wp_f (by omega) (wp_oc (by omega) (wp_ol (wp_oc (by omega) (wp_ol ?_)))))
        rw [Int.toNat_natCast, hLt 6 y (by omega) (by omega) (by omega), hLt 7 y (by omega) (by omega) (by omega), ← f1, ← f2]
        refine wp_b1 (x_isPlaceC hok hLt _) (by omega) (wp_f (by decide) ?_)
        refine wp_b1 (x_isPlaceC hok hLt _) (by omega) (wp_f (by decide) ?_)
        refine wp_oc (by omega) (wp_oc (by omega) (wp_oc (by omega) (wp_oc (by omega) (wp_os ?_))))
        rw [Int.toNat_natCast, Int.toNat_natCast, hLt 8 y (by omega) (by omega) (by omega), hg2 _ f3, hg2 _ f4, iwc (x := g2 (tN ld y) + gi ld 8 y) (by omega) (by omega)]
        have hg3 := FRow_upd hg2 (fN ld y) (zmin (g2 (fN ld y)) (g2 (tN ld y) + gi ld 8 y))
        rw [zmin_rx] at hg3
        have hn3 := rx_nbr hok hn2 hy4 (a := fN ld y) (b := tN ld y) (Or.inl ⟨rfl, rfl⟩)
        have hE4 : EqP PFa σ0 (si t2 66 (fN ld y) (zmin (g2 (fN ld y)) (g2 (tN ld y) + gi ld 8 y))) := EqP.si hE3 _ _ _ rfl
        generalize si t2 66 (fN ld y) (zmin (g2 (fN ld y)) (g2 (tN ld y) + gi ld 8 y)) = t3 at hg3 hE4 ⊢
        have hL3 := hL.of hE4 (fun r k z => by omega)
        refine wp_oc (by omega) (wp_oc (by omega) (wp_oc (by omega) (wp_oc (by omega) (wp_os ?_))))
        have c1 := hn3.2.1 (fN ld y)
        rw [hL3 8 y (by omega) (by omega) (by omega), hg3 _ f3, hg3 _ f4, iwc (x := rx g2 (fN ld y) (tN ld y) (gi ld 8 y) (fN ld y) + gi ld 8 y) (by omega) (by omega), show iw ((y : Int) + 1) = ((y + 1 : Nat) : Int) by rw [iwc (by omega) (by omega)]; omega]
        refine hk2 _ ⟨?_, wyR_nbr hok hn2 hy4, EqP.si hE4 _ _ _ rfl⟩
        have hg4 := FRow_upd hg3 (tN ld y) (zmin (rx g2 (fN ld y) (tN ld y) (gi ld 8 y) (tN ld y)) (rx g2 (fN ld y) (tN ld y) (gi ld 8 y) (fN ld y) + gi ld 8 y))
        rw [zmin_rx] at hg4
        exact hg4
      · rintro fu2 t2 ⟨hg2, hn2, hE3⟩
        have hLt := hL.of hE3 (fun r k z => by omega)
        show Wp (l_Fi_lookHowFar_41 (l_Fi_lookHowFar_33 fu) c (fu2 + 1) (((gi ld 2 4).toNat : Nat) : Int) t2) _
        rw [l_Fi_lookHowFar_41]
        refine wp_t (by rw [hLt 2 4 (by omega) (by omega) (by omega)]; omega) ?_
        rw [show iw ((c : Int) + 1) = ((c + 1 : Nat) : Int) by rw [iwc (by omega) (by omega)]; omega]
        exact hk t2 ⟨hg2, hn2, hE3⟩
    · rintro fu2 t ⟨hg, hn, hE2⟩
      show Wp (l_Fi_lookHowFar_33 (fu2 + 1) ((8 : Nat) : Int) t) _
      rw [l_Fi_lookHowFar_33]
      exact wp_t (by omega) (wp_some ⟨hg, hE2⟩)
theorem x_farM {ld : SS} (hok : LdOK ld) {bk : Nat} (to : Nat) (hto : (to : Int) < gi ld 2 0) (σ0 : SS) (hM0 : LM ld σ0 bk) : Wp (f_Mo_layFar to σ0) fun _ τ => FRow τ 123 (faR ld to 8) ∧ EqP PFm σ0 τ := by
  have l0 := hok.1
  have l4 := hok.2.1
  have hb := hM0.1
  unfold f_Mo_layFar
  refine loopN (β := Unit) 8 (fun fu c _ s => l_Mo_layFar_2 to fu c s) (fun _ s => s) (fun c _ s => (∀ j, j < c → gi s 123 j = inF to j) ∧ EqP PFm σ0 s) _ ?_ 8 0 FU () σ0 (by omega) (by unfold FU; omega) ⟨fun j hj => by omega, EqP.rf _ _⟩ ?_
  · rintro fu c _ s hc ⟨hr, hE⟩ hk
    show Wp (l_Mo_layFar_2 to (fu + 1) (c : Int) s) _
    rw [l_Mo_layFar_2]
    refine wp_f (by omega) ?_
    have go : ∀ v, v = inF to c → Wp (j_Mo_layFar_25 (l_Mo_layFar_2 to fu) to c c v s) fun _ τ => FRow τ 123 (faR ld to 8) ∧ EqP PFm σ0 τ := by
      intro v hv
      unfold j_Mo_layFar_25
      refine wp_oc (by omega) (wp_os ?_)
      rw [Int.toNat_natCast, show iw ((c : Int) + 1) = ((c + 1 : Nat) : Int) by rw [iwc (by omega) (by omega)]; omega]
      refine hk _ ⟨fun j hj => ?_, EqP.si hE _ _ _ rfl⟩
      by_cases hjc : j = c
      · rw [hjc, gi_same, hv]
      · rw [gi_ne_k _ _ _ _ hjc]; exact hr j (by omega)
    by_cases h : (c : Int) = (to : Int)
    · refine wp_t h (go 0 ?_)
      unfold inF; rw [if_pos (by omega)]
    · refine wp_f h (go 1000000 ?_)
      unfold inF; rw [if_neg (by omega)]
  · rintro fu' s ⟨hr, hE⟩
    show Wp (l_Mo_layFar_2 to (fu' + 1) ((8 : Nat) : Int) s) _
    rw [l_Mo_layFar_2]
    refine wp_t (by omega) ?_
    have hr8 : FRow s 123 (inF to) := hr
    refine loopN (β := Nat → Int) 8 (fun fu c _ s => l_Mo_layFar_34 fu c s) (fun _ g => rdR ld g) (fun _ g s => FRow s 123 g ∧ nbr ld to g ∧ EqP PFm σ0 s) _ ?_ 8 0 FU (inF to) s (by omega) (by unfold FU; omega) ⟨hr8, inF_nbr ld to, hE⟩ ?_
    · rintro fu c g t hc ⟨hg, hn, hE2⟩ hk
      show Wp (l_Mo_layFar_34 (fu + 1) (c : Int) t) _
      rw [l_Mo_layFar_34]
      refine wp_f (by omega) ?_
      refine loopN (β := Nat → Int) (gi ld 2 4).toNat (fun fu2 y _ s => l_Mo_layFar_42 (l_Mo_layFar_34 fu) c fu2 y s) (fun y g => wyR ld g y) (fun _ g s => FRow s 123 g ∧ nbr ld to g ∧ EqP PFm σ0 s) _ ?_ (gi ld 2 4).toNat 0 FU g t (by omega) (by unfold FU; omega) ⟨hg, hn, hE2⟩ ?_
      · rintro fu2 y g2 t2 hy ⟨hg2, hn2, hE3⟩ hk2
        have hMt := hM0.of hE3 (fun r k z => by omega)
        have hy4 : (y : Int) < gi ld 2 4 := by omega
        have hyy : 0 ≤ (y : Int) ∧ (y : Int) < gi ld 2 4 := by omega
        obtain ⟨f1, f2, f3, f4, f5⟩ := fN_pl hok hy4
        obtain ⟨w1, w2, w3, w4, w5⟩ := hok.wy hy4
        have b1 := hn2.2.1 (fN ld y)
        have b2 := hn2.2.1 (tN ld y)
        have hi : iw ((y : Int) + 1) = ((y + 1 : Nat) : Int) := by rw [iwc (by omega) (by omega)]; omega
        show Wp (l_Mo_layFar_42 (l_Mo_layFar_34 fu) c (fu2 + 1) (y : Int) t2) _
        rw [l_Mo_layFar_42, hMt.2.1, Int.toNat_natCast, hMt.2.2.1.2.1]
        refine wp_oc (by omega) (wp_f (by omega) ?_)
        refine wp_eq (x_toOf hok hMt hyy) ?_
        rw [Int.toNat_natCast, ← f2]
        refine wp_oc (by omega) ?_
        refine wp_eq (x_milesOf hok hMt hyy) ?_
        refine wp_eq (x_fromOf hok hMt hyy) ?_
        rw [Int.toNat_natCast, ← f1]
        refine wp_oc (by omega) ?_
        rw [Int.toNat_natCast, Int.toNat_natCast, hg2 _ f3, hg2 _ f4, iwc (x := g2 (tN ld y) + gi ld 8 y) (by omega) (by omega)]
        have hn3 := rx_nbr hok hn2 hy4 (a := fN ld y) (b := tN ld y) (Or.inl ⟨rfl, rfl⟩)
        -- the second of the two
        have second : ∀ t3, FRow t3 123 (rx g2 (fN ld y) (tN ld y) (gi ld 8 y)) → EqP PFm σ0 t3 → Wp (j_Mo_layFar_110 (l_Mo_layFar_34 fu) (l_Mo_layFar_42 (l_Mo_layFar_34 fu) c fu2) c y t3) fun _ τ => FRow τ 123 (faR ld to 8) ∧ EqP PFm σ0 τ := by
          intro t3 hg3 hE4
          have hM3 := hM0.of hE4 (fun r k z => by omega)
          have c1 := hn3.2.1 (fN ld y)
          have hg4 := FRow_upd hg3 (tN ld y) (if rx g2 (fN ld y) (tN ld y) (gi ld 8 y) (fN ld y) + gi ld 8 y < rx g2 (fN ld y) (tN ld y) (gi ld 8 y) (tN ld y) then rx g2 (fN ld y) (tN ld y) (gi ld 8 y) (fN ld y) + gi ld 8 y else rx g2 (fN ld y) (tN ld y) (gi ld 8 y) (tN ld y))
          have hk3 := hk2
          unfold wyR at hk3
          have hnn := wyR_nbr hok hn2 hy4
          unfold wyR at hnn
          unfold j_Mo_layFar_110
          generalize rx g2 (fN ld y) (tN ld y) (gi ld 8 y) = g3 at hg3 c1 hg4 hk3 hnn ⊢
          refine wp_eq (x_fromOf hok hM3 hyy) ?_
          rw [Int.toNat_natCast, ← f1]
          refine wp_oc (by omega) ?_
          refine wp_eq (x_milesOf hok hM3 hyy) ?_
          refine wp_eq (x_toOf hok hM3 hyy) ?_
          rw [Int.toNat_natCast, ← f2]
          refine wp_oc (by omega) ?_
          rw [Int.toNat_natCast, Int.toNat_natCast, hg3 _ f3, hg3 _ f4, iwc (x := g3 (fN ld y) + gi ld 8 y) (by omega) (by omega), hi]
          by_cases hlt : g3 (fN ld y) + gi ld 8 y < g3 (tN ld y)
          · refine wp_f (by omega) ?_
            refine wp_eq (x_toOf hok hM3 hyy) ?_
            rw [Int.toNat_natCast, ← f2]
            refine wp_eq (x_fromOf hok hM3 hyy) ?_
            rw [Int.toNat_natCast, ← f1]
            refine wp_oc (by omega) ?_
            refine wp_eq (x_milesOf hok hM3 hyy) ?_
            refine wp_oc (by omega) (wp_os ?_)
            rw [Int.toNat_natCast, Int.toNat_natCast, Int.toNat_natCast, hg3 _ f3, iwc (x := g3 (fN ld y) + gi ld 8 y) (by omega) (by omega)]
            rw [if_pos hlt] at hg4
            refine hk3 _ ⟨?_, hnn, EqP.si hE4 _ _ _ rfl⟩
            unfold rx
            rw [if_pos hlt]
            exact hg4
          · refine wp_t (by omega) ?_
            refine hk3 t3 ⟨?_, hnn, hE4⟩
            intro j hj
            unfold rx
            rw [if_neg hlt]
            by_cases hjt : j = tN ld y
            · rw [if_pos hjt, hjt]; exact hg3 _ f4
            · rw [if_neg hjt]; exact hg3 j hj
        by_cases hlt : g2 (tN ld y) + gi ld 8 y < g2 (fN ld y)
        · refine wp_f (by omega) ?_
          refine wp_eq (x_fromOf hok hMt hyy) ?_
          rw [Int.toNat_natCast, ← f1]
          refine wp_eq (x_toOf hok hMt hyy) ?_
          rw [Int.toNat_natCast, ← f2]
          refine wp_oc (by omega) ?_
          refine wp_eq (x_milesOf hok hMt hyy) ?_
          refine wp_oc (by omega) (wp_os ?_)
          rw [Int.toNat_natCast, Int.toNat_natCast, Int.toNat_natCast, hg2 _ f4, iwc (x := g2 (tN ld y) + gi ld 8 y) (by omega) (by omega)]
          refine second _ ?_ (EqP.si hE3 _ _ _ rfl)
          have hg3 := FRow_upd hg2 (fN ld y) (g2 (tN ld y) + gi ld 8 y)
          unfold rx
          rw [if_pos hlt]
          exact hg3
        · refine wp_t (by omega) ?_
          refine second t2 ?_ hE3
          intro j hj
          unfold rx
          rw [if_neg hlt]
          by_cases hjt : j = fN ld y
          · rw [if_pos hjt, hjt]; exact hg2 _ f3
          · rw [if_neg hjt]; exact hg2 j hj
      · rintro fu2 t2 ⟨hg2, hn2, hE3⟩
        have hMt := hM0.of hE3 (fun r k z => by omega)
        show Wp (l_Mo_layFar_42 (l_Mo_layFar_34 fu) c (fu2 + 1) (((gi ld 2 4).toNat : Nat) : Int) t2) _
        rw [l_Mo_layFar_42, hMt.2.1, Int.toNat_natCast, hMt.2.2.1.2.1]
        refine wp_oc (by omega) (wp_t (by omega) ?_)
        rw [show iw ((c : Int) + 1) = ((c + 1 : Nat) : Int) by rw [iwc (by omega) (by omega)]; omega]
        exact hk t2 ⟨hg2, hn2, hE3⟩
    · rintro fu2 t ⟨hg, hn, hE2⟩
      show Wp (l_Mo_layFar_34 (fu2 + 1) ((8 : Nat) : Int) t) _
      rw [l_Mo_layFar_34]
      exact wp_t (by omega) (wp_some ⟨hg, hE2⟩)
