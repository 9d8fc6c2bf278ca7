/-! the most roads left: both sides -/
def mlW (P : Nat → Bool) (L : Int) (w : Int) : Nat := cto (fun i => P i && (rpd L (i + 1) == w)) 60
noncomputable def mlP (P : Nat → Bool) (L : Int) : Int := zmax (zmax (zmax 0 (mlW P L 0)) (mlW P L 1)) (mlW P L 2)
theorem cto_ext {p q : Nat → Bool} : ∀ n, (∀ z, z < n → p z = q z) → cto p n = cto q n := by
  intro n
  induction n with
  | zero => intro _; rfl
  | succ n ih =>
    intro h
    rw [cto, cto, ih (fun z hz => h z (by omega)), h n (by omega)]
theorem mlP_rng (P : Nat → Bool) (L : Int) : 0 ≤ mlP P L ∧ mlP P L ≤ 60 := by
  have h0 : mlW P L 0 ≤ 60 := cto_n 60
  have h1 : mlW P L 1 ≤ 60 := cto_n 60
  have h2 : mlW P L 2 ≤ 60 := cto_n 60
  unfold mlP zmax
  split <;> split <;> split <;> omega
theorem x_mostC {P : Nat → Bool} {L Lc : Int} (hLc : (1 ≤ L ∧ L ≤ 60 ∧ Lc = L) ∨ ((L = -1 ∨ 61 ≤ L ∧ L ≤ 200) ∧ Lc = 61)) {N : Nat} (hN : N < 2 ^ 60) (hP : ∀ i, i < 60 → N.testBit i = P i) (σ : SS) : l_Rp_mostLeft_13 (N : Int) Lc FU 0 0 σ = some (mlP P L, σ) := by
  have hN' : N < 9223372036854775808 := Nat.lt_of_lt_of_le hN (by decide)
  have step : ∀ (w w' x5 : Int) (fu : Nat), 0 ≤ w ∧ w ≤ 2 → w' = w + 1 → l_Rp_mostLeft_13 (N : Int) Lc (fu + 1) x5 w σ = l_Rp_mostLeft_13 (N : Int) Lc fu (zmax x5 (mlW P L w)) w' σ := by
    intro w w' x5 fu hw hw'
    obtain ⟨v, hv, hb⟩ := x_roadsBy Lc L hLc w hw σ
    obtain ⟨V, rfl, hV, hVb⟩ := bset_nat hb
    have hV' : V < 9223372036854775808 := Nat.lt_of_lt_of_le hV (by decide)
    have hc : cto ((N &&& V).testBit) 60 = mlW P L w := cto_ext 60 (fun z hz => by rw [Nat.testBit_and, hP z hz, hVb z hz])
    rw [l_Rp_mostLeft_13, if_neg (by omega), hv, ob_eq, yand_nat N V hN' hV', x_bitCount (N &&& V) (Nat.lt_of_le_of_lt Nat.and_le_left hN), ob_eq, ol_eq, iwc (x := w + 1) (by omega) (by omega), hc, hw']
  obtain ⟨f, hf⟩ : ∃ f, FU = f + 1 + 1 + 1 + 1 := ⟨FU - 4, by unfold FU; omega⟩
  rw [hf, step 0 1 _ _ (by omega) (by omega), step 1 2 _ _ (by omega) (by omega), step 2 3 _ _ (by omega) (by omega), l_Rp_mostLeft_13, if_pos (by omega)]
  rfl
theorem rpd_nat (L road : Int) : ∃ w : Nat, rpd L road = w ∧ w < 3 := by
  unfold rpd
  split
  · exact ⟨2, rfl, by omega⟩
  · split
    · exact ⟨1, rfl, by omega⟩
    · exact ⟨0, rfl, by omega⟩
theorem x_most44 {P : Nat → Bool} {L : Int} {N : Nat} (hN : N < 2 ^ 60) (hP : ∀ i, i < 60 → N.testBit i = P i) (σ : SS) (h0 : ∀ w, w < 3 → gi σ 135 w = 0) : Wp (l_Mo_mostLeft_44 (N : Int) L FU 1 σ) fun r τ => r = mlP P L ∧ EqP (fun r _ => r = 135) σ τ := by
  have hN' : N < 9223372036854775808 := Nat.lt_of_lt_of_le hN (by decide)
  refine loopN (β := Unit) 60 (fun fu c _ s => l_Mo_mostLeft_44 (N : Int) L fu ((c : Int) + 1) s) (fun _ s => s) (fun c _ s => (∀ w : Nat, w < 3 → gi s 135 w = (cto (fun i => P i && (rpd L (i + 1) == (w : Int))) c : Nat)) ∧ EqP (fun r _ => r = 135) σ s) _ ?_ 60 0 FU () σ (by omega) (by unfold FU; omega) ⟨fun w hw => by rw [h0 w hw]; rfl, EqP.rf _ _⟩ ?_
  · rintro fu c _ s hc ⟨hr, hE⟩ hk
    have hi : iw ((c : Int) + 1 + 1) = ((c + 1 : Nat) : Int) + 1 := by rw [iwc (by omega) (by omega)]; omega
    have hi1 : iw ((c : Int) + 1 - 1) = (c : Int) := by rw [iwc (by omega) (by omega)]; omega
    have hdl : N / 2 ^ c < 9223372036854775808 := Nat.lt_of_le_of_lt (Nat.div_le_self _ _) hN'
    have hy : yand (yshr (N : Int) (c : Int)) 1 = ((N / 2 ^ c % 2 : Nat) : Int) := by
      rw [yshr_nat N c hN' (by omega), ← Nat.and_one_is_mod]
      exact yand_nat (N / 2 ^ c) 1 hdl (by decide)
    have hb : P c = decide (N / 2 ^ c % 2 = 1) := by rw [← hP c hc, Nat.testBit_eq_decide_div_mod_eq]
    show Wp (l_Mo_mostLeft_44 (N : Int) L (fu + 1) ((c : Int) + 1) s) _
    rw [l_Mo_mostLeft_44]
    refine wp_f (by omega) ?_
    rw [hi, hi1, hy]
    by_cases hp : N / 2 ^ c % 2 = 1
    · have hP1 : P c = true := by rw [hb]; exact decide_eq_true hp
      refine wp_t (by rw [yc0, hp]; rfl) (wp_eq (x_reported _ _ _) ?_)
      obtain ⟨w, hw, hw3⟩ := rpd_nat L ((c : Int) + 1)
      rw [hw]
      refine wp_oc (by omega) (wp_oc (by omega) (wp_os ?_))
      rw [Int.toNat_natCast]
      have hcn : cto (fun i => P i && (rpd L (i + 1) == (w : Int))) c ≤ c := cto_n c
      have hrw := hr w hw3
      refine hk _ ⟨fun v hv => ?_, EqP.si hE _ _ _ (by omega)⟩
      by_cases hvw : v = w
      · subst hvw
        rw [gi_same, hrw, iwc (by omega) (by omega), cto, if_pos (by rw [hP1, hw]; simp)]
        omega
      · rw [gi_ne_k _ _ _ _ (by omega), hr v hv, cto, if_neg (by rw [hP1, hw]; simp; omega)]
        rfl
    · have hP0 : P c = false := by rw [hb]; exact decide_eq_false hp
      refine wp_f (by rw [yc0]; omega) ?_
      refine hk _ ⟨fun v hv => ?_, hE⟩
      rw [hr v hv, cto, if_neg (by rw [hP0]; simp)]
      rfl
  · rintro fu s ⟨hr, hE⟩
    show Wp (l_Mo_mostLeft_44 (N : Int) L (fu + 1) ((60 : Nat) + 1 : Int) s) _
    have g0 : gi s 135 0 = (mlW P L 0 : Int) := hr 0 (by omega)
    have g1 : gi s 135 1 = (mlW P L 1 : Int) := hr 1 (by omega)
    have g2 : gi s 135 2 = (mlW P L 2 : Int) := hr 2 (by omega)
    rw [l_Mo_mostLeft_44]
    refine wp_t (by omega) ?_
    unfold j_Mo_mostLeft_116
    rw [g0, g1, g2]
    unfold mlP
    generalize mlW P L 0 = x0
    generalize mlW P L 1 = x1
    generalize mlW P L 2 = x2
    have fin : ∀ z : Int, z = zmax (zmax 0 x0) x1 → Wp (if (x2 : Int) ≤ z then some (z, s) else some ((x2 : Int), s)) fun r τ => r = zmax (zmax (zmax 0 x0) x1) x2 ∧ EqP (fun r _ => r = 135) σ τ := by
      rintro z rfl
      by_cases h : (x2 : Int) ≤ zmax (zmax 0 x0) x1
      · exact wp_t h (wp_some ⟨by generalize zmax (zmax 0 (x0 : Int)) x1 = q at *; unfold zmax; split <;> omega, hE⟩)
      · exact wp_f h (wp_some ⟨by generalize zmax (zmax 0 (x0 : Int)) x1 = q at *; unfold zmax; split <;> omega, hE⟩)
    by_cases h : (x0 : Int) ≤ x1
    · exact wp_t h (fin _ (by unfold zmax; split <;> split <;> omega))
    · exact wp_f h (fin _ (by unfold zmax; split <;> split <;> omega))
theorem x_mostM {P : Nat → Bool} {L : Int} {N : Nat} (hN : N < 2 ^ 60) (hP : ∀ i, i < 60 → N.testBit i = P i) (σ : SS) : Wp (l_Mo_mostLeft_21 (N : Int) L FU 0 σ) fun r τ => r = mlP P L ∧ EqP (fun r _ => r = 135) σ τ := by
  obtain ⟨f, hf⟩ : ∃ f, FU = f + 1 + 1 + 1 + 1 := ⟨FU - 4, by unfold FU; omega⟩
  rw [hf, l_Mo_mostLeft_21]
  refine wp_f (by omega) (wp_oc (by omega) (wp_os ?_))
  rw [iwc (x := (0 : Int) + 1) (by omega) (by omega), l_Mo_mostLeft_21]
  refine wp_f (by omega) (wp_oc (by omega) (wp_os ?_))
  rw [iwc (x := (0 : Int) + 1 + 1) (by omega) (by omega), l_Mo_mostLeft_21]
  refine wp_f (by omega) (wp_oc (by omega) (wp_os ?_))
  rw [iwc (x := (0 : Int) + 1 + 1 + 1) (by omega) (by omega), l_Mo_mostLeft_21]
  refine wp_t (by omega) ?_
  have hE : EqP (fun r _ => r = 135) σ (si (si (si σ 135 (0 : Int).toNat 0) 135 ((0 : Int) + 1).toNat 0) 135 ((0 : Int) + 1 + 1).toNat 0) := by repeat (first | exact EqP.rf _ _ | (refine EqP.si ?_ _ _ _ (by omega)) | (refine EqP.sj ?_ _ _ _ (by omega)) | (refine EqP.sr ?_ _ _ (fun k => by omega)))
  refine wp_mono (x_most44 hN hP _ (fun w hw => ?_)) ?_
  · have h3 : w = 0 ∨ w = 1 ∨ w = 2 := by omega
    rcases h3 with rfl | rfl | rfl
    · rw [gi_ne_k _ _ _ _ (by decide), gi_ne_k _ _ _ _ (by decide)]; exact gi_same _ _ _ _
    · rw [gi_ne_k _ _ _ _ (by decide)]; exact gi_same _ _ _ _
    · exact gi_same _ _ _ _
  · rintro r τ ⟨hr, hE2⟩
    exact ⟨hr, hE.tr hE2⟩
