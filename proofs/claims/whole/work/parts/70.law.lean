/-! the law: each case, then the loop -/
theorem lw_196 (xs : Nat → Int32) (L : Nat) (g : Int → SS → OO) (x3 : Int) (σ : SS) (h0 : 0 ≤ x3) (h7 : x3 + 7 ≤ L) (hL : L ≤ 3584) (hI : Inv σ) (hs : ∀ τ, Inv τ → Wp (g (x3 + 7) τ) fun r _ => r = 1) : Wp (c_Law_196_f xs L g x3 σ) fun r _ => r = 1 := by
  have i1 : iw (x3 + 1) = x3 + 1 := iwc (by omega) (by omega)
  have i2 : iw (x3 + 2) = x3 + 2 := iwc (by omega) (by omega)
  have i3 : iw (x3 + 3) = x3 + 3 := iwc (by omega) (by omega)
  have i4 : iw (x3 + 4) = x3 + 4 := iwc (by omega) (by omega)
  have i5 : iw (x3 + 5) = x3 + 5 := iwc (by omega) (by omega)
  have i7 : iw (x3 + 7) = x3 + 7 := iwc (by omega) (by omega)
  unfold c_Law_196_f
  simp only [i1, i2, i3, i4, i5, i7]
  repeat (with_reducible refine wp_oc (by omega) ?_)
  refine wp_call (y_feed _ _ _ _ _ σ hI) ?_
  rintro r s hm
  repeat (with_reducible refine wp_oc (by omega) ?_)
  refine wp_call hm ?_
  rintro r' τ ⟨rfl, hτ⟩
  exact wp_t rfl (hs τ hτ)
theorem lw_259 (xs : Nat → Int32) (L : Nat) (g : Int → SS → OO) (x3 : Int) (σ : SS) (h0 : 0 ≤ x3) (h7 : x3 + 7 ≤ L) (hL : L ≤ 3584) (hI : Inv σ) (hs : ∀ τ, Inv τ → Wp (g (x3 + 7) τ) fun r _ => r = 1) : Wp (c_Law_259_f xs L g x3 σ) fun r _ => r = 1 := by
  have i1 : iw (x3 + 1) = x3 + 1 := iwc (by omega) (by omega)
  have i7 : iw (x3 + 7) = x3 + 7 := iwc (by omega) (by omega)
  unfold c_Law_259_f
  simp only [i1, i7]
  repeat (with_reducible refine wp_oc (by omega) ?_)
  refine wp_call (y_end _ σ hI) ?_
  rintro r s hm
  repeat (with_reducible refine wp_oc (by omega) ?_)
  refine wp_call hm ?_
  rintro r' τ ⟨rfl, hτ⟩
  exact wp_t rfl (hs τ hτ)
theorem lw_282 (xs : Nat → Int32) (L : Nat) (g : Int → SS → OO) (x3 : Int) (σ : SS) (h0 : 0 ≤ x3) (h7 : x3 + 7 ≤ L) (hL : L ≤ 3584) (hI : Inv σ) (hs : ∀ τ, Inv τ → Wp (g (x3 + 7) τ) fun r _ => r = 1) (hm_land : MP (f_Qu_land ) (f_Mo_land )) : Wp (c_Law_282_f xs L g x3 σ) fun r _ => r = 1 := by
  have i7 : iw (x3 + 7) = x3 + 7 := iwc (by omega) (by omega)
  unfold c_Law_282_f
  simp only [i7]
  refine wp_call (hm_land σ hI) ?_
  rintro r s hm
  refine wp_call hm ?_
  rintro r' τ ⟨rfl, hτ⟩
  exact wp_t rfl (hs τ hτ)
theorem lw_295 (xs : Nat → Int32) (L : Nat) (g : Int → SS → OO) (x3 : Int) (σ : SS) (h0 : 0 ≤ x3) (h7 : x3 + 7 ≤ L) (hL : L ≤ 3584) (hI : Inv σ) (hs : ∀ τ, Inv τ → Wp (g (x3 + 7) τ) fun r _ => r = 1) : Wp (c_Law_295_f xs L g x3 σ) fun r _ => r = 1 := by
  have i1 : iw (x3 + 1) = x3 + 1 := iwc (by omega) (by omega)
  have i7 : iw (x3 + 7) = x3 + 7 := iwc (by omega) (by omega)
  unfold c_Law_295_f
  simp only [i1, i7]
  repeat (with_reducible refine wp_oc (by omega) ?_)
  refine wp_call (y_fault _ σ hI) ?_
  rintro r s hm
  repeat (with_reducible refine wp_oc (by omega) ?_)
  refine wp_call hm ?_
  rintro r' τ ⟨rfl, hτ⟩
  exact wp_t rfl (hs τ hτ)
theorem lw_318 (xs : Nat → Int32) (L : Nat) (g : Int → SS → OO) (x3 : Int) (σ : SS) (h0 : 0 ≤ x3) (h7 : x3 + 7 ≤ L) (hL : L ≤ 3584) (hI : Inv σ) (hs : ∀ τ, Inv τ → Wp (g (x3 + 7) τ) fun r _ => r = 1) : Wp (c_Law_318_f xs L g x3 σ) fun r _ => r = 1 := by
  have i1 : iw (x3 + 1) = x3 + 1 := iwc (by omega) (by omega)
  have i2 : iw (x3 + 2) = x3 + 2 := iwc (by omega) (by omega)
  have i7 : iw (x3 + 7) = x3 + 7 := iwc (by omega) (by omega)
  unfold c_Law_318_f
  simp only [i1, i2, i7]
  repeat (with_reducible refine wp_oc (by omega) ?_)
  refine wp_call (y_soul _ _ σ hI) ?_
  rintro r s hm
  repeat (with_reducible refine wp_oc (by omega) ?_)
  refine wp_call hm ?_
  rintro r' τ ⟨rfl, hτ⟩
  exact wp_t rfl (hs τ hτ)
theorem lw_351 (xs : Nat → Int32) (L : Nat) (g : Int → SS → OO) (x3 : Int) (σ : SS) (h0 : 0 ≤ x3) (h7 : x3 + 7 ≤ L) (hL : L ≤ 3584) (hI : Inv σ) (hs : ∀ τ, Inv τ → Wp (g (x3 + 7) τ) fun r _ => r = 1) : Wp (c_Law_351_f xs L g x3 σ) fun r _ => r = 1 := by
  have i1 : iw (x3 + 1) = x3 + 1 := iwc (by omega) (by omega)
  have i2 : iw (x3 + 2) = x3 + 2 := iwc (by omega) (by omega)
  have i7 : iw (x3 + 7) = x3 + 7 := iwc (by omega) (by omega)
  unfold c_Law_351_f
  simp only [i1, i2, i7]
  repeat (with_reducible refine wp_oc (by omega) ?_)
  refine wp_call (y_way _ _ σ hI) ?_
  rintro r s hm
  repeat (with_reducible refine wp_oc (by omega) ?_)
  refine wp_call hm ?_
  rintro r' τ ⟨rfl, hτ⟩
  exact wp_t rfl (hs τ hτ)
theorem lw_384 (xs : Nat → Int32) (L : Nat) (g : Int → SS → OO) (x3 : Int) (σ : SS) (h0 : 0 ≤ x3) (h7 : x3 + 7 ≤ L) (hL : L ≤ 3584) (hI : Inv σ) (hs : ∀ τ, Inv τ → Wp (g (x3 + 7) τ) fun r _ => r = 1) : Wp (c_Law_384_f xs L g x3 σ) fun r _ => r = 1 := by
  have i1 : iw (x3 + 1) = x3 + 1 := iwc (by omega) (by omega)
  have i2 : iw (x3 + 2) = x3 + 2 := iwc (by omega) (by omega)
  have i3 : iw (x3 + 3) = x3 + 3 := iwc (by omega) (by omega)
  have i7 : iw (x3 + 7) = x3 + 7 := iwc (by omega) (by omega)
  unfold c_Law_384_f
  simp only [i1, i2, i3, i7]
  repeat (with_reducible refine wp_oc (by omega) ?_)
  refine wp_call (y_quarrel _ _ _ σ hI) ?_
  rintro r s hm
  repeat (with_reducible refine wp_oc (by omega) ?_)
  refine wp_call hm ?_
  rintro r' τ ⟨rfl, hτ⟩
  exact wp_t rfl (hs τ hτ)
theorem lw_427 (xs : Nat → Int32) (L : Nat) (g : Int → SS → OO) (x3 : Int) (σ : SS) (h0 : 0 ≤ x3) (h7 : x3 + 7 ≤ L) (hL : L ≤ 3584) (hI : Inv σ) (hs : ∀ τ, Inv τ → Wp (g (x3 + 7) τ) fun r _ => r = 1) : Wp (c_Law_427_f xs L g x3 σ) fun r _ => r = 1 := by
  have i1 : iw (x3 + 1) = x3 + 1 := iwc (by omega) (by omega)
  have i2 : iw (x3 + 2) = x3 + 2 := iwc (by omega) (by omega)
  have i3 : iw (x3 + 3) = x3 + 3 := iwc (by omega) (by omega)
  have i4 : iw (x3 + 4) = x3 + 4 := iwc (by omega) (by omega)
  have i7 : iw (x3 + 7) = x3 + 7 := iwc (by omega) (by omega)
  unfold c_Law_427_f
  simp only [i1, i2, i3, i4, i7]
  repeat (with_reducible refine wp_oc (by omega) ?_)
  refine wp_call (y_heat _ _ _ _ σ hI) ?_
  rintro r s hm
  repeat (with_reducible refine wp_oc (by omega) ?_)
  refine wp_call hm ?_
  rintro r' τ ⟨rfl, hτ⟩
  exact wp_t rfl (hs τ hτ)
theorem lw_480 (xs : Nat → Int32) (L : Nat) (g : Int → SS → OO) (x3 : Int) (σ : SS) (h0 : 0 ≤ x3) (h7 : x3 + 7 ≤ L) (hL : L ≤ 3584) (hI : Inv σ) (hs : ∀ τ, Inv τ → Wp (g (x3 + 7) τ) fun r _ => r = 1) : Wp (c_Law_480_f xs L g x3 σ) fun r _ => r = 1 := by
  have i1 : iw (x3 + 1) = x3 + 1 := iwc (by omega) (by omega)
  have i2 : iw (x3 + 2) = x3 + 2 := iwc (by omega) (by omega)
  have i3 : iw (x3 + 3) = x3 + 3 := iwc (by omega) (by omega)
  have i4 : iw (x3 + 4) = x3 + 4 := iwc (by omega) (by omega)
  have i7 : iw (x3 + 7) = x3 + 7 := iwc (by omega) (by omega)
  unfold c_Law_480_f
  simp only [i1, i2, i3, i4, i7]
  repeat (with_reducible refine wp_oc (by omega) ?_)
  refine wp_call (y_setOut _ _ _ _ σ hI) ?_
  rintro r s hm
  repeat (with_reducible refine wp_oc (by omega) ?_)
  refine wp_call hm ?_
  rintro r' τ ⟨rfl, hτ⟩
  exact wp_t rfl (hs τ hτ)
theorem lw_533 (xs : Nat → Int32) (L : Nat) (g : Int → SS → OO) (x3 : Int) (σ : SS) (h0 : 0 ≤ x3) (h7 : x3 + 7 ≤ L) (hL : L ≤ 3584) (hI : Inv σ) (hs : ∀ τ, Inv τ → Wp (g (x3 + 7) τ) fun r _ => r = 1) : Wp (c_Law_533_f xs L g x3 σ) fun r _ => r = 1 := by
  have i1 : iw (x3 + 1) = x3 + 1 := iwc (by omega) (by omega)
  have i7 : iw (x3 + 7) = x3 + 7 := iwc (by omega) (by omega)
  unfold c_Law_533_f
  simp only [i1, i7]
  repeat (with_reducible refine wp_oc (by omega) ?_)
  refine wp_call (y_take _ σ hI) ?_
  rintro r s hm
  repeat (with_reducible refine wp_oc (by omega) ?_)
  refine wp_call hm ?_
  rintro r' τ ⟨rfl, hτ⟩
  exact wp_t rfl (hs τ hτ)
theorem lw_556 (xs : Nat → Int32) (L : Nat) (g : Int → SS → OO) (x3 : Int) (σ : SS) (h0 : 0 ≤ x3) (h7 : x3 + 7 ≤ L) (hL : L ≤ 3584) (hI : Inv σ) (hs : ∀ τ, Inv τ → Wp (g (x3 + 7) τ) fun r _ => r = 1) : Wp (c_Law_556_f xs L g x3 σ) fun r _ => r = 1 := by
  have i1 : iw (x3 + 1) = x3 + 1 := iwc (by omega) (by omega)
  have i7 : iw (x3 + 7) = x3 + 7 := iwc (by omega) (by omega)
  unfold c_Law_556_f
  simp only [i1, i7]
  repeat (with_reducible refine wp_oc (by omega) ?_)
  refine wp_call (y_words _ σ hI) ?_
  rintro r s hm
  repeat (with_reducible refine wp_oc (by omega) ?_)
  refine wp_call hm ?_
  rintro r' τ ⟨rfl, hτ⟩
  exact wp_t rfl (hs τ hτ)
theorem lw_579 (xs : Nat → Int32) (L : Nat) (g : Int → SS → OO) (x3 : Int) (σ : SS) (h0 : 0 ≤ x3) (h7 : x3 + 7 ≤ L) (hL : L ≤ 3584) (hI : Inv σ) (hs : ∀ τ, Inv τ → Wp (g (x3 + 7) τ) fun r _ => r = 1) : Wp (c_Law_579_f xs L g x3 σ) fun r _ => r = 1 := by
  have i7 : iw (x3 + 7) = x3 + 7 := iwc (by omega) (by omega)
  unfold c_Law_579_f
  simp only [i7]
  refine wp_call (y_year σ hI) ?_
  rintro r s hm
  refine wp_call hm ?_
  rintro r' τ ⟨rfl, hτ⟩
  exact wp_t rfl (hs τ hτ)
theorem lw_592 (xs : Nat → Int32) (L : Nat) (g : Int → SS → OO) (x3 : Int) (σ : SS) (h0 : 0 ≤ x3) (h7 : x3 + 7 ≤ L) (hL : L ≤ 3584) (hI : Inv σ) (hs : ∀ τ, Inv τ → Wp (g (x3 + 7) τ) fun r _ => r = 1) : Wp (c_Law_592_f xs L g x3 σ) fun r _ => r = 1 := by
  have i1 : iw (x3 + 1) = x3 + 1 := iwc (by omega) (by omega)
  have i7 : iw (x3 + 7) = x3 + 7 := iwc (by omega) (by omega)
  unfold c_Law_592_f
  simp only [i1, i7]
  repeat (with_reducible refine wp_oc (by omega) ?_)
  refine wp_call (y_walk _ σ hI) ?_
  rintro r s hm
  repeat (with_reducible refine wp_oc (by omega) ?_)
  refine wp_call hm ?_
  rintro r' τ ⟨rfl, hτ⟩
  exact wp_t rfl (hs τ hτ)
theorem lw_615 (xs : Nat → Int32) (L : Nat) (g : Int → SS → OO) (x3 : Int) (σ : SS) (h0 : 0 ≤ x3) (h7 : x3 + 7 ≤ L) (hL : L ≤ 3584) (hI : Inv σ) (hs : ∀ τ, Inv τ → Wp (g (x3 + 7) τ) fun r _ => r = 1) : Wp (c_Law_615_f xs L g x3 σ) fun r _ => r = 1 := by
  have i7 : iw (x3 + 7) = x3 + 7 := iwc (by omega) (by omega)
  unfold c_Law_615_f
  simp only [i7]
  refine wp_call (y_undo σ hI) ?_
  rintro r s hm
  refine wp_call hm ?_
  rintro r' τ ⟨rfl, hτ⟩
  exact wp_t rfl (hs τ hτ)
theorem lw_628 (xs : Nat → Int32) (L : Nat) (g : Int → SS → OO) (x3 : Int) (σ : SS) (h0 : 0 ≤ x3) (h7 : x3 + 7 ≤ L) (hL : L ≤ 3584) (hI : Inv σ) (hs : ∀ τ, Inv τ → Wp (g (x3 + 7) τ) fun r _ => r = 1) : Wp (c_Law_628_f xs L g x3 σ) fun r _ => r = 1 := by
  have i7 : iw (x3 + 7) = x3 + 7 := iwc (by omega) (by omega)
  unfold c_Law_628_f
  simp only [i7]
  refine wp_call (y_redo σ hI) ?_
  rintro r s hm
  refine wp_call hm ?_
  rintro r' τ ⟨rfl, hτ⟩
  exact wp_t rfl (hs τ hτ)
theorem lw_641 (xs : Nat → Int32) (L : Nat) (g : Int → SS → OO) (x3 : Int) (σ : SS) (h0 : 0 ≤ x3) (h7 : x3 + 7 ≤ L) (hL : L ≤ 3584) (hI : Inv σ) (hs : ∀ τ, Inv τ → Wp (g (x3 + 7) τ) fun r _ => r = 1) : Wp (c_Law_641_f xs L g x3 σ) fun r _ => r = 1 := by
  have i1 : iw (x3 + 1) = x3 + 1 := iwc (by omega) (by omega)
  have i7 : iw (x3 + 7) = x3 + 7 := iwc (by omega) (by omega)
  unfold c_Law_641_f
  simp only [i1, i7]
  repeat (with_reducible refine wp_oc (by omega) ?_)
  refine wp_call (y_start _ σ hI) ?_
  rintro r s hm
  repeat (with_reducible refine wp_oc (by omega) ?_)
  refine wp_call hm ?_
  rintro r' τ ⟨rfl, hτ⟩
  exact wp_t rfl (hs τ hτ)
theorem lw_664 (xs : Nat → Int32) (L : Nat) (g : Int → SS → OO) (x3 : Int) (σ : SS) (h0 : 0 ≤ x3) (h7 : x3 + 7 ≤ L) (hL : L ≤ 3584) (hI : Inv σ) (hs : ∀ τ, Inv τ → Wp (g (x3 + 7) τ) fun r _ => r = 1) : Wp (c_Law_664_f xs L g x3 σ) fun r _ => r = 1 := by
  have i1 : iw (x3 + 1) = x3 + 1 := iwc (by omega) (by omega)
  have i7 : iw (x3 + 7) = x3 + 7 := iwc (by omega) (by omega)
  unfold c_Law_664_f
  simp only [i1, i7]
  repeat (with_reducible refine wp_oc (by omega) ?_)
  refine wp_call (y_step _ σ hI) ?_
  rintro r s hm
  repeat (with_reducible refine wp_oc (by omega) ?_)
  refine wp_call hm ?_
  rintro r' τ ⟨rfl, hτ⟩
  exact wp_t rfl (hs τ hτ)
theorem lw_687 (xs : Nat → Int32) (L : Nat) (g : Int → SS → OO) (x3 : Int) (σ : SS) (h0 : 0 ≤ x3) (h7 : x3 + 7 ≤ L) (hL : L ≤ 3584) (hI : Inv σ) (hs : ∀ τ, Inv τ → Wp (g (x3 + 7) τ) fun r _ => r = 1) : Wp (c_Law_687_f xs L g x3 σ) fun r _ => r = 1 := by
  have i1 : iw (x3 + 1) = x3 + 1 := iwc (by omega) (by omega)
  have i2 : iw (x3 + 2) = x3 + 2 := iwc (by omega) (by omega)
  have i3 : iw (x3 + 3) = x3 + 3 := iwc (by omega) (by omega)
  have i4 : iw (x3 + 4) = x3 + 4 := iwc (by omega) (by omega)
  have i7 : iw (x3 + 7) = x3 + 7 := iwc (by omega) (by omega)
  unfold c_Law_687_f
  simp only [i1, i2, i3, i4, i7]
  repeat (with_reducible refine wp_oc (by omega) ?_)
  refine wp_call (y_walked _ _ _ _ σ hI) ?_
  rintro r s hm
  repeat (with_reducible refine wp_oc (by omega) ?_)
  refine wp_call hm ?_
  rintro r' τ ⟨rfl, hτ⟩
  exact wp_t rfl (hs τ hτ)
theorem lw_740 (xs : Nat → Int32) (L : Nat) (g : Int → SS → OO) (x3 : Int) (σ : SS) (h0 : 0 ≤ x3) (h7 : x3 + 7 ≤ L) (hL : L ≤ 3584) (hI : Inv σ) (hs : ∀ τ, Inv τ → Wp (g (x3 + 7) τ) fun r _ => r = 1) : Wp (c_Law_740_f xs L g x3 σ) fun r _ => r = 1 := by
  have i1 : iw (x3 + 1) = x3 + 1 := iwc (by omega) (by omega)
  have i2 : iw (x3 + 2) = x3 + 2 := iwc (by omega) (by omega)
  have i7 : iw (x3 + 7) = x3 + 7 := iwc (by omega) (by omega)
  unfold c_Law_740_f
  simp only [i1, i2, i7]
  repeat (with_reducible refine wp_oc (by omega) ?_)
  refine wp_call (y_shortest _ _ σ hI) ?_
  rintro r s hm
  repeat (with_reducible refine wp_oc (by omega) ?_)
  refine wp_call hm ?_
  rintro r' τ ⟨rfl, hτ⟩
  exact wp_t rfl (hs τ hτ)
theorem lw_773 (xs : Nat → Int32) (L : Nat) (g : Int → SS → OO) (x3 : Int) (σ : SS) (h0 : 0 ≤ x3) (h7 : x3 + 7 ≤ L) (hL : L ≤ 3584) (hI : Inv σ) (hs : ∀ τ, Inv τ → Wp (g (x3 + 7) τ) fun r _ => r = 1) : Wp (c_Law_773_f xs L g x3 σ) fun r _ => r = 1 := by
  have i1 : iw (x3 + 1) = x3 + 1 := iwc (by omega) (by omega)
  have i2 : iw (x3 + 2) = x3 + 2 := iwc (by omega) (by omega)
  have i7 : iw (x3 + 7) = x3 + 7 := iwc (by omega) (by omega)
  unfold c_Law_773_f
  simp only [i1, i2, i7]
  repeat (with_reducible refine wp_oc (by omega) ?_)
  refine wp_call (y_send _ _ σ hI) ?_
  rintro r s hm
  repeat (with_reducible refine wp_oc (by omega) ?_)
  refine wp_call hm ?_
  rintro r' τ ⟨rfl, hτ⟩
  exact wp_t rfl (hs τ hτ)
theorem lw_806 (xs : Nat → Int32) (L : Nat) (g : Int → SS → OO) (x3 : Int) (σ : SS) (h0 : 0 ≤ x3) (h7 : x3 + 7 ≤ L) (hL : L ≤ 3584) (hI : Inv σ) (hs : ∀ τ, Inv τ → Wp (g (x3 + 7) τ) fun r _ => r = 1) : Wp (c_Law_806_f xs L g x3 σ) fun r _ => r = 1 := by
  have i1 : iw (x3 + 1) = x3 + 1 := iwc (by omega) (by omega)
  have i2 : iw (x3 + 2) = x3 + 2 := iwc (by omega) (by omega)
  have i3 : iw (x3 + 3) = x3 + 3 := iwc (by omega) (by omega)
  have i4 : iw (x3 + 4) = x3 + 4 := iwc (by omega) (by omega)
  have i5 : iw (x3 + 5) = x3 + 5 := iwc (by omega) (by omega)
  have i7 : iw (x3 + 7) = x3 + 7 := iwc (by omega) (by omega)
  unfold c_Law_806_f j_Law_840 j_Law_877
  simp only [i1, i2, i3, i4, i5, i7]
  generalize (xs (x3 + 5).toNat).toInt = v5
  repeat (with_reducible refine wp_oc (by omega) ?_)
  by_cases h5 : v5 = 0
  · refine wp_t h5 (wp_oc (by first | omega | simp) ?_)
    refine wp_call (y_measure _ _ _ _ _ σ hI) ?_
    rintro r s hm
    repeat (with_reducible refine wp_oc (by omega) ?_)
    refine wp_t h5 (wp_oc (by first | omega | simp) (wp_call hm ?_))
    rintro r' τ ⟨rfl, hτ⟩
    exact wp_t rfl (hs τ hτ)
  · refine wp_f h5 (wp_oc (by first | omega | simp) ?_)
    refine wp_call (y_measure _ _ _ _ _ σ hI) ?_
    rintro r s hm
    repeat (with_reducible refine wp_oc (by omega) ?_)
    refine wp_f h5 (wp_oc (by first | omega | simp) (wp_call hm ?_))
    rintro r' τ ⟨rfl, hτ⟩
    exact wp_t rfl (hs τ hτ)
theorem lw_885 (xs : Nat → Int32) (L : Nat) (g : Int → SS → OO) (x3 : Int) (σ : SS) (h0 : 0 ≤ x3) (h7 : x3 + 7 ≤ L) (hL : L ≤ 3584) (hI : Inv σ) (hs : ∀ τ, Inv τ → Wp (g (x3 + 7) τ) fun r _ => r = 1) : Wp (c_Law_885_f xs L g x3 σ) fun r _ => r = 1 := by
  have i1 : iw (x3 + 1) = x3 + 1 := iwc (by omega) (by omega)
  have i2 : iw (x3 + 2) = x3 + 2 := iwc (by omega) (by omega)
  have i7 : iw (x3 + 7) = x3 + 7 := iwc (by omega) (by omega)
  unfold c_Law_885_f
  simp only [i1, i2, i7]
  repeat (with_reducible refine wp_oc (by omega) ?_)
  refine wp_call (y_adds _ _ σ hI) ?_
  rintro r s hm
  repeat (with_reducible refine wp_oc (by omega) ?_)
  refine wp_call hm ?_
  rintro r' τ ⟨rfl, hτ⟩
  exact wp_t rfl (hs τ hτ)
theorem lw_918 (xs : Nat → Int32) (L : Nat) (g : Int → SS → OO) (x3 : Int) (σ : SS) (h0 : 0 ≤ x3) (h7 : x3 + 7 ≤ L) (hL : L ≤ 3584) (hI : Inv σ) (hs : ∀ τ, Inv τ → Wp (g (x3 + 7) τ) fun r _ => r = 1) : Wp (c_Law_918_f xs L g x3 σ) fun r _ => r = 1 := by
  have i7 : iw (x3 + 7) = x3 + 7 := iwc (by omega) (by omega)
  unfold c_Law_918_f
  simp only [i7]
  refine wp_call (y_fair σ hI) ?_
  rintro r s hm
  refine wp_call hm ?_
  rintro r' τ ⟨rfl, hτ⟩
  exact wp_t rfl (hs τ hτ)
theorem lw_931 (xs : Nat → Int32) (L : Nat) (g : Int → SS → OO) (x3 : Int) (σ : SS) (h0 : 0 ≤ x3) (h7 : x3 + 7 ≤ L) (hL : L ≤ 3584) (hI : Inv σ) (hs : ∀ τ, Inv τ → Wp (g (x3 + 7) τ) fun r _ => r = 1) : Wp (c_Law_931_f xs L g x3 σ) fun r _ => r = 1 := by
  have i7 : iw (x3 + 7) = x3 + 7 := iwc (by omega) (by omega)
  unfold c_Law_931_f
  simp only [i7]
  refine wp_call (y_cover σ hI) ?_
  rintro r s hm
  refine wp_call hm ?_
  rintro r' τ ⟨rfl, hτ⟩
  exact wp_t rfl (hs τ hτ)
theorem lw_944 (xs : Nat → Int32) (L : Nat) (g : Int → SS → OO) (x3 : Int) (σ : SS) (h0 : 0 ≤ x3) (h7 : x3 + 7 ≤ L) (hL : L ≤ 3584) (hI : Inv σ) (hs : ∀ τ, Inv τ → Wp (g (x3 + 7) τ) fun r _ => r = 1) : Wp (c_Law_944_f xs L g x3 σ) fun r _ => r = 1 := by
  have i7 : iw (x3 + 7) = x3 + 7 := iwc (by omega) (by omega)
  unfold c_Law_944_f
  simp only [i7]
  refine wp_call (y_turned σ hI) ?_
  rintro r s hm
  refine wp_call hm ?_
  rintro r' τ ⟨rfl, hτ⟩
  exact wp_t rfl (hs τ hτ)
theorem lw_957 (xs : Nat → Int32) (L : Nat) (g : Int → SS → OO) (x3 : Int) (σ : SS) (h0 : 0 ≤ x3) (h7 : x3 + 7 ≤ L) (hL : L ≤ 3584) (hI : Inv σ) (hs : ∀ τ, Inv τ → Wp (g (x3 + 7) τ) fun r _ => r = 1) : Wp (c_Law_957_f xs L g x3 σ) fun r _ => r = 1 := by
  have i1 : iw (x3 + 1) = x3 + 1 := iwc (by omega) (by omega)
  have i2 : iw (x3 + 2) = x3 + 2 := iwc (by omega) (by omega)
  have i3 : iw (x3 + 3) = x3 + 3 := iwc (by omega) (by omega)
  have i4 : iw (x3 + 4) = x3 + 4 := iwc (by omega) (by omega)
  have i7 : iw (x3 + 7) = x3 + 7 := iwc (by omega) (by omega)
  unfold c_Law_957_f
  simp only [i1, i2, i3, i4, i7]
  repeat (with_reducible refine wp_oc (by omega) ?_)
  refine wp_call (y_loud _ _ _ _ σ hI) ?_
  rintro r s hm
  repeat (with_reducible refine wp_oc (by omega) ?_)
  refine wp_call hm ?_
  rintro r' τ ⟨rfl, hτ⟩
  exact wp_t rfl (hs τ hτ)
theorem lw_1010 (xs : Nat → Int32) (L : Nat) (g : Int → SS → OO) (x3 : Int) (σ : SS) (h0 : 0 ≤ x3) (h7 : x3 + 7 ≤ L) (hL : L ≤ 3584) (hI : Inv σ) (hs : ∀ τ, Inv τ → Wp (g (x3 + 7) τ) fun r _ => r = 1) (hm_home : ∀ a0 a1 a2 a3 a4 a5, MP (f_Qu_home a0 a1 a2 a3 a4 a5) (f_Mo_home a0 a1 a2 a3 a4 a5)) : Wp (c_Law_1010_f xs L g x3 σ) fun r _ => r = 1 := by
  have i1 : iw (x3 + 1) = x3 + 1 := iwc (by omega) (by omega)
  have i2 : iw (x3 + 2) = x3 + 2 := iwc (by omega) (by omega)
  have i3 : iw (x3 + 3) = x3 + 3 := iwc (by omega) (by omega)
  have i4 : iw (x3 + 4) = x3 + 4 := iwc (by omega) (by omega)
  have i5 : iw (x3 + 5) = x3 + 5 := iwc (by omega) (by omega)
  have i6 : iw (x3 + 6) = x3 + 6 := iwc (by omega) (by omega)
  have i7 : iw (x3 + 7) = x3 + 7 := iwc (by omega) (by omega)
  unfold c_Law_1010_f
  simp only [i1, i2, i3, i4, i5, i6, i7]
  repeat (with_reducible refine wp_oc (by omega) ?_)
  refine wp_call (hm_home _ _ _ _ _ _ σ hI) ?_
  rintro r s hm
  repeat (with_reducible refine wp_oc (by omega) ?_)
  refine wp_call hm ?_
  rintro r' τ ⟨rfl, hτ⟩
  exact wp_t rfl (hs τ hτ)
theorem lw_1085 (xs : Nat → Int32) (L : Nat) (g : Int → SS → OO) (x3 : Int) (σ : SS) (h0 : 0 ≤ x3) (h7 : x3 + 7 ≤ L) (hL : L ≤ 3584) (hI : Inv σ) (hs : ∀ τ, Inv τ → Wp (g (x3 + 7) τ) fun r _ => r = 1) (hm_temper : ∀ a0 a1 a2 a3, MP (f_Qu_temper a0 a1 a2 a3) (f_Mo_temper a0 a1 a2 a3)) : Wp (c_Law_1085_f xs L g x3 σ) fun r _ => r = 1 := by
  have i1 : iw (x3 + 1) = x3 + 1 := iwc (by omega) (by omega)
  have i2 : iw (x3 + 2) = x3 + 2 := iwc (by omega) (by omega)
  have i3 : iw (x3 + 3) = x3 + 3 := iwc (by omega) (by omega)
  have i4 : iw (x3 + 4) = x3 + 4 := iwc (by omega) (by omega)
  have i7 : iw (x3 + 7) = x3 + 7 := iwc (by omega) (by omega)
  unfold c_Law_1085_f
  simp only [i1, i2, i3, i4, i7]
  repeat (with_reducible refine wp_oc (by omega) ?_)
  refine wp_call (hm_temper _ _ _ _ σ hI) ?_
  rintro r s hm
  repeat (with_reducible refine wp_oc (by omega) ?_)
  refine wp_call hm ?_
  rintro r' τ ⟨rfl, hτ⟩
  exact wp_t rfl (hs τ hτ)
theorem lw_1138 (xs : Nat → Int32) (L : Nat) (g : Int → SS → OO) (x3 : Int) (σ : SS) (h0 : 0 ≤ x3) (h7 : x3 + 7 ≤ L) (hL : L ≤ 3584) (hI : Inv σ) (hs : ∀ τ, Inv τ → Wp (g (x3 + 7) τ) fun r _ => r = 1) : Wp (c_Law_1138_f xs L g x3 σ) fun r _ => r = 1 := by
  have i1 : iw (x3 + 1) = x3 + 1 := iwc (by omega) (by omega)
  have i7 : iw (x3 + 7) = x3 + 7 := iwc (by omega) (by omega)
  unfold c_Law_1138_f
  simp only [i1, i7]
  repeat (with_reducible refine wp_oc (by omega) ?_)
  refine wp_call (y_lies _ σ hI) ?_
  rintro r s hm
  repeat (with_reducible refine wp_oc (by omega) ?_)
  refine wp_call hm ?_
  rintro r' τ ⟨rfl, hτ⟩
  exact wp_t rfl (hs τ hτ)
theorem lw_1161 (xs : Nat → Int32) (L : Nat) (g : Int → SS → OO) (x3 : Int) (σ : SS) (h0 : 0 ≤ x3) (h7 : x3 + 7 ≤ L) (hL : L ≤ 3584) (hI : Inv σ) (hs : ∀ τ, Inv τ → Wp (g (x3 + 7) τ) fun r _ => r = 1) : Wp (c_Law_1161_f xs L g x3 σ) fun r _ => r = 1 := by
  have i1 : iw (x3 + 1) = x3 + 1 := iwc (by omega) (by omega)
  have i2 : iw (x3 + 2) = x3 + 2 := iwc (by omega) (by omega)
  have i3 : iw (x3 + 3) = x3 + 3 := iwc (by omega) (by omega)
  have i4 : iw (x3 + 4) = x3 + 4 := iwc (by omega) (by omega)
  have i7 : iw (x3 + 7) = x3 + 7 := iwc (by omega) (by omega)
  unfold c_Law_1161_f
  simp only [i1, i2, i3, i4, i7]
  repeat (with_reducible refine wp_oc (by omega) ?_)
  refine wp_call (y_report _ _ _ _ σ hI) ?_
  rintro r s hm
  repeat (with_reducible refine wp_oc (by omega) ?_)
  refine wp_call hm ?_
  rintro r' τ ⟨rfl, hτ⟩
  exact wp_t rfl (hs τ hτ)
theorem lw_1214 (xs : Nat → Int32) (L : Nat) (g : Int → SS → OO) (x3 : Int) (σ : SS) (h0 : 0 ≤ x3) (h7 : x3 + 7 ≤ L) (hL : L ≤ 3584) (hI : Inv σ) (hs : ∀ τ, Inv τ → Wp (g (x3 + 7) τ) fun r _ => r = 1) : Wp (c_Law_1214_f xs L g x3 σ) fun r _ => r = 1 := by
  have i1 : iw (x3 + 1) = x3 + 1 := iwc (by omega) (by omega)
  have i7 : iw (x3 + 7) = x3 + 7 := iwc (by omega) (by omega)
  unfold c_Law_1214_f
  simp only [i1, i7]
  repeat (with_reducible refine wp_oc (by omega) ?_)
  refine wp_call (y_untell _ σ hI) ?_
  rintro r s hm
  repeat (with_reducible refine wp_oc (by omega) ?_)
  refine wp_call hm ?_
  rintro r' τ ⟨rfl, hτ⟩
  exact wp_t rfl (hs τ hτ)
theorem lw_1237 (xs : Nat → Int32) (L : Nat) (g : Int → SS → OO) (x3 : Int) (σ : SS) (h0 : 0 ≤ x3) (h7 : x3 + 7 ≤ L) (hL : L ≤ 3584) (hI : Inv σ) (hs : ∀ τ, Inv τ → Wp (g (x3 + 7) τ) fun r _ => r = 1) : Wp (c_Law_1237_f xs L g x3 σ) fun r _ => r = 1 := by
  have i1 : iw (x3 + 1) = x3 + 1 := iwc (by omega) (by omega)
  have i7 : iw (x3 + 7) = x3 + 7 := iwc (by omega) (by omega)
  unfold c_Law_1237_f
  simp only [i1, i7]
  repeat (with_reducible refine wp_oc (by omega) ?_)
  refine wp_call (y_later _ σ hI) ?_
  rintro r s hm
  repeat (with_reducible refine wp_oc (by omega) ?_)
  refine wp_call hm ?_
  rintro r' τ ⟨rfl, hτ⟩
  exact wp_t rfl (hs τ hτ)
theorem lw_1260 (xs : Nat → Int32) (L : Nat) (g : Int → SS → OO) (x3 : Int) (σ : SS) (h0 : 0 ≤ x3) (h7 : x3 + 7 ≤ L) (hL : L ≤ 3584) (hI : Inv σ) (hs : ∀ τ, Inv τ → Wp (g (x3 + 7) τ) fun r _ => r = 1) : Wp (c_Law_1260_f xs L g x3 σ) fun r _ => r = 1 := by
  have i1 : iw (x3 + 1) = x3 + 1 := iwc (by omega) (by omega)
  have i7 : iw (x3 + 7) = x3 + 7 := iwc (by omega) (by omega)
  unfold c_Law_1260_f
  simp only [i1, i7]
  repeat (with_reducible refine wp_oc (by omega) ?_)
  refine wp_call (y_miles _ σ hI) ?_
  rintro r s hm
  repeat (with_reducible refine wp_oc (by omega) ?_)
  refine wp_call hm ?_
  rintro r' τ ⟨rfl, hτ⟩
  exact wp_t (by rw [yc0]) (hs τ hτ)
theorem lw_1284 (xs : Nat → Int32) (L : Nat) (g : Int → SS → OO) (x3 : Int) (σ : SS) (h0 : 0 ≤ x3) (h7 : x3 + 7 ≤ L) (hL : L ≤ 3584) (hI : Inv σ) (hs : ∀ τ, Inv τ → Wp (g (x3 + 7) τ) fun r _ => r = 1) : Wp (c_Law_1284_f xs L g x3 σ) fun r _ => r = 1 := by
  have i1 : iw (x3 + 1) = x3 + 1 := iwc (by omega) (by omega)
  have i2 : iw (x3 + 2) = x3 + 2 := iwc (by omega) (by omega)
  have i7 : iw (x3 + 7) = x3 + 7 := iwc (by omega) (by omega)
  unfold c_Law_1284_f
  simp only [i1, i2, i7]
  repeat (with_reducible refine wp_oc (by omega) ?_)
  refine wp_call (y_ask _ _ σ hI) ?_
  rintro r s hm
  repeat (with_reducible refine wp_oc (by omega) ?_)
  refine wp_call hm ?_
  rintro r' τ ⟨rfl, hτ⟩
  exact wp_t rfl (hs τ hτ)
theorem lw_1317 (xs : Nat → Int32) (L : Nat) (g : Int → SS → OO) (x3 : Int) (σ : SS) (h0 : 0 ≤ x3) (h7 : x3 + 7 ≤ L) (hL : L ≤ 3584) (hI : Inv σ) (hs : ∀ τ, Inv τ → Wp (g (x3 + 7) τ) fun r _ => r = 1) : Wp (c_Law_1317_f xs L g x3 σ) fun r _ => r = 1 := by
  have i1 : iw (x3 + 1) = x3 + 1 := iwc (by omega) (by omega)
  have i7 : iw (x3 + 7) = x3 + 7 := iwc (by omega) (by omega)
  unfold c_Law_1317_f
  simp only [i1, i7]
  repeat (with_reducible refine wp_oc (by omega) ?_)
  refine wp_call (y_image _ σ hI) ?_
  rintro r s hm
  repeat (with_reducible refine wp_oc (by omega) ?_)
  refine wp_call hm ?_
  rintro r' τ ⟨rfl, hτ⟩
  exact wp_t rfl (hs τ hτ)
theorem lw_1340 (xs : Nat → Int32) (L : Nat) (g : Int → SS → OO) (x3 : Int) (σ : SS) (h0 : 0 ≤ x3) (h7 : x3 + 7 ≤ L) (hL : L ≤ 3584) (hI : Inv σ) (hs : ∀ τ, Inv τ → Wp (g (x3 + 7) τ) fun r _ => r = 1) : Wp (c_Law_1340_f xs L g x3 σ) fun r _ => r = 1 := by
  have i1 : iw (x3 + 1) = x3 + 1 := iwc (by omega) (by omega)
  have i7 : iw (x3 + 7) = x3 + 7 := iwc (by omega) (by omega)
  unfold c_Law_1340_f
  simp only [i1, i7]
  repeat (with_reducible refine wp_oc (by omega) ?_)
  refine wp_call (y_back _ σ hI) ?_
  rintro r s hm
  repeat (with_reducible refine wp_oc (by omega) ?_)
  refine wp_call hm ?_
  rintro r' τ ⟨rfl, hτ⟩
  exact wp_t rfl (hs τ hτ)
theorem lw_1363 (xs : Nat → Int32) (L : Nat) (g : Int → SS → OO) (x3 : Int) (σ : SS) (h0 : 0 ≤ x3) (h7 : x3 + 7 ≤ L) (hL : L ≤ 3584) (hI : Inv σ) (hs : ∀ τ, Inv τ → Wp (g (x3 + 7) τ) fun r _ => r = 1) : Wp (c_Law_1363_f xs L g x3 σ) fun r _ => r = 1 := by
  have i1 : iw (x3 + 1) = x3 + 1 := iwc (by omega) (by omega)
  have i7 : iw (x3 + 7) = x3 + 7 := iwc (by omega) (by omega)
  unfold c_Law_1363_f
  simp only [i1, i7]
  repeat (with_reducible refine wp_oc (by omega) ?_)
  refine wp_call (y_about _ σ hI) ?_
  rintro r s hm
  repeat (with_reducible refine wp_oc (by omega) ?_)
  refine wp_call hm ?_
  rintro r' τ ⟨rfl, hτ⟩
  exact wp_t rfl (hs τ hτ)
