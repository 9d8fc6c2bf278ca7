/-! two runs side by side -/
def W2 (x y : OO) (Q : Int → SS → Int → SS → Prop) : Prop := Wp x fun r σ => Wp y fun r' τ => Q r σ r' τ
theorem w2_call {x y : OO} {k k' : Int → SS → OO} {R Q : Int → SS → Int → SS → Prop} (h : W2 x y R) (hk : ∀ r σ r' τ, R r σ r' τ → W2 (k r σ) (k' r' τ) Q) : W2 (ob x k) (ob y k') Q := by
  obtain ⟨r, σ, rfl, r', τ, rfl, h⟩ := h
  exact hk r σ r' τ h
theorem w2_l {x x' y : OO} {Q : Int → SS → Int → SS → Prop} (h : ∀ Q', Wp x' Q' → Wp x Q') (hk : W2 x' y Q) : W2 x y Q := h _ hk
theorem w2_r {x y y' : OO} {Q : Int → SS → Int → SS → Prop} (h : ∀ Q', Wp y' Q' → Wp y Q') (hk : W2 x y' Q) : W2 x y Q := wp_mono hk (fun _ _ z => h _ z)
theorem w2_d {r r' : Int} {σ τ : SS} {Q : Int → SS → Int → SS → Prop} (h : Q r σ r' τ) : W2 (some (r, σ)) (some (r', τ)) Q := wp_some (wp_some h)
theorem w2_dl {r : Int} {σ : SS} {y : OO} {Q : Int → SS → Int → SS → Prop} (h : Wp y (Q r σ)) : W2 (some (r, σ)) y Q := wp_some h
theorem w2_mono {x y : OO} {Q R : Int → SS → Int → SS → Prop} (h : W2 x y R) (hk : ∀ r σ r' τ, R r σ r' τ → Q r σ r' τ) : W2 x y Q := wp_mono h (fun _ _ z => wp_mono z (fun _ _ w => hk _ _ _ _ w))
theorem w2_of {x y : OO} {Q : Int → SS → Int → SS → Prop} {R : Int → SS → Prop} {R' : Int → SS → Prop} (h : Wp x R) (h' : Wp y R') (hk : ∀ r σ r' τ, R r σ → R' r' τ → Q r σ r' τ) : W2 x y Q := wp_mono h (fun _ _ z => wp_mono h' (fun _ _ w => hk _ _ _ _ z w))
/-- a call on the left alone that ends with what comes of it -/
theorem w2_callr {x y : OO} {k' : Int → SS → OO} {R Q : Int → SS → Int → SS → Prop} (h : W2 x y R) (hk : ∀ r σ r' τ, R r σ r' τ → Wp (k' r' τ) (Q r σ)) : W2 x (ob y k') Q := by
  obtain ⟨r, σ, rfl, r', τ, rfl, h⟩ := h
  exact wp_some (hk r σ r' τ h)
theorem ob_as (x : OO) (k : Int → SS → OO) (g : Int → SS → OO) : ob (ob x k) g = ob x fun r s => ob (k r s) g := by
  cases x with
  | none => rfl
  | some p => rfl
/-- a token on both sides -/
def TK (B : Nat → Int) (N : Nat) (σ τ : SS) (k : Int) (p n : Nat) : Prop := TXC B N σ ∧ TXM B N τ ∧ gi σ 43 3 = k ∧ gi σ 43 4 = p ∧ gi σ 43 2 = n ∧ gi τ 86 6 = p ∧ gi τ 86 7 = n ∧ n ≤ N ∧ (k = 0 ∧ gi τ 86 8 = 0 ∧ p = N ∧ n = N ∨ p < n ∧ (k = 1 ∧ gi τ 86 8 = 1 ∨ k = 2 ∧ gi τ 86 8 = 4 ∧ gi σ 43 5 = gi τ 86 9 ∧ 0 ≤ gi τ 86 9 ∧ gi τ 86 9 ≤ 9999 ∨ k = 3 ∧ gi τ 86 8 = 2 ∧ NR (gj σ 43 6) (gj τ 86 10) ∨ isSg k ∧ gi τ 86 8 = 5 ∧ B p = k ∨ ∃ j, j < 21 ∧ k = ((256 + j : Nat) : Int) ∧ gi τ 86 8 = 3 ∧ gj τ 86 10 = kwM j))
theorem t_move {B : Nat → Int} {N s : Nat} {σ τ : SS} (hC : TXC B N σ) (hM : TXM B N τ) (h2 : gi σ 43 2 = s) (h7 : gi τ 86 7 = s) (hs : s ≤ N) : W2 (f_To_move σ) (f_Mo_goOn τ) fun _ σ' _ τ' => ∃ k p n, TK B N σ' τ' k p n ∧ s ≤ p ∧ EqP PTc σ σ' ∧ EqP PTm τ τ' := by
  obtain ⟨q, e, t, hc⟩ := cut_ex B N s hs
  refine w2_of (x_move hC h2 hc) (x_goOnM hM h7 hc) ?_
  rintro _ σ' _ τ' ⟨hE, a1, a2, hK⟩ ⟨hE', b1', b2', hK'⟩
  obtain ⟨c1, c2, c3, c4, c5⟩ := hc
  refine ⟨gi σ' 43 3, q, e, ⟨hC.of hE (fun r k z => by omega), hM.of hE' (fun r k z => by omega), rfl, a1, a2, b1', b2', c2, ?_⟩, c1, hE, hE'⟩
  have c6 : t ≠ 0 → q < e := fun h => by omega
  rcases hK with ⟨rfl, h1⟩ | ⟨rfl, h1⟩ | ⟨rfl, h1⟩ | ⟨rfl, h1⟩
  · rcases hK' with ⟨_, h3⟩ | ⟨h, _⟩ | ⟨h, _⟩ | ⟨h, _⟩
    · exact Or.inl ⟨h1, h3, by omega, by omega⟩
    · omega
    · omega
    · omega
  · have hl : ∀ i, q ≤ i → i < e → isL (B i) := by
      rcases c5 with ⟨h, _⟩ | ⟨_, _, ⟨_, h, _⟩ | ⟨h, _⟩ | ⟨h, _⟩⟩
      · omega
      · exact h
      · omega
      · omega
    have hw := wl_lts B q (e - q) (fun i h1 h2 => hl i h1 (by have := c6 (by omega); omega))
    rcases hK' with ⟨h, _⟩ | ⟨_, h3⟩ | ⟨h, _⟩ | ⟨h, _⟩
    · omega
    · refine Or.inr ⟨c6 (by omega), ?_⟩
      rcases h1 with ⟨h4, h5⟩ | ⟨h4, h5, h6⟩
      · rcases h3 with ⟨_, h3⟩ | ⟨h3, _⟩
        · exact Or.inl ⟨h5, h3⟩
        · omega
      · rcases h3 with ⟨h3, _⟩ | ⟨_, h3, h7⟩
        · omega
        · have hn : NR (gj σ' 43 6) (gj τ' 86 10) := ⟨_, hw, h5, h3⟩
          rcases h6 with ⟨h8, h9⟩ | ⟨i, hi, h8, h9⟩
          · rcases h7 with ⟨h10, h11⟩ | ⟨h10, j, hj, h11⟩
            · exact Or.inr (Or.inr (Or.inl ⟨h8, h10, hn⟩))
            · exact absurd ((NR_eq ⟨_, hw, rfl, rfl⟩ (kw_NR j hj)).mpr h11) (h9 j hj)
          · have hm := (NR_eq ⟨_, hw, rfl, rfl⟩ (kw_NR i hi)).mp h9
            rcases h7 with ⟨h10, h11⟩ | ⟨h10, _⟩
            · exact absurd hm (h11 i hi)
            · exact Or.inr (Or.inr (Or.inr (Or.inr ⟨i, hi, h8, h10, by rw [h3]; exact hm⟩)))
    · omega
    · omega
  · have hl : ∀ i, q ≤ i → i < e → isD (B i) := by
      rcases c5 with ⟨h, _⟩ | ⟨_, _, ⟨h, _⟩ | ⟨_, h, _⟩ | ⟨h, _⟩⟩
      · omega
      · omega
      · exact h
      · omega
    rcases hK' with ⟨h, _⟩ | ⟨h, _⟩ | ⟨_, h3⟩ | ⟨h, _⟩
    · omega
    · omega
    · refine Or.inr ⟨c6 (by omega), ?_⟩
      rcases h1 with ⟨h4, h5⟩ | ⟨h4, h5, h6⟩
      · rcases h3 with ⟨_, h3⟩ | ⟨h3, _⟩
        · exact Or.inl ⟨h5, h3⟩
        · exact absurd h4 h3
      · rcases h3 with ⟨h3, _⟩ | ⟨_, h3, h7⟩
        · exact absurd h3 h4
        · have hd := dv_b B q (e - q) (fun i k1 k2 => hl i k1 (by have := c6 (by omega); omega)) (by omega)
          exact Or.inr (Or.inl ⟨h5, h3, by rw [h6, h7], by rw [h7]; exact hd.1, by rw [h7]; exact hd.2⟩)
    · omega
  · rcases hK' with ⟨h, _⟩ | ⟨h, _⟩ | ⟨h, _⟩ | ⟨_, h3⟩
    · omega
    · omega
    · omega
    · refine Or.inr ⟨c6 (by omega), ?_⟩
      rcases h1 with ⟨h4, h5⟩ | ⟨h4, h5⟩
      · rcases h3 with ⟨_, h3⟩ | ⟨h3, _⟩
        · exact Or.inr (Or.inr (Or.inr (Or.inl ⟨by rw [h5]; exact h4, h3, h5.symm⟩)))
        · exact absurd h4 h3
      · rcases h3 with ⟨h3, _⟩ | ⟨_, h3⟩
        · exact absurd h3 h4
        · exact Or.inl ⟨h5, h3⟩
/-- the words and signs of the token -/
theorem x_isWord {B : Nat → Int} {N : Nat} {σ τ : SS} {k : Int} {p n : Nat} (h : TK B N σ τ k p n) (j : Nat) (hj : j < 21) : f_Mo_isWord (kwM j) τ = some (if k = ((256 + j : Nat) : Int) then 1 else 0, τ) := by
  obtain ⟨_, _, _, _, _, _, _, _, h9⟩ := h
  unfold f_Mo_isWord
  have no : gi τ 86 8 ≠ 3 → k ≠ ((256 + j : Nat) : Int) → (if gi τ 86 8 = 3 then (if (ycmp (gj τ 86 10) (kwM j)) = 0 then (some (1, τ) : OO) else some (0, τ)) else some (0, τ)) = some (if k = ((256 + j : Nat) : Int) then 1 else 0, τ) := fun a b => by rw [if_neg a, if_neg b]
  rcases h9 with ⟨rfl, h2, _⟩ | ⟨_, ⟨rfl, h2⟩ | ⟨rfl, h2, _⟩ | ⟨rfl, h2, _⟩ | ⟨hs, h2, _⟩ | ⟨i, hi, rfl, h2, h3⟩⟩
  · exact no (by omega) (by omega)
  · exact no (by omega) (by omega)
  · exact no (by omega) (by omega)
  · exact no (by omega) (by omega)
  · exact no (by omega) (by omega)
  · rw [if_pos h2, h3]
    by_cases hij : i = j
    · rw [hij, if_pos (show ycmp (kwM j) (kwM j) = 0 by rw [yc0]), if_pos rfl]
    · rw [if_neg (show ¬ ycmp (kwM i) (kwM j) = 0 by rw [yc0]; exact fun z => hij (kw_inj i hi j hj z)), if_neg (by omega)]
theorem x_isWordZ (m : Int) (τ : SS) : ∃ z, f_Mo_isWord m τ = some (z, τ) := by
  unfold f_Mo_isWord
  by_cases h : gi τ 86 8 = 3
  · rw [if_pos h]
    by_cases h2 : (ycmp (gj τ 86 10) m) = 0
    · rw [if_pos h2]; exact ⟨_, rfl⟩
    · rw [if_neg h2]; exact ⟨_, rfl⟩
  · rw [if_neg h]; exact ⟨_, rfl⟩
theorem x_isSignHere {B : Nat → Int} {N : Nat} {σ τ : SS} {k : Int} {p n : Nat} (h : TK B N σ τ k p n) (c : Int) (hc : isSg c) : f_Mo_isSignHere c τ = some (if k = c then 1 else 0, τ) := by
  obtain ⟨h1, h1m, _, _, _, h6, _, h8, h9⟩ := h
  unfold f_Mo_isSignHere
  rcases h9 with ⟨rfl, h2, _⟩ | ⟨_, ⟨rfl, h2⟩ | ⟨rfl, h2, _⟩ | ⟨rfl, h2, _⟩ | ⟨hs, h2, h3⟩ | ⟨i, hi, rfl, h2, h3⟩⟩
  · rw [if_neg (by omega), if_neg (by omega)]
  · rw [if_neg (by omega), if_neg (by omega)]
  · rw [if_neg (by omega), if_neg (by omega)]
  · rw [if_neg (by omega), if_neg (by omega)]
  · rw [if_pos h2, h6, x_signM h1m p, ob_eq, sgM_eq p (by omega) (by omega), h3]
    by_cases hk : k = c
    · rw [if_pos hk, if_pos hk]
    · rw [if_neg hk, if_neg hk]
  · rw [if_neg (by omega), if_neg (by omega)]
theorem x_signHereZ {B : Nat → Int} {N : Nat} {τ : SS} (h : TXM B N τ) {p : Nat} (h6 : gi τ 86 6 = p) (m : Int) : ∃ z, f_Mo_isSignHere m τ = some (z, τ) := by
  unfold f_Mo_isSignHere
  by_cases h2 : gi τ 86 8 = 5
  · rw [if_pos h2, h6, x_signM h p, ob_eq]
    by_cases h3 : sgM B N p = m
    · rw [if_pos h3]; exact ⟨_, rfl⟩
    · rw [if_neg h3]; exact ⟨_, rfl⟩
  · rw [if_neg h2]; exact ⟨_, rfl⟩
