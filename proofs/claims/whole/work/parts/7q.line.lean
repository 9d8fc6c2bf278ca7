/-! a line and its end; all lines -/
theorem ob_oc {c : Prop} {d : Decidable c} {k : OO} {g : Int → SS → OO} : ob (@oc c d k) g = @oc c d (ob k g) := by
  unfold oc
  by_cases h : c
  · rw [if_pos h, if_pos h]
  · rw [if_neg h, if_neg h]; rfl
theorem x_signZ {τ : SS} (h3 : gi τ 86 3 ≤ 1600) (h6 : 0 ≤ gi τ 86 6) (m : Int) : ∃ z, f_Mo_isSignHere m τ = some (z, τ) := by
  unfold f_Mo_isSignHere f_Mo_sign
  by_cases h2 : gi τ 86 8 = 5
  · rw [if_pos h2]
    by_cases h4 : gi τ 86 3 ≤ gi τ 86 6
    · rw [if_pos h4, ob_eq]
      by_cases h5 : (0 : Int) = m
      · rw [if_pos h5]; exact ⟨_, rfl⟩
      · rw [if_neg h5]; exact ⟨_, rfl⟩
    · rw [if_neg h4, oc_pos (by omega), ob_eq]
      by_cases h5 : zand (gi τ 88 (gi τ 86 6).toNat) 255 = m
      · rw [if_pos h5]; exact ⟨_, rfl⟩
      · rw [if_neg h5]; exact ⟨_, rfl⟩
  · rw [if_neg h2]; exact ⟨_, rfl⟩
section
variable {u b : Nat} {B : Nat → Int} {N : Nat} {σ0 τ0 σ τ : SS} {k : Int} {p n : Nat} {P W S M t0 t1 c : Nat}
theorem g_semi (hu : u = 2 ∨ u = 22) {n0 : Nat} {r : Int} (h : LO u b B N σ0 τ0 n0 r σ τ) (self : Int → Int → SS → OO) (x4 : Int) (K2 : Int → SS → OO) (Q : Int → SS → Int → SS → Prop)
    (good : ∀ (σ' τ' : SS) (k' : Int) (p' n' P' W' S' M' t0' t1' c' : Nat), GS u b B N σ0 τ0 σ' τ' k' p' n' → n0 ≤ p' → LR u b σ' τ' P' W' S' M' t0' t1' c' → W2 (self 1 x4 σ') (K2 0 τ') Q)
    (bad : ∀ (σ' τ' : SS), BS u b σ0 τ0 σ' τ' → W2 (self 0 x4 σ') (K2 0 τ') Q) :
    W2 (if r = 0 then (self 0 x4 σ) else (ob (f_Re_expect 59 σ) fun r2 s2 => if r2 = 0 then (self 0 x4 s2) else (self 1 x4 s2))) (ob (j_Mo_readLine_145 τ) K2) Q := by
  unfold j_Mo_readLine_145
  rcases h with ⟨rfl, k', p', n', P', W', S', M', t0', t1', c', hG, hp, hL⟩ | ⟨rfl, hB⟩ | ⟨rfl, b1', b2', b3', b4', b5', b6', b7', b8'⟩
  · rw [if_neg (show ¬ (1 : Int) = 0 by decide), x_isSignHere hG.1 59 (by omega), ob_eq, ob_as]
    refine w2_call (g_expect hu hG 59 _ ?_) ?_
    · by_cases e : k' = 59
      · rw [if_pos e]; exact Or.inl ⟨e, rfl⟩
      · rw [if_neg e]; exact Or.inr ⟨e, rfl⟩
    rintro r2 σ2 z τ2 (⟨rfl, hk, k2, p2, n2, hG2, hp2, hE2, hE2'⟩ | ⟨rfl, hB⟩)
    · have := hG.k2
      rw [if_neg (show ¬ (1 : Int) = 0 by decide), ob_eq]
      exact good σ2 τ2 k2 p2 n2 P' W' S' M' t0' t1' c' hG2 (by omega) (hL.prim hu (hE2.mo (fun r k z => Or.inl z)) hE2')
    · rw [if_pos rfl, ob_eq]
      exact bad σ2 τ2 hB
  · obtain ⟨z, hz⟩ := x_signZ hB.2.2.2.2.1 hB.2.2.2.2.2 59
    rw [if_pos rfl, hz, ob_eq, x_mustB hB.1.1, ob_eq, ob_eq]
    exact bad σ τ hB
  · obtain ⟨z, hz⟩ := x_signZ b7' b8' 59
    rw [if_neg (show ¬ (1 : Int) = 0 by decide), hz, ob_eq, x_mustB (by omega), ob_eq, ob_eq]
    unfold f_Re_expect f_Re_refuse j_Re_refuse_17 f_Re_fail
    rw [if_neg (show ¬ gi σ 43 3 = 59 by omega), if_neg (show ¬ gi σ 43 3 = 1 by omega), os_eq, os_eq, ob_eq, ob_eq, ob_eq, if_pos rfl]
    refine bad _ τ ⟨⟨by omega, ?_, ?_⟩, ?_, b5', b6', b7', b8'⟩
    · rw [gi_ne_k _ _ _ _ (by omega), gi_same]; exact b3'
    · rw [gi_same, b2']
    · exact EqP.si (EqP.si b4' _ _ _ (by omega)) _ _ _ (by omega)
theorem x_isFull (hb : b < 2) (h : GS u b B N σ0 τ0 σ τ k p n) (hL : LR u b σ τ P W S M t0 t1 c) : f_Mo_isFull τ = some ((if k = 256 then (if P = 8 then 1 else 0) else if k = 259 then (if W = 14 then 1 else 0) else if k = 262 then (if S = 6 then 1 else 0) else if k = 265 then (if M = 6 then 1 else 0) else if k = 268 then (t0 : Int) else if k = 269 then (t1 : Int) else if k = 270 then gi τ 108 b else 1), τ) := by
  have h41 := h.2.2.2.2
  obtain ⟨hp, hw, hs, hm, hd, hr⟩ := hL
  have w0 : f_Mo_isWord 482854658917 τ = some (if k = ((256 + 0 : Nat) : Int) then 1 else 0, τ) := x_isWord h.1 0 (by omega)
  have w3 : f_Mo_isWord 7823737 τ = some (if k = ((256 + 3 : Nat) : Int) then 1 else 0, τ) := x_isWord h.1 3 (by omega)
  have w6 : f_Mo_isWord 1936684396 τ = some (if k = ((256 + 6 : Nat) : Int) then 1 else 0, τ) := x_isWord h.1 6 (by omega)
  have w9 : f_Mo_isWord 120265333040498 τ = some (if k = ((256 + 9 : Nat) : Int) then 1 else 0, τ) := x_isWord h.1 9 (by omega)
  have w12 : f_Mo_isWord 1751474548 τ = some (if k = ((256 + 12 : Nat) : Int) then 1 else 0, τ) := x_isWord h.1 12 (by omega)
  have w13 : f_Mo_isWord 1650549611 τ = some (if k = ((256 + 13 : Nat) : Int) then 1 else 0, τ) := x_isWord h.1 13 (by omega)
  have w14 : f_Mo_isWord 1685217655 τ = some (if k = ((256 + 14 : Nat) : Int) then 1 else 0, τ) := x_isWord h.1 14 (by omega)
  have i0 : iw (2 * (b : Int)) = ((2 * b : Nat) : Int) := by rw [iwc (by omega) (by omega)]; omega
  have i1 : iw (((2 * b : Nat) : Int) + 1) = ((2 * b + 1 : Nat) : Int) := by rw [iwc (by omega) (by omega)]; omega
  unfold f_Mo_isFull
  rw [w0, ob_eq]
  by_cases h0 : k = 256
  · rw [if_pos (show k = ((256 + 0 : Nat) : Int) by omega), if_neg (show ¬ (1 : Int) = 0 by decide), if_pos h0, h41, oc_pos (by omega), Int.toNat_natCast, hp.2.2.1]
    by_cases e : P = 8
    · rw [if_pos (show (P : Int) = 8 by omega), if_pos e]
    · rw [if_neg (show ¬ (P : Int) = 8 by omega), if_neg e]
  rw [if_neg (show ¬ k = ((256 + 0 : Nat) : Int) by omega), if_pos (show (0 : Int) = 0 from rfl), if_neg h0, w3, ob_eq]
  by_cases h3 : k = 259
  · rw [if_pos (show k = ((256 + 3 : Nat) : Int) by omega), if_neg (show ¬ (1 : Int) = 0 by decide), if_pos h3, h41, oc_pos (by omega), Int.toNat_natCast, hw.2.2.1]
    by_cases e : W = 14
    · rw [if_pos (show (W : Int) = 14 by omega), if_pos e]
    · rw [if_neg (show ¬ (W : Int) = 14 by omega), if_neg e]
  rw [if_neg (show ¬ k = ((256 + 3 : Nat) : Int) by omega), if_pos (show (0 : Int) = 0 from rfl), if_neg h3, w6, ob_eq]
  by_cases h6 : k = 262
  · rw [if_pos (show k = ((256 + 6 : Nat) : Int) by omega), if_neg (show ¬ (1 : Int) = 0 by decide), if_pos h6, h41, oc_pos (by omega), Int.toNat_natCast, hs.2.2.1]
    by_cases e : S = 6
    · rw [if_pos (show (S : Int) = 6 by omega), if_pos e]
    · rw [if_neg (show ¬ (S : Int) = 6 by omega), if_neg e]
  rw [if_neg (show ¬ k = ((256 + 6 : Nat) : Int) by omega), if_pos (show (0 : Int) = 0 from rfl), if_neg h6, w9, ob_eq]
  by_cases h9 : k = 265
  · rw [if_pos (show k = ((256 + 9 : Nat) : Int) by omega), if_neg (show ¬ (1 : Int) = 0 by decide), if_pos h9, h41, oc_pos (by omega), Int.toNat_natCast, hm.2.2.1]
    by_cases e : M = 6
    · rw [if_pos (show (M : Int) = 6 by omega), if_pos e]
    · rw [if_neg (show ¬ (M : Int) = 6 by omega), if_neg e]
  rw [if_neg (show ¬ k = ((256 + 9 : Nat) : Int) by omega), if_pos (show (0 : Int) = 0 from rfl), if_neg h9, w12, ob_eq]
  by_cases h12 : k = 268
  · have ht := hr.2.2.2.2.1.1
    have ht1 := hr.2.1
    rw [Nat.add_zero] at ht
    rw [if_pos (show k = ((256 + 12 : Nat) : Int) by omega), if_neg (show ¬ (1 : Int) = 0 by decide), if_pos h12, h41, i0, oc_pos (by omega), Int.toNat_natCast, ht, oc_pos (by omega)]
  rw [if_neg (show ¬ k = ((256 + 12 : Nat) : Int) by omega), if_pos (show (0 : Int) = 0 from rfl), if_neg h12, w13, ob_eq]
  by_cases h13 : k = 269
  · have ht := hr.2.2.2.2.2.1.1
    have ht1 := hr.2.2.1
    rw [if_pos (show k = ((256 + 13 : Nat) : Int) by omega), if_neg (show ¬ (1 : Int) = 0 by decide), if_pos h13, h41, i0, i1, oc_pos (by omega), Int.toNat_natCast, ht, oc_pos (by omega)]
  rw [if_neg (show ¬ k = ((256 + 13 : Nat) : Int) by omega), if_pos (show (0 : Int) = 0 from rfl), if_neg h13, w14, ob_eq]
  by_cases h14 : k = 270
  · have hd5 := hd.2.2.2.2
    rw [if_pos (show k = ((256 + 14 : Nat) : Int) by omega), if_neg (show ¬ (1 : Int) = 0 by decide), if_pos h14, h41, oc_pos (by omega), Int.toNat_natCast]
    by_cases e : gi τ 108 b = 0
    · rw [if_pos e, e]
    · rw [if_neg e, hd5.resolve_left e]
  rw [if_neg (show ¬ k = ((256 + 14 : Nat) : Int) by omega), if_pos (show (0 : Int) = 0 from rfl), if_neg h14]
/-- what can't stand at a line's first word -/
theorem g_line0 (hu : u = 2 ∨ u = 22) (h : GS u b B N σ0 τ0 σ τ k p n) (C : OO) (x1 : Int) (K2 : Int → SS → OO) (hC : C = f_Re_refuse σ) (self : Int → Int → SS → OO) (x4 : Int) (Q : Int → SS → Int → SS → Prop)
    (bad : ∀ (σ' τ' : SS), BS u b σ0 τ0 σ' τ' → W2 (self 0 x4 σ') (K2 0 τ') Q) : W2 (ob C fun r s => if r = 0 then (self 0 x4 s) else (ob (f_Re_expect 59 s) fun r2 s2 => if r2 = 0 then (self 0 x4 s2) else (self 1 x4 s2))) (ob (j_Mo_readLine_20 x1 τ) K2) Q := by
  unfold j_Mo_readLine_20
  rw [hC, ob_as]
  refine w2_call (g_refuse h) ?_
  rintro r σ' z τ' ⟨rfl, hB⟩
  unfold j_Mo_readLine_24
  rw [if_pos rfl, x_isGoodB hB.1.1, ob_eq, if_pos rfl, ob_eq]
  exact bad σ' τ' hB
/-- a line of the sort that its first word says -/
theorem g_lineX (hu : u = 2 ∨ u = 22) (h : GS u b B N σ0 τ0 σ τ k p n) (C : OO) (R : SS → OO) (hg : W2 C (ob (f_Mo_goOn τ) fun _ s => R s) fun r σ' _ τ' => LO u b B N σ0 τ0 n r σ' τ') (x1 : Int) (hx : ∀ s3, (if (ycmp x1 482854658917) = 0 then (ob (f_Mo_readPlace s3) fun r5 s5 => j_Mo_readLine_48 x1 s5) else (j_Mo_readLine_48 x1 s3)) = ob (R s3) fun _ s5 => j_Mo_readLine_145 s5) (self : Int → Int → SS → OO) (x4 : Int) (K2 : Int → SS → OO) (Q : Int → SS → Int → SS → Prop)
    (good : ∀ (σ' τ' : SS) (k' : Int) (p' n' P' W' S' M' t0' t1' c' : Nat), GS u b B N σ0 τ0 σ' τ' k' p' n' → n ≤ p' → LR u b σ' τ' P' W' S' M' t0' t1' c' → W2 (self 1 x4 σ') (K2 0 τ') Q)
    (bad : ∀ (σ' τ' : SS), BS u b σ0 τ0 σ' τ' → W2 (self 0 x4 σ') (K2 0 τ') Q) : W2 (ob C fun r s => if r = 0 then (self 0 x4 s) else (ob (f_Re_expect 59 s) fun r2 s2 => if r2 = 0 then (self 0 x4 s2) else (self 1 x4 s2))) (ob (j_Mo_readLine_24 x1 τ) K2) Q := by
  have e : ob (j_Mo_readLine_24 x1 τ) K2 = ob (f_Mo_goOn τ) fun _ s3 => ob (R s3) fun _ s5 => ob (j_Mo_readLine_145 s5) K2 := by
    unfold j_Mo_readLine_24
    rw [x_isGoodG h.2.1.1, ob_eq, if_neg (show ¬ (1 : Int) = 0 by decide), ob_as]
    congr 1
    funext _ s3
    rw [hx s3, ob_as]
  rw [e]
  refine w2_call2 hg ?_
  intro r σ' r' τ' hLO
  exact g_semi hu hLO self x4 K2 Q good bad
set_option maxHeartbeats 4000000 in
theorem g_line (hu : u = 2 ∨ u = 22) (hb : b < 2) (h : GS u b B N σ0 τ0 σ τ k p n) (hL : LR u b σ τ P W S M t0 t1 c) (hk0 : k ≠ 0) (self : Int → Int → SS → OO) (x4 : Int) (K2 : Int → SS → OO) (Q : Int → SS → Int → SS → Prop)
    (good : ∀ (σ' τ' : SS) (k' : Int) (p' n' P' W' S' M' t0' t1' c' : Nat), GS u b B N σ0 τ0 σ' τ' k' p' n' → n ≤ p' → LR u b σ' τ' P' W' S' M' t0' t1' c' → W2 (self 1 (iw (x4 + 1)) σ') (K2 0 τ') Q)
    (bad : ∀ (σ' τ' : SS), BS u b σ0 τ0 σ' τ' → W2 (self 0 (iw (x4 + 1)) σ') (K2 0 τ') Q) :
    W2 (if gi σ 43 3 = 256 then (ob (f_Re_readPlace u σ) fun r10 s10 => j_Re_readLand_210 u self r10 x4 s10) else if gi σ 43 3 = 259 then (ob (f_Re_readWay u σ) fun r12 s12 => j_Re_readLand_210 u self r12 x4 s12) else if gi σ 43 3 = 262 then (ob (f_Re_readSoul u σ) fun r14 s14 => j_Re_readLand_210 u self r14 x4 s14) else if gi σ 43 3 = 265 then (ob (f_Re_readMatter u σ) fun r16 s16 => j_Re_readLand_210 u self r16 x4 s16) else if gi σ 43 3 = 268 then (ob (f_Re_readRule (u + 14) σ) fun r19 s19 => j_Re_readLand_210 u self r19 x4 s19) else if gi σ 43 3 = 269 then (ob (f_Re_readRule (u + 17) σ) fun r22 s22 => j_Re_readLand_210 u self r22 x4 s22) else if gi σ 43 3 = 270 then (ob (f_Re_readDraw u σ) fun r24 s24 => j_Re_readLand_210 u self r24 x4 s24) else (ob (f_Re_refuse σ) fun r25 s25 => j_Re_readLand_210 u self r25 x4 s25)) (ob (f_Mo_readLine τ) K2) Q := by
  obtain ⟨e3, e4, e6, en, eN, epn⟩ := h.k2
  have hfull := x_isFull hb h hL
  have hP8 := hL.1.1
  have hW14 := hL.2.1.1
  have hS6 := hL.2.2.1.1
  have hM6 := hL.2.2.2.1.1
  unfold f_Mo_readLine j_Re_readLand_210
  rw [ol_eq, e3]
  have tok3 : (∃ j, j < 21 ∧ k = ((256 + j : Nat) : Int) ∧ gi τ 86 8 = 3 ∧ gj τ 86 10 = kwM j) ∨ (k < 256 ∧ gi τ 86 8 ≠ 3) := by
    rcases h.1.2.2.2.2.2.2.2.2 with ⟨e, z, _⟩ | ⟨_, ⟨e, z⟩ | ⟨e, z, _⟩ | ⟨e, z, _⟩ | ⟨e, z, _⟩ | z⟩
    · exact Or.inr ⟨by omega, by omega⟩
    · exact Or.inr ⟨by omega, by omega⟩
    · exact Or.inr ⟨by omega, by omega⟩
    · exact Or.inr ⟨by omega, by omega⟩
    · exact Or.inr ⟨by omega, by omega⟩
    · exact Or.inl z
  rcases tok3 with ⟨j, hj, hkj, h8, hname⟩ | ⟨hk, h8⟩
  · rw [if_pos h8, hfull, ob_eq, hname]
    by_cases h0 : k = 256
    · obtain rfl : j = 0 := by omega
      rw [if_pos h0, if_pos h0]
      by_cases hf : P = 8
      · rw [if_pos hf, if_neg (show ¬ (1 : Int) = 0 by decide)]
        refine g_line0 hu h _ _ K2 ?_ self _ Q bad
        unfold f_Re_readPlace j_Re_readPlace_15
        rw [ol_eq, hL.1.2.1, if_neg (by omega), if_neg (by omega)]
        cases f_Re_refuse σ <;> rfl
      · rw [if_neg hf, if_pos (show (0 : Int) = 0 from rfl)]
        exact g_lineX hu h _ (fun s => f_Mo_readPlace s) (g_place hu hb h hL (by omega)) (kwM 0) (fun s3 => rfl) self _ K2 Q good bad
    rw [if_neg h0, if_neg h0]
    by_cases h3 : k = 259
    · obtain rfl : j = 3 := by omega
      rw [if_pos h3, if_pos h3]
      by_cases hf : W = 14
      · rw [if_pos hf, if_neg (show ¬ (1 : Int) = 0 by decide)]
        refine g_line0 hu h _ _ K2 ?_ self _ Q bad
        unfold f_Re_readWay j_Re_readWay_15
        rw [ol_eq, hL.2.1.2.1, if_neg (by omega), if_neg (by omega)]
        cases f_Re_refuse σ <;> rfl
      · rw [if_neg hf, if_pos (show (0 : Int) = 0 from rfl)]
        exact g_lineX hu h _ (fun s => f_Mo_readWay s) (g_way hu hb h hL (by omega)) (kwM 3) (fun s3 => rfl) self _ K2 Q good bad
    rw [if_neg h3, if_neg h3]
    by_cases h6 : k = 262
    · obtain rfl : j = 6 := by omega
      rw [if_pos h6, if_pos h6]
      by_cases hf : S = 6
      · rw [if_pos hf, if_neg (show ¬ (1 : Int) = 0 by decide)]
        refine g_line0 hu h _ _ K2 ?_ self _ Q bad
        unfold f_Re_readSoul j_Re_readSoul_15
        rw [ol_eq, hL.2.2.1.2.1, if_neg (by omega), if_neg (by omega)]
        cases f_Re_refuse σ <;> rfl
      · rw [if_neg hf, if_pos (show (0 : Int) = 0 from rfl)]
        exact g_lineX hu h _ (fun s => f_Mo_readSoul s) (g_soul hu hb h hL (by omega)) (kwM 6) (fun s3 => rfl) self _ K2 Q good bad
    rw [if_neg h6, if_neg h6]
    by_cases h9 : k = 265
    · obtain rfl : j = 9 := by omega
      rw [if_pos h9, if_pos h9]
      by_cases hf : M = 6
      · rw [if_pos hf, if_neg (show ¬ (1 : Int) = 0 by decide)]
        refine g_line0 hu h _ _ K2 ?_ self _ Q bad
        unfold f_Re_readMatter j_Re_readMatter_15
        rw [ol_eq, hL.2.2.2.1.2.1, if_neg (by omega), if_neg (by omega)]
        cases f_Re_refuse σ <;> rfl
      · rw [if_neg hf, if_pos (show (0 : Int) = 0 from rfl)]
        exact g_lineX hu h _ (fun s => f_Mo_readMatter s) (g_matter hu hb h hL (by omega)) (kwM 9) (fun s3 => rfl) self _ K2 Q good bad
    rw [if_neg h9, if_neg h9]
    have rule : ∀ (kk : Nat), kk < 2 → (kk = 0 ∧ t0 = 0 ∨ kk = 1 ∧ t1 = 0) → ∀ x1 : Int, (∀ s3, (if (ycmp x1 482854658917) = 0 then (ob (f_Mo_readPlace s3) fun r5 s5 => j_Mo_readLine_48 x1 s5) else (j_Mo_readLine_48 x1 s3)) = ob (f_Mo_readRule (kk : Int) s3) fun _ s5 => j_Mo_readLine_145 s5) → W2 (ob (f_Re_readRule (u + 14 + 3 * kk) σ) fun r s => if r = 0 then (self 0 (iw (x4 + 1)) s) else (ob (f_Re_expect 59 s) fun r2 s2 => if r2 = 0 then (self 0 (iw (x4 + 1)) s2) else (self 1 (iw (x4 + 1)) s2))) (ob (j_Mo_readLine_24 x1 τ) K2) Q := by
      intro kk hkk ht x1 hx
      have e : ob (j_Mo_readLine_24 x1 τ) K2 = ob (f_Mo_goOn τ) fun _ s3 => ob (f_Mo_readRule (kk : Int) s3) fun _ s5 => ob (j_Mo_readLine_145 s5) K2 := by
        unfold j_Mo_readLine_24
        rw [x_isGoodG h.2.1.1, ob_eq, if_neg (show ¬ (1 : Int) = 0 by decide), ob_as]
        congr 1
        funext _ s3
        rw [hx s3, ob_as]
      rw [e]
      refine g_rule hu hb kk hkk h hL hk0 ht _ _ Q ?_ ?_ ?_
      · intro σ' τ' k' p' n' t0' t1' c' hG' hp' hL'
        exact g_semi hu (Or.inl ⟨rfl, k', p', n', P, W, S, M, t0', t1', c', hG', hp', hL'⟩) self _ K2 Q good bad
      · intro σ' τ' hB
        exact g_semi hu (n0 := n) (LO.bad (B := B) (N := N) hB) self _ K2 Q good bad
      · intro σ' τ' k' p' n' hG' h59
        unfold j_Mo_readLine_145
        rw [x_isSignHere hG'.1 59 (by omega), ob_eq, if_neg h59, ob_as]
        unfold f_Mo_must
        rw [x_isGoodG hG'.2.1.1, ob_eq, if_neg (show ¬ (1 : Int) = 0 by decide), if_pos rfl, ob_as, ob_as]
        refine w2_call (g_refuse hG') ?_
        rintro r σ2 z τ2 ⟨rfl, hB⟩
        rw [if_pos rfl, ob_eq, ob_eq, ob_eq, if_pos rfl]
        exact bad σ2 τ2 hB
    have told : ∀ r : Nat, 0 < gi σ r 2 → f_Re_readRule r σ = f_Re_refuse σ := by
      intro r hr
      unfold f_Re_readRule f_Fo_isTold
      rw [if_neg (show ¬ gi σ r 2 ≤ 0 by omega), ob_eq, if_neg (show ¬ (1 : Int) = 0 by decide)]
      cases f_Re_refuse σ <;> rfl
    have tl : ∀ r kk t, Ru1 b σ τ r kk t c → t ≤ 1 → t ≠ 0 → 0 < gi σ r 2 := by
      rintro r kk t ⟨_, _, _, ⟨z, _⟩ | ⟨_, z, _⟩⟩ _ hz
      · exact absurd z hz
      · exact z
    by_cases h12 : k = 268
    · obtain rfl : j = 12 := by omega
      rw [if_pos h12, if_pos h12]
      by_cases hf : t0 = 0
      · rw [if_pos (show (t0 : Int) = 0 by omega)]
        exact rule 0 (by omega) (Or.inl ⟨rfl, hf⟩) (kwM 12) (fun s3 => rfl)
      · rw [if_neg (show ¬ (t0 : Int) = 0 by omega)]
        exact g_line0 hu h _ _ K2 (told _ (tl _ _ _ hL.2.2.2.2.2.2.2.2.2.1 hL.2.2.2.2.2.2.1 hf)) self _ Q bad
    rw [if_neg h12, if_neg h12]
    by_cases h13 : k = 269
    · obtain rfl : j = 13 := by omega
      rw [if_pos h13, if_pos h13]
      by_cases hf : t1 = 0
      · rw [if_pos (show (t1 : Int) = 0 by omega)]
        exact rule 1 (by omega) (Or.inr ⟨rfl, hf⟩) (kwM 13) (fun s3 => rfl)
      · rw [if_neg (show ¬ (t1 : Int) = 0 by omega)]
        exact g_line0 hu h _ _ K2 (told _ (tl _ _ _ hL.2.2.2.2.2.2.2.2.2.2.1 hL.2.2.2.2.2.2.2.1 hf)) self _ Q bad
    rw [if_neg h13, if_neg h13]
    by_cases h14 : k = 270
    · obtain rfl : j = 14 := by omega
      rw [if_pos h14, if_pos h14]
      by_cases hf : gi τ 108 b = 0
      · rw [if_pos hf]
        have e : ob (j_Mo_readLine_24 (kwM 14) τ) K2 = ob (f_Mo_goOn τ) fun _ s3 => oc (0 ≤ gi s3 86 41 ∧ gi s3 86 41 < 2) <| os (si s3 108 ((gi s3 86 41).toNat) 1) fun s4 => ob (f_Mo_numeral 0 999 s4) fun r6 s6 => oc (0 ≤ gi s4 86 41 ∧ gi s4 86 41 < 2) <| os (si s6 94 ((gi s4 86 41).toNat) r6) fun s8 => ob (j_Mo_readLine_145 s8) K2 := by
          unfold j_Mo_readLine_24
          rw [x_isGoodG h.2.1.1, ob_eq, if_neg (show ¬ (1 : Int) = 0 by decide), ob_as]
          congr 1
          funext _ s3
          have e3 : (if (ycmp (kwM 14) 482854658917) = 0 then (ob (f_Mo_readPlace s3) fun r5 s5 => j_Mo_readLine_48 (kwM 14) s5) else (j_Mo_readLine_48 (kwM 14) s3)) = (oc (0 ≤ gi s3 86 41 ∧ gi s3 86 41 < 2) <| os (si s3 108 ((gi s3 86 41).toNat) 1) fun s4 => ob (f_Mo_numeral 0 999 s4) fun r6 s6 => oc (0 ≤ gi s4 86 41 ∧ gi s4 86 41 < 2) <| os (si s6 94 ((gi s4 86 41).toNat) r6) fun s8 => j_Mo_readLine_145 s8) := rfl
          rw [e3, ob_oc]
          congr 1
          rw [os_eq, os_eq, ob_as]
          congr 1
          funext r6 s6
          rw [ob_oc]
          rfl
        rw [e]
        refine g_draw hu hb h hL h14 hf (kc := fun r s => if r = 0 then (self 0 (iw (x4 + 1)) s) else (ob (f_Re_expect 59 s) fun r2 s2 => if r2 = 0 then (self 0 (iw (x4 + 1)) s2) else (self 1 (iw (x4 + 1)) s2))) (K := fun s8 => ob (j_Mo_readLine_145 s8) K2) ?_
        intro r σ' τ' hLO
        exact g_semi hu hLO self _ K2 Q good bad
      · rw [if_neg hf]
        refine g_line0 hu h _ _ K2 ?_ self _ Q bad
        have h5 := hL.2.2.2.2.1.2.2.2.1
        unfold f_Re_readDraw
        rw [if_neg (show ¬ gi σ 42 5 = 0 by omega)]
        cases f_Re_refuse σ <;> rfl
    rw [if_neg h14, if_neg h14, if_neg (show ¬ (1 : Int) = 0 by decide)]
    exact g_line0 hu h _ _ K2 rfl self _ Q bad
  · rw [if_neg h8, if_neg (show ¬ k = 256 by omega), if_neg (show ¬ k = 259 by omega), if_neg (show ¬ k = 262 by omega), if_neg (show ¬ k = 265 by omega), if_neg (show ¬ k = 268 by omega), if_neg (show ¬ k = 269 by omega), if_neg (show ¬ k = 270 by omega)]
    exact g_line0 hu h _ _ K2 rfl self _ Q bad
theorem g_lines (hu : u = 2 ∨ u = 22) (hb : b < 2) (Q : Int → SS → Int → SS → Prop)
    (done : ∀ (σ' τ' : SS) (p' n' P' W' S' M' t0' t1' c' : Nat), GS u b B N σ0 τ0 σ' τ' 0 p' n' → LR u b σ' τ' P' W' S' M' t0' t1' c' → W2 (some (1, σ')) (j_Mo_land_95 τ') Q)
    (bad : ∀ (σ' τ' : SS), BS u b σ0 τ0 σ' τ' → W2 (some (0, σ')) (j_Mo_land_95 τ') Q) :
    ∀ (d fu fu' x4 : Nat) (σ τ : SS) (k : Int) (p n P W S M t0 t1 c : Nat), N - p ≤ d → d + 3 ≤ fu → d + 3 ≤ fu' → GS u b B N σ0 τ0 σ τ k p n → LR u b σ τ P W S M t0 t1 c → x4 ≤ p → W2 (l_Re_readLand_32 u fu 1 (x4 : Int) σ) (l_Mo_land_74 fu' τ) Q := by
  intro d
  induction d using Nat.strongRecOn with
  | ind d ih =>
    intro fu fu' x4 σ τ k p n P W S M t0 t1 c hd hfu hfu' h hL hx4
    obtain ⟨fu, rfl⟩ : ∃ f, fu = f + 1 := ⟨fu - 1, by omega⟩
    obtain ⟨fu', rfl⟩ : ∃ f, fu' = f + 1 := ⟨fu' - 1, by omega⟩
    obtain ⟨e3, e4, e6, en, eN, epn⟩ := h.k2
    rw [l_Re_readLand_32, if_neg (show ¬ (1600 : Int) < (x4 : Int) by omega), if_neg (show ¬ (1 : Int) = 0 by decide), l_Mo_land_74, x_isGoodG h.2.1.1, ob_eq, if_neg (show ¬ (1 : Int) = 0 by decide)]
    have h80 : gi τ 86 8 = 0 ↔ k = 0 := by
      rcases h.1.2.2.2.2.2.2.2.2 with ⟨e, z, _⟩ | ⟨_, ⟨e, z⟩ | ⟨e, z, _⟩ | ⟨e, z, _⟩ | ⟨e, z, _⟩ | ⟨i, hi, e, z, _⟩⟩ <;> omega
    by_cases hk : k = 0
    · rw [if_pos (show gi σ 43 3 = 0 by omega), oc_pos (Or.inr rfl), if_pos (h80.mpr hk)]
      subst hk
      exact done σ τ p n P W S M t0 t1 c h hL
    · have hpn : p < n := by
        rcases h.1.2.2.2.2.2.2.2.2 with ⟨z, _⟩ | ⟨z, _⟩
        · exact absurd z hk
        · exact z
      rw [if_neg (show ¬ gi σ 43 3 = 0 by omega), if_neg (fun z => hk (h80.mp z))]
      refine g_line hu hb h hL hk (l_Re_readLand_32 u fu) (x4 : Int) (fun _ s4 => l_Mo_land_74 fu' s4) Q ?_ ?_
      · intro σ' τ' k' p' n' P' W' S' M' t0' t1' c' hG' hp' hL'
        have := hG'.k2
        rw [show iw ((x4 : Int) + 1) = ((x4 + 1 : Nat) : Int) by rw [iwc (by omega) (by omega)]; omega]
        exact ih (N - p') (by omega) fu fu' (x4 + 1) σ' τ' k' p' n' P' W' S' M' t0' t1' c' (Nat.le_refl _) (by omega) (by omega) hG' hL' (by omega)
      · intro σ' τ' hB
        obtain ⟨f, rfl⟩ : ∃ f, fu = f + 1 := ⟨fu - 1, by omega⟩
        obtain ⟨f', rfl⟩ : ∃ f, fu' = f + 1 := ⟨fu' - 1, by omega⟩
        rw [l_Re_readLand_32, l_Mo_land_74, x_isGoodB hB.1.1, ob_eq, if_pos (show (0 : Int) = 0 from rfl)]
        have e : (if 1600 < iw ((x4 : Int) + 1) then (oc ((0 : Int) = 0 ∨ (0 : Int) = 1) <| some ((0 : Int), σ')) else (if (0 : Int) = 0 then (oc ((0 : Int) = 0 ∨ (0 : Int) = 1) <| some ((0 : Int), σ')) else (none : OO))) = some (0, σ') := by
          by_cases z : 1600 < iw ((x4 : Int) + 1)
          · rw [if_pos z, oc_pos (Or.inl rfl)]
          · rw [if_neg z, if_pos rfl, oc_pos (Or.inl rfl)]
        by_cases z : 1600 < iw ((x4 : Int) + 1)
        · rw [if_pos z, oc_pos (Or.inl rfl)]
          exact bad σ' τ' hB
        · rw [if_neg z, if_pos rfl, oc_pos (Or.inl rfl)]
          exact bad σ' τ' hB
end
