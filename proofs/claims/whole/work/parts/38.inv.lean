/-! what holds between two calls -/
def cplB (ld : SS) (a b m : Int) : Prop := 0 ≤ a ∧ a < gi ld 2 9 ∧ 0 ≤ b ∧ b < gi ld 2 9 ∧ a ≠ b ∧ 0 ≤ m ∧ m < gi ld 2 12
theorem x_couple {ld σ : SS} (hok : LdOK ld) (hL : LC ld σ) (a b m : Int) : (cplB ld a b m → f_La_couple 2 a b m σ = some (100 * a + 10 * b + m, σ)) ∧ (¬ cplB ld a b m → f_La_couple 2 a b m σ = some (-1, σ)) := by
  have e9 : gi σ 2 9 = gi ld 2 9 := hL 2 9 (by omega) (by omega) (by omega)
  have e12 : gi σ 2 12 = gi ld 2 12 := hL 2 12 (by omega) (by omega) (by omega)
  have s6 := hok.2.2.1
  have m6 := hok.2.2.2.1
  unfold cplB f_La_couple
  rw [x_isSoul, e9]
  by_cases h1 : 0 ≤ a ∧ a < gi ld 2 9 ∧ a < 6
  · rw [if_pos h1, ob_eq, if_neg (by decide), x_isSoul, e9]
    by_cases h2 : 0 ≤ b ∧ b < gi ld 2 9 ∧ b < 6
    · rw [if_pos h2, ob_eq, if_neg (by decide)]
      by_cases h3 : a = b
      · rw [if_pos h3]
        exact ⟨fun z => by omega, fun _ => rfl⟩
      · rw [if_neg h3, x_isMatter, e12]
        by_cases h4 : 0 ≤ m ∧ m < gi ld 2 12 ∧ m < 6
        · rw [if_pos h4, ob_eq, if_neg (by decide), iwc (x := 100 * a) (by omega) (by omega), iwc (x := 10 * b) (by omega) (by omega), iwc (x := 100 * a + 10 * b) (by omega) (by omega), iwc (by omega) (by omega)]
          exact ⟨fun _ => rfl, fun z => absurd ⟨h1.1, h1.2.1, h2.1, h2.2.1, h3, h4.1, h4.2.1⟩ z⟩
        · rw [if_neg h4, ob_eq, if_pos rfl]
          exact ⟨fun z => by omega, fun _ => rfl⟩
    · rw [if_neg h2, ob_eq, if_pos rfl]
      exact ⟨fun z => by omega, fun _ => rfl⟩
  · rw [if_neg h1, ob_eq, if_pos rfl]
    exact ⟨fun z => by omega, fun _ => rfl⟩
theorem x_soulMany {ld σ : SS} {bk : Nat} (hM : LM ld σ bk) : f_Mo_soulMany σ = some (gi ld 2 9, σ) := by
  unfold f_Mo_soulMany
  have hb := hM.1
  rw [hM.2.1, oc_pos (by omega), Int.toNat_natCast, hM.2.2.1.2.2.1]
theorem x_isPlaceM {ld σ : SS} (hok : LdOK ld) {bk : Nat} (hM : LM ld σ bk) (p : Int) : f_Mo_isPlace p σ = some (if 0 ≤ p ∧ p < gi ld 2 0 then 1 else 0, σ) := by
  have hb := hM.1
  have l0 := hok.1
  unfold f_Mo_isPlace
  rw [hM.2.1, oc_pos (by omega), Int.toNat_natCast, hM.2.2.1.1, iwc (by omega) (by omega), x_isIn, ob_eq]
  by_cases h : 0 ≤ p ∧ p < gi ld 2 0
  · rw [if_pos h, if_pos (by omega)]
  · rw [if_neg h, if_neg (by omega)]
theorem x_isWayM {ld σ : SS} (hok : LdOK ld) {bk : Nat} (hM : LM ld σ bk) (p : Int) : f_Mo_isWay p σ = some (if 0 ≤ p ∧ p < gi ld 2 4 then 1 else 0, σ) := by
  have hb := hM.1
  have l0 := hok.2.1
  unfold f_Mo_isWay
  rw [hM.2.1, oc_pos (by omega), Int.toNat_natCast, hM.2.2.1.2.1, iwc (by omega) (by omega), x_isIn, ob_eq]
  by_cases h : 0 ≤ p ∧ p < gi ld 2 4
  · rw [if_pos h, if_pos (by omega)]
  · rw [if_neg h, if_neg (by omega)]
theorem x_isPlaceC {ld σ : SS} (hok : LdOK ld) (hL : LC ld σ) (p : Int) : f_La_isPlace 2 p σ = some (if 0 ≤ p ∧ p < gi ld 2 0 then 1 else 0, σ) := by
  have e : gi σ 2 0 = gi ld 2 0 := hL 2 0 (by omega) (by omega) (by omega)
  have l0 := hok.1
  rw [x_isPlace, e]
  by_cases h : 0 ≤ p ∧ p < gi ld 2 0
  · rw [if_pos h, if_pos (by omega)]
  · rw [if_neg h, if_neg (by omega)]
theorem x_isWayC {ld σ : SS} (hok : LdOK ld) (hL : LC ld σ) (p : Int) : f_La_isWay 2 p σ = some (if 0 ≤ p ∧ p < gi ld 2 4 then 1 else 0, σ) := by
  have e : gi σ 2 4 = gi ld 2 4 := hL 2 4 (by omega) (by omega) (by omega)
  have l0 := hok.2.1
  rw [x_isWay, e]
  by_cases h : 0 ≤ p ∧ p < gi ld 2 4
  · rw [if_pos h, if_pos (by omega)]
  · rw [if_neg h, if_neg (by omega)]
theorem x_isCoupleM {ld σ : SS} (hok : LdOK ld) {bk : Nat} (hM : LM ld σ bk) (a b m : Int) : (cplB ld a b m → f_Mo_isCouple a b m σ = some (1, σ)) ∧ (¬ cplB ld a b m → f_Mo_isCouple a b m σ = some (0, σ)) := by
  have hb := hM.1
  have s6 := hok.2.2.1
  have m6 := hok.2.2.2.1
  unfold cplB f_Mo_isCouple
  rw [x_soulMany hM, ob_eq, iwc (by omega) (by omega), x_isIn, ob_eq]
  by_cases h1 : 0 ≤ a ∧ a ≤ gi ld 2 9 - 1
  · rw [if_pos h1, if_neg (by decide), x_soulMany hM, ob_eq, iwc (by omega) (by omega), x_isIn, ob_eq]
    by_cases h2 : 0 ≤ b ∧ b ≤ gi ld 2 9 - 1
    · rw [if_pos h2, if_neg (by decide)]
      by_cases h3 : a = b
      · rw [if_pos h3]
        exact ⟨fun z => by omega, fun _ => rfl⟩
      · rw [if_neg h3, hM.2.1, oc_pos (by omega), Int.toNat_natCast, hM.2.2.1.2.2.2.1, iwc (by omega) (by omega), x_isIn, ob_eq]
        by_cases h4 : 0 ≤ m ∧ m ≤ gi ld 2 12 - 1
        · rw [if_pos h4, if_neg (by decide)]
          exact ⟨fun _ => rfl, fun z => by omega⟩
        · rw [if_neg h4, if_pos rfl]
          exact ⟨fun z => by omega, fun _ => rfl⟩
    · rw [if_neg h2, if_pos rfl]
      exact ⟨fun z => by omega, fun _ => rfl⟩
  · rw [if_neg h1, if_pos rfl]
    exact ⟨fun z => by omega, fun _ => rfl⟩
theorem cplB_nat {ld : SS} (hok : LdOK ld) {a b m : Int} (h : cplB ld a b m) : ∃ a' b' m' : Nat, a = a' ∧ b = b' ∧ m = m' ∧ CPL ld a' b' m' := by
  have s6 := hok.2.2.1
  have m6 := hok.2.2.2.1
  obtain ⟨h1, h2, h3, h4, h5, h6, h7⟩ := h
  refine ⟨a.toNat, b.toNat, m.toNat, by omega, by omega, by omega, ?_⟩
  unfold CPL
  omega
/-- a state in earnest: the class's row of 41, the reference's of 44 -/
def SRt (V M : Nat → Int) : Prop := (∀ j, j < 12 → V j = M (1 + j) ∧ 0 ≤ V j ∧ V j ≤ 9) ∧ V 12 = M 0 ∧ 0 ≤ V 12 ∧ V 12 < 1000
def SRw (ld : SS) (V M : Nat → Int) (a b m : Nat) (q : QQ) : Prop :=
  CPL ld a b m ∧ QOK q ∧ (V 17 = 100 * (a : Int) + 10 * (b : Int) + (m : Int) ∧ V 18 = q.1 ∧ V 19 = q.2.1 ∧ V 20 = (q.2.2.length : Int) ∧ rowl (fun i => V (21 + i)) q.2.2.length = q.2.2) ∧
  (M 13 = a ∧ M 14 = b ∧ M 15 = m ∧ M 20 = q.1 ∧ M 19 = q.2.1 ∧ M 21 = (q.2.2.length : Int) ∧ rowl (fun i => M (22 + i)) q.2.2.length = q.2.2) ∧
  V 14 = M 16 ∧ V 15 = M 17 ∧ V 16 = M 18 ∧ (0 ≤ V 14 ∧ V 14 < gi ld 2 0) ∧
  ((V 15 = -1 ∧ V 16 = 0) ∨ ((0 ≤ V 15 ∧ V 15 < gi ld 2 4) ∧ (gi ld 6 (V 15).toNat = V 14 ∨ gi ld 7 (V 15).toNat = V 14) ∧ 0 ≤ V 16 ∧ V 16 < gi ld 8 (V 15).toNat))
def SR (ld : SS) (V M : Nat → Int) : Prop := SRt V M ∧ ((V 13 = 0 ∧ M 13 = -1) ∨ (V 13 = 1 ∧ ∃ a b m q, SRw ld V M a b m q))
theorem SR.cg {ld : SS} {V M V' M' : Nat → Int} (h : SR ld V M) (hv : ∀ j, j < 41 → V' j = V j) (hm : ∀ j, j < 44 → M' j = M j) : SR ld V' M' := by
  obtain ⟨⟨h1, h2, h3, h4⟩, h5⟩ := h
  refine ⟨⟨fun j hj => ?_, ?_, ?_, ?_⟩, ?_⟩
  · rw [hv j (by omega), hm (1 + j) (by omega)]; exact h1 j hj
  · rw [hv 12 (by omega), hm 0 (by omega)]; exact h2
  · rw [hv 12 (by omega)]; exact h3
  · rw [hv 12 (by omega)]; exact h4
  · rcases h5 with ⟨k1, k2⟩ | ⟨k1, a, b, m, q, w1, w2, ⟨v1, v2, v3, v4, v5⟩, ⟨u1, u2, u3, u4, u5, u6, u7⟩, w5, w6, w7, w8, w9⟩
    · exact Or.inl ⟨by rw [hv 13 (by omega)]; exact k1, by rw [hm 13 (by omega)]; exact k2⟩
    · refine Or.inr ⟨by rw [hv 13 (by omega)]; exact k1, a, b, m, q, w1, w2, ⟨?_, ?_, ?_, ?_, ?_⟩, ⟨?_, ?_, ?_, ?_, ?_, ?_, ?_⟩, ?_, ?_, ?_, ?_, ?_⟩
      · rw [hv 17 (by omega)]; exact v1
      · rw [hv 18 (by omega)]; exact v2
      · rw [hv 19 (by omega)]; exact v3
      · rw [hv 20 (by omega)]; exact v4
      · conv => rhs; rw [← v5]
        have := w2.2.1
        exact rowl_congr fun i hi => hv _ (by omega)
      · rw [hm 13 (by omega)]; exact u1
      · rw [hm 14 (by omega)]; exact u2
      · rw [hm 15 (by omega)]; exact u3
      · rw [hm 20 (by omega)]; exact u4
      · rw [hm 19 (by omega)]; exact u5
      · rw [hm 21 (by omega)]; exact u6
      · conv => rhs; rw [← u7]
        have := w2.2.1
        exact rowl_congr fun i hi => hm _ (by omega)
      · rw [hv 14 (by omega), hm 16 (by omega)]; exact w5
      · rw [hv 15 (by omega), hm 17 (by omega)]; exact w6
      · rw [hv 16 (by omega), hm 18 (by omega)]; exact w7
      · rw [hv 14 (by omega)]; exact w8
      · rw [hv 14 (by omega), hv 15 (by omega), hv 16 (by omega)]; exact w9
/-- the class's state as a row -/
def cv (σ : SS) : Nat → Int := fun j => if j < 12 then gi σ 47 j else if j = 12 then gi σ 46 2 else if j < 17 then gi σ 46 (j - 9) else if j < 21 then gi σ 51 (j - 14) else gi σ 53 (j - 21)
def mvr (σ : SS) (u i : Nat) : Nat → Int := fun j => if i < u then gi σ 120 (44 * i + j) else if i = u then gi σ 118 j else gi σ 120 (44 * (i - 1) + j)
abbrev UEa : Nat → Nat → Prop := fun r k => r = 46 ∧ 2 ≤ k ∨ 47 ≤ r ∧ r ≤ 50 ∨ r = 51 ∧ 3 ≤ k ∨ r = 53 ∨ r = 118 ∨ r = 120 ∨ r = 136 ∨ r = 137 ∨ r = 86 ∧ (k = 56 ∨ k = 57)
/-- old: the oldest slot; u acts can be undone, d redone -/
def EA (ld σ : SS) : Prop := SR ld (cv σ) (gi σ 118) ∧ (∃ old u d : Nat, old ≤ 40 ∧ u + d ≤ 40 ∧ gi σ 46 9 = old ∧ gi σ 46 10 = u ∧ gi σ 46 11 = d ∧ gi σ 86 56 = u ∧ gi σ 86 57 = d ∧ ∀ i, i ≤ u + d → SR ld (fun j => gi σ 48 (41 * ((old + i) % 41) + j)) (mvr σ u i)) ∧
  ∀ x, x < 3 → gi σ 50 x = gi σ 137 x ∧ (gi σ 50 x = 0 ∨ gi σ 50 x = 1 ∧ SR ld (fun j => gi σ 49 (41 * x + j)) (fun j => gi σ 136 (44 * x + j)))
theorem cv_of {σ τ : SS} (g : ∀ r k, UEa r k → gi τ r k = gi σ r k) : ∀ j, cv τ j = cv σ j := by
  intro j
  unfold cv
  rw [g 47 _ (by omega), g 46 2 (by omega), g 53 _ (by omega)]
  split
  · rfl
  · split
    · rfl
    · split
      · exact g 46 _ (by omega)
      · split
        · exact g 51 _ (by omega)
        · rfl
theorem EA.of {ld σ τ : SS} (h : EA ld σ) (g : ∀ r k, UEa r k → gi τ r k = gi σ r k) : EA ld τ := by
  obtain ⟨h1, ⟨old, u, d, h2, h3, h4, h5, h6, h7, h8, h9⟩, h10⟩ := h
  refine ⟨h1.cg (fun j _ => cv_of g j) (fun j _ => g _ _ (by omega)), ⟨old, u, d, h2, h3, by rw [g _ _ (by omega)]; exact h4, by rw [g _ _ (by omega)]; exact h5, by rw [g _ _ (by omega)]; exact h6, by rw [g _ _ (by omega)]; exact h7, by rw [g _ _ (by omega)]; exact h8, ?_⟩, ?_⟩
  · intro i hi
    refine (h9 i hi).cg (fun j _ => g _ _ (by omega)) (fun j _ => ?_)
    unfold mvr
    rw [g 120 _ (by omega), g 118 _ (by omega), g 120 _ (by omega)]
  · intro x hx
    obtain ⟨k1, k2⟩ := h10 x hx
    rw [g 50 x (by omega), g 137 x (by omega)]
    refine ⟨k1, ?_⟩
    rcases k2 with k2 | ⟨k2, k3⟩
    · exact Or.inl k2
    · exact Or.inr ⟨k2, k3.cg (fun j _ => g _ _ (by omega)) (fun j _ => g _ _ (by omega))⟩
/-- ways one behind the other -/
def Pth (ld : SS) (n : Nat) (wf ef : Nat → Nat) (p0 : Nat) : Prop := (p0 : Int) < gi ld 2 0 ∧ n ≤ 12 ∧ ∀ i, i < n → ((wf i : Int) < gi ld 2 4) ∧ ((ef i : Int) < gi ld 2 0) ∧ ((gi ld 6 (wf i) = ((if i = 0 then p0 else ef (i - 1) : Nat) : Int) ∧ gi ld 7 (wf i) = ef i) ∨ (gi ld 7 (wf i) = ((if i = 0 then p0 else ef (i - 1) : Nat) : Int) ∧ gi ld 6 (wf i) = ef i))
def pend (n : Nat) (ef : Nat → Nat) (p0 : Nat) : Nat := if n = 0 then p0 else ef (n - 1)
def RC (σ : SS) (t n : Nat) (wf ef : Nat → Nat) (p0 : Nat) : Prop := gi σ t 2 = n ∧ gi σ t 3 = (pend n ef p0 : Nat) ∧ ∀ i, i < n → gi σ (t + 1) i = wf i ∧ gi σ (t + 2) i = ef i
abbrev URo : Nat → Nat → Prop := fun r k => r = 54 ∧ 2 ≤ k ∨ r = 55 ∨ r = 56 ∨ r = 121 ∨ r = 86 ∧ (k = 60 ∨ k = 61)
def RO (ld σ : SS) : Prop := (gi σ 54 2 = 0 ∧ gi σ 54 3 = -1 ∧ gi σ 86 60 = -1 ∧ gi σ 86 61 = 0) ∨ ∃ n wf ef p0, Pth ld n wf ef p0 ∧ RC σ 54 n wf ef p0 ∧ gi σ 86 60 = p0 ∧ gi σ 86 61 = n ∧ ∀ i, i < n → gi σ 121 i = wf i
theorem RO.of {ld σ τ : SS} (h : RO ld σ) (g : ∀ r k, URo r k → gi τ r k = gi σ r k) : RO ld τ := by
  rcases h with ⟨h1, h2, h3, h4⟩ | ⟨n, wf, ef, p0, h1, ⟨k1, k2, k3⟩, h3, h4, h5⟩
  · exact Or.inl ⟨by rw [g _ _ (by omega)]; exact h1, by rw [g _ _ (by omega)]; exact h2, by rw [g _ _ (by omega)]; exact h3, by rw [g _ _ (by omega)]; exact h4⟩
  · refine Or.inr ⟨n, wf, ef, p0, h1, ⟨by rw [g _ _ (by omega)]; exact k1, by rw [g _ _ (by omega)]; exact k2, fun i hi => ?_⟩, by rw [g _ _ (by omega)]; exact h3, by rw [g _ _ (by omega)]; exact h4, fun i hi => ?_⟩
    · rw [g _ _ (by omega), g _ _ (by omega)]; exact k3 i hi
    · rw [g _ _ (by omega)]; exact h5 i hi
abbrev ULy : Nat → Nat → Prop := fun r k => r = 61 ∧ k = 5 ∨ r = 65 ∨ r = 122 ∨ r = 86 ∧ k = 62
def LY (σ : SS) : Prop := ∃ n : Nat, n ≤ 12 ∧ gi σ 61 5 = n ∧ gi σ 86 62 = n ∧ ∀ i, i < n → gi σ 65 i = gi σ 122 i
theorem LY.of {σ τ : SS} (h : LY σ) (g : ∀ r k, ULy r k → gi τ r k = gi σ r k) : LY τ := by
  obtain ⟨n, h1, h2, h3, h4⟩ := h
  exact ⟨n, h1, by rw [g _ _ (by omega)]; exact h2, by rw [g _ _ (by omega)]; exact h3, fun i hi => by rw [g _ _ (by omega), g _ _ (by omega)]; exact h4 i hi⟩
/-- what is reported of a road of so many miles by a quarrel of that length (-1: without an end) -/
def rpd (L : Int) (road : Int) : Int := if L < 0 ∨ road < L then 2 else if L = road then 1 else 0
abbrev URp : Nat → Nat → Prop := fun r k => r = 79 ∧ (k = 2 ∨ k = 3) ∨ r = 80 ∨ r = 81 ∨ r = 82 ∨ 131 ≤ r ∧ r ≤ 134 ∨ r = 86 ∧ (k = 79 ∨ k = 80)
/-- a set of roads as a long: bit i is road i + 1 -/
def bset (v : Int) (P : Nat → Bool) : Prop := rJ v ∧ ∀ i, i < 64 → (vJ v).toBitVec.getLsbD i = (decide (i < 60) && P i)
def RP (σ : SS) : Prop := ∃ n : Nat, n ≤ 30 ∧ gi σ 79 3 = n ∧ gi σ 86 79 = n ∧ gi σ 79 2 = gi σ 86 80 ∧ 0 ≤ gi σ 79 2 ∧ gi σ 79 2 ≤ 100000 ∧ ∀ i, i < n → (gi σ 80 i = gi σ 133 i ∧ 0 ≤ gi σ 80 i) ∧ (gi σ 81 i = gi σ 134 i ∧ -1 ≤ gi σ 81 i) ∧ (gi σ 131 i = -1 ∨ 1 ≤ gi σ 131 i ∧ gi σ 131 i ≤ 200) ∧ (0 ≤ gi σ 132 i ∧ gi σ 132 i ≤ 2) ∧ bset (gj σ 82 i) (fun x => rpd (gi σ 131 i) (x + 1) == gi σ 132 i)
theorem RP.of {σ τ : SS} (h : RP σ) (g : ∀ r k, URp r k → gi τ r k = gi σ r k ∧ gj τ r k = gj σ r k) : RP τ := by
  obtain ⟨n, h1, h2, h3, h4, h5, h6, h7⟩ := h
  refine ⟨n, h1, by rw [(g _ _ (by omega)).1]; exact h2, by rw [(g _ _ (by omega)).1]; exact h3, by rw [(g _ _ (by omega)).1, (g 86 80 (by omega)).1]; exact h4, by rw [(g _ _ (by omega)).1]; exact h5, by rw [(g _ _ (by omega)).1]; exact h6, fun i hi => ?_⟩
  rw [(g 80 i (by omega)).1, (g 81 i (by omega)).1, (g 131 i (by omega)).1, (g 132 i (by omega)).1, (g 133 i (by omega)).1, (g 134 i (by omega)).1, (g 82 i (by omega)).2]
  exact h7 i hi
abbrev UTa : Nat → Nat → Prop := fun r k => r = 0 ∧ k = 1 ∨ r = 1 ∨ r = 87 ∨ r = 86 ∧ (k = 2 ∨ k = 4 ∨ k = 5 ∨ k = 54) ∨ r = 42 ∧ (k = 2 ∨ k = 3)
def TA (σ : SS) : Prop := gi σ 0 1 = gi σ 86 2 ∧ 0 ≤ gi σ 0 1 ∧ gi σ 0 1 ≤ 1600 ∧ (∀ i, i < 1600 → gi σ 1 i = gi σ 87 i ∧ -128 ≤ gi σ 1 i ∧ gi σ 1 i < 128) ∧ gi σ 42 2 = gi σ 86 4 ∧ gi σ 42 3 = gi σ 86 5 ∧ gi σ 86 54 = 0
theorem TA.of {σ τ : SS} (h : TA σ) (g : ∀ r k, UTa r k → gi τ r k = gi σ r k) : TA τ := by
  obtain ⟨h1, h2, h3, h4, h5, h6, h7⟩ := h
  refine ⟨?_, ?_, ?_, fun i hi => ?_, ?_, ?_, ?_⟩
  · rw [g 0 1 (by omega), g 86 2 (by omega)]; exact h1
  · rw [g 0 1 (by omega)]; exact h2
  · rw [g 0 1 (by omega)]; exact h3
  · rw [g 1 i (by omega), g 87 i (by omega)]; exact h4 i hi
  · rw [g 42 2 (by omega), g 86 4 (by omega)]; exact h5
  · rw [g 42 3 (by omega), g 86 5 (by omega)]; exact h6
  · rw [g 86 54 (by omega)]; exact h7
def Inv (σ : SS) : Prop := ∃ ld bk, LdOK ld ∧ LC ld σ ∧ LM ld σ bk ∧ EA ld σ ∧ RO ld σ ∧ LY σ ∧ RP σ ∧ TA σ
/-- places that no call leaves anything in -/
abbrev SC : Nat → Nat → Prop := fun r k => r = 18 ∨ r = 21 ∨ r = 52 ∨ 57 ≤ r ∧ r ≤ 60 ∨ r = 61 ∧ k ≠ 5 ∨ 62 ≤ r ∧ r ≤ 64 ∨ 66 ≤ r ∧ r ≤ 78 ∨ 83 ≤ r ∧ r ≤ 85 ∨ r = 117 ∨ r = 119 ∨ 123 ≤ r ∧ r ≤ 130 ∨ r = 135 ∨ r = 86 ∧ (46 ≤ k ∧ k ≤ 51 ∨ k = 63 ∨ k = 64 ∨ k = 67 ∨ k = 68)
theorem Inv.sc {σ τ : SS} (h : Inv σ) (he : EqP SC σ τ) : Inv τ := by
  obtain ⟨ld, bk, h1, h2, h3, h4, h5, h6, h7, h8⟩ := h
  exact ⟨ld, bk, h1, h2.of he (fun r k z => by omega), h3.of he (fun r k z => by omega), h4.of (fun r k z => he.i r k (by omega)), h5.of (fun r k z => he.i r k (by omega)), h6.of (fun r k z => he.i r k (by omega)), h7.of (fun r k z => he r k (by omega)), h8.of (fun r k z => he.i r k (by omega))⟩
