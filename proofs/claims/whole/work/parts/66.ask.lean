/-! ask -/
theorem x_mostLC {ld σ : SS} (hok : LdOK ld) (hL : LC ld σ) {P : Nat → Bool} {N : Nat} (hN : N < 2 ^ 60) (hP : ∀ i, i < 60 → N.testBit i = P i) {a b m : Nat} (hc : CPL ld a b m) {code : Int} (hcode : code = 100 * (a : Int) + 10 * (b : Int) + (m : Int)) : Wp (f_Rp_mostLeft code (N : Int) σ) fun r τ => r = mlP P (olP ld (gi ld 11) a b m) ∧ EqP (PTk 83) σ τ := by
  unfold f_Rp_mostLeft
  refine wp_call (x_toldC hok hL hc hcode) ?_
  rintro r1 s1 ⟨rfl, hE⟩
  rw [x_mostC (l60_rel hok (gi ld 11) hc) hN hP s1]
  exact wp_some ⟨rfl, hE⟩
abbrev PAk : Nat → Nat → Prop := fun r k => PTo r k ∨ r = 135
theorem x_mostLM {ld σ : SS} (hok : LdOK ld) {bk : Nat} (hM : LM ld σ bk) (h54 : gi σ 86 54 = 0) {P : Nat → Bool} {N : Nat} (hN : N < 2 ^ 60) (hP : ∀ i, i < 60 → N.testBit i = P i) (c : Nat) (hc : CPL ld (c / 36) (c / 6 % 6) (c % 6)) : Wp (f_Mo_mostLeft c (N : Int) σ) fun r τ => r = mlP P (olP ld (gi ld 11) (c / 36) (c / 6 % 6) (c % 6)) ∧ gi τ 86 54 = 0 ∧ EqP PAk σ τ := by
  unfold f_Mo_mostLeft f_Mo_firstOf f_Mo_otherOf f_Mo_matterOf
  rw [ob_eq, ob_eq, ob_eq, tdn _ (by omega), tdn _ (by omega), tmn _ (by omega), tmn _ (by omega)]
  have ea : (c : Int) / 36 = ((c / 36 : Nat) : Int) := by omega
  have eb : (c : Int) / 6 % 6 = ((c / 6 % 6 : Nat) : Int) := by omega
  have em : (c : Int) % 6 = ((c % 6 : Nat) : Int) := by omega
  rw [ea, eb, em]
  refine wp_call (x_toldM hok hM hc h54) ?_
  rintro r4 s4 ⟨rfl, h54', hE⟩
  refine wp_mono (x_mostM hN hP s4) ?_
  rintro r τ ⟨hr, hE2⟩
  exact ⟨hr, by rw [hE2.i _ _ (by omega)]; exact h54', (hE.mo (fun r k h => Or.inl h)).tr (hE2.mo (fun r k h => Or.inr h))⟩
noncomputable def mlT (ld : SS) (P : Nat → Bool) (t : Nat × Nat × Nat) : Int := mlP P (olP ld (gi ld 11) t.1 t.2.1 t.2.2)
noncomputable def lsG (ld : SS) (P : Nat → Bool) (t : Nat × Nat × Nat) : Option ((Nat × Nat × Nat) × Int) → Option ((Nat × Nat × Nat) × Int)
  | none => some (t, mlT ld P t)
  | some (u, n) => if mlT ld P t < n then some (t, mlT ld P t) else some (u, n)
def eC : Option ((Nat × Nat × Nat) × Int) → Int × Int
  | none => (-1, 61)
  | some (t, n) => (100 * (t.1 : Int) + 10 * (t.2.1 : Int) + (t.2.2 : Int), n)
def eM : Option ((Nat × Nat × Nat) × Int) → Int × Int
  | none => (-1, 0)
  | some (t, n) => (36 * (t.1 : Int) + 6 * (t.2.1 : Int) + (t.2.2 : Int), n)
theorem eC_g {ld : SS} {P : Nat → Bool} (c : Nat) (st : Option ((Nat × Nat × Nat) × Int)) : eC (lsG ld P (dC c) st) = if (eC st).2 ≤ mlT ld P (dC c) then eC st else ((c : Int), mlT ld P (dC c)) := by
  have hr : mlT ld P (dC c) ≤ 60 := (mlP_rng _ _).2
  have hc : 100 * ((dC c).1 : Int) + 10 * ((dC c).2.1 : Int) + ((dC c).2.2 : Int) = c := by unfold dC; dsimp only; omega
  cases st with
  | none =>
    show (100 * ((dC c).1 : Int) + 10 * ((dC c).2.1 : Int) + ((dC c).2.2 : Int), mlT ld P (dC c)) = if (61 : Int) ≤ mlT ld P (dC c) then _ else _
    rw [if_neg (by omega), hc]
  | some x =>
    obtain ⟨u, n⟩ := x
    rw [lsG]
    by_cases h : mlT ld P (dC c) < n
    · rw [if_pos h]
      show (100 * ((dC c).1 : Int) + 10 * ((dC c).2.1 : Int) + ((dC c).2.2 : Int), mlT ld P (dC c)) = if n ≤ mlT ld P (dC c) then _ else _
      rw [if_neg (by omega), hc]
    · rw [if_neg h]
      show _ = if n ≤ mlT ld P (dC c) then _ else _
      rw [if_pos (by omega)]
theorem eM_g {ld : SS} {P : Nat → Bool} (c : Nat) (st : Option ((Nat × Nat × Nat) × Int)) : eM (lsG ld P (dM c) st) = if (eM st).1 < 0 ∨ mlT ld P (dM c) < (eM st).2 then ((c : Int), mlT ld P (dM c)) else eM st := by
  have hc : 36 * ((dM c).1 : Int) + 6 * ((dM c).2.1 : Int) + ((dM c).2.2 : Int) = c := by unfold dM; dsimp only; omega
  cases st with
  | none =>
    rw [if_pos (show (eM none).1 < 0 ∨ mlT ld P (dM c) < (eM none).2 from Or.inl (by show (-1 : Int) < 0; decide))]
    show (36 * ((dM c).1 : Int) + 6 * ((dM c).2.1 : Int) + ((dM c).2.2 : Int), mlT ld P (dM c)) = _
    rw [hc]
  | some x =>
    obtain ⟨u, n⟩ := x
    rw [lsG]
    have hn : ¬ 36 * (u.1 : Int) + 6 * (u.2.1 : Int) + (u.2.2 : Int) < 0 := by omega
    by_cases h : mlT ld P (dM c) < n
    · rw [if_pos h, if_pos (show (eM (some (u, n))).1 < 0 ∨ mlT ld P (dM c) < (eM (some (u, n))).2 from Or.inr h)]
      show (36 * ((dM c).1 : Int) + 6 * ((dM c).2.1 : Int) + ((dM c).2.2 : Int), mlT ld P (dM c)) = _
      rw [hc]
    · rw [if_neg h, if_neg (show ¬ ((eM (some (u, n))).1 < 0 ∨ mlT ld P (dM c) < (eM (some (u, n))).2) from by rintro (z | z); exact hn z; exact h z)]
theorem ls_mem {ld : SS} {P : Nat → Bool} : ∀ (l : List (Nat × Nat × Nat)) (s : Option ((Nat × Nat × Nat) × Int)), (∀ t n, s = some (t, n) → t.1 < 6 ∧ t.2.1 < 6 ∧ t.2.2 < 6) → (∀ t, t ∈ l → t.1 < 6 ∧ t.2.1 < 6 ∧ t.2.2 < 6) → ∀ t n, l.foldl (fun s t => lsG ld P t s) s = some (t, n) → t.1 < 6 ∧ t.2.1 < 6 ∧ t.2.2 < 6 := by
  intro l
  induction l with
  | nil => intro s hs _ t n h; exact hs t n h
  | cons u l ih =>
    intro s hs hl t n h
    rw [List.foldl_cons] at h
    refine ih _ ?_ (fun v hv => hl v (List.mem_cons_of_mem _ hv)) t n h
    intro v k hv
    have hu := hl u List.mem_cons_self
    cases s with
    | none =>
      rw [lsG] at hv
      obtain ⟨rfl, rfl⟩ := Prod.mk.inj (Option.some.inj hv)
      exact hu
    | some x =>
      obtain ⟨y, j⟩ := x
      rw [lsG] at hv
      by_cases h2 : mlT ld P u < j
      · rw [if_pos h2] at hv
        obtain ⟨rfl, rfl⟩ := Prod.mk.inj (Option.some.inj hv)
        exact hu
      · rw [if_neg h2] at hv
        obtain ⟨rfl, rfl⟩ := Prod.mk.inj (Option.some.inj hv)
        exact hs _ _ rfl
