/-! the pure part: what comes of a function, by what holds behind it -/
def Wp (x : OO) (Q : Int → SS → Prop) : Prop := ∃ r τ, x = some (r, τ) ∧ Q r τ
theorem wp_some {r : Int} {τ : SS} {Q : Int → SS → Prop} (h : Q r τ) : Wp (some (r, τ)) Q := ⟨r, τ, rfl, h⟩
theorem wp_os {σ : SS} {k : SS → OO} {Q : Int → SS → Prop} (h : Wp (k σ) Q) : Wp (os σ k) Q := h
theorem wp_ol {e : Int} {k : Int → OO} {Q : Int → SS → Prop} (h : Wp (k e) Q) : Wp (ol e k) Q := h
theorem wp_oc {c : Prop} {d : Decidable c} {k : OO} {Q : Int → SS → Prop} (hc : c) (h : Wp k Q) : Wp (@oc c d k) Q := by
  unfold oc; rw [if_pos hc]; exact h
theorem wp_t {c : Prop} {d : Decidable c} {a b : OO} {Q : Int → SS → Prop} (hc : c) (h : Wp a Q) : Wp (@ite _ c d a b) Q := by rw [if_pos hc]; exact h
theorem wp_f {c : Prop} {d : Decidable c} {a b : OO} {Q : Int → SS → Prop} (hc : ¬ c) (h : Wp b Q) : Wp (@ite _ c d a b) Q := by rw [if_neg hc]; exact h
theorem wp_i {c : Prop} {d : Decidable c} {a b : OO} {Q : Int → SS → Prop} (h1 : c → Wp a Q) (h2 : ¬ c → Wp b Q) : Wp (@ite _ c d a b) Q := by
  by_cases h : c
  · exact wp_t h (h1 h)
  · exact wp_f h (h2 h)
theorem wp_ob {x : OO} {k : Int → SS → OO} {Q : Int → SS → Prop} (h : Wp x fun r τ => Wp (k r τ) Q) : Wp (ob x k) Q := by
  obtain ⟨r, τ, rfl, h⟩ := h; exact h
theorem wp_call {x : OO} {k : Int → SS → OO} {Q R : Int → SS → Prop} (h : Wp x R) (hk : ∀ r τ, R r τ → Wp (k r τ) Q) : Wp (ob x k) Q := by
  obtain ⟨r, τ, rfl, h⟩ := h; exact hk r τ h
theorem wp_mono {x : OO} {Q R : Int → SS → Prop} (h : Wp x R) (hq : ∀ r τ, R r τ → Q r τ) : Wp x Q := by
  obtain ⟨r, τ, e, h⟩ := h; exact ⟨r, τ, e, hq r τ h⟩
theorem wp_eq {x : OO} {k : Int → SS → OO} {Q : Int → SS → Prop} {r : Int} {τ : SS} (h : x = some (r, τ)) (hk : Wp (k r τ) Q) : Wp (ob x k) Q := by rw [h]; exact hk
theorem wp_eqe {x : OO} {Q : Int → SS → Prop} {r : Int} {τ : SS} (h : x = some (r, τ)) (hk : Q r τ) : Wp x Q := ⟨r, τ, h, hk⟩
theorem wp_unf {x y : OO} {Q : Int → SS → Prop} (h : x = y) (hk : Wp y Q) : Wp x Q := by rw [h]; exact hk
/-- places of the store -/
theorem gi_same (σ : SS) (r k : Nat) (v : Int) : gi (si σ r k v) r k = v := gi_si_s σ r k v
theorem gi_ne_r (σ : SS) {r r' : Nat} (k k' : Nat) (v : Int) (h : r' ≠ r) : gi (si σ r k v) r' k' = gi σ r' k' := by rw [gi_si, if_neg (fun z => h z.1)]
theorem gi_ne_k (σ : SS) (r r' : Nat) {k k' : Nat} (v : Int) (h : k' ≠ k) : gi (si σ r k v) r' k' = gi σ r' k' := by rw [gi_si, if_neg (fun z => h z.2)]
theorem gi_sr_same (σ : SS) (r k : Nat) (f : Nat → Int) : gi (sr σ r f) r k = f k := by rw [gi_sr, if_pos rfl]
theorem gi_sr_ne (σ : SS) {r r' : Nat} (k : Nat) (f : Nat → Int) (h : r' ≠ r) : gi (sr σ r f) r' k = gi σ r' k := by rw [gi_sr, if_neg h]
theorem gj_sj_same (σ : SS) (r k : Nat) (v : Int) : gj (sj σ r k v) r k = v := by rw [gj_sj, if_pos ⟨rfl, rfl⟩]
theorem gj_sj_ne_r (σ : SS) {r r' : Nat} (k k' : Nat) (v : Int) (h : r' ≠ r) : gj (sj σ r k v) r' k' = gj σ r' k' := by rw [gj_sj, if_neg (fun z => h z.1)]
theorem gj_sj_ne_k (σ : SS) (r r' : Nat) {k k' : Nat} (v : Int) (h : k' ≠ k) : gj (sj σ r k v) r' k' = gj σ r' k' := by rw [gj_sj, if_neg (fun z => h z.2)]
theorem jwc {x : Int} (h1 : -9223372036854775808 ≤ x) (h2 : x < 9223372036854775808) : jw x = x := jw_id ⟨h1, h2⟩
theorem tdn {x : Int} (y : Int) (h : 0 ≤ x) : Int.tdiv x y = x / y := Int.tdiv_eq_ediv_of_nonneg h
theorem tmn {x : Int} (y : Int) (h : 0 ≤ x) : Int.tmod x y = x % y := Int.tmod_eq_emod_of_nonneg h
theorem b0 (c : Prop) [Decidable c] : ((if c then (1 : Int) else 0) = 0) = ¬ c := by by_cases h : c <;> simp [h]
theorem b1 (c : Prop) [Decidable c] : ((if c then (1 : Int) else 0) = 1) = c := by by_cases h : c <;> simp [h]
theorem yc0 (a b : Int) : (ycmp a b = 0) = (a = b) := by
  unfold ycmp
  by_cases h : a < b
  · rw [if_pos h]; simp; omega
  · rw [if_neg h]
    by_cases h2 : a = b <;> simp [h2]
theorem yc1 (a b : Int) : (ycmp a b ≤ 0) = (a ≤ b) := by
  unfold ycmp
  by_cases h : a < b
  · rw [if_pos h]; simp; omega
  · rw [if_neg h]
    by_cases h2 : a = b
    · simp [h2]
    · simp [h2]; omega
/-- two stores alike off some places -/
def EqP (P : Nat → Nat → Prop) (σ τ : SS) : Prop := ∀ r k, ¬ P r k → gi τ r k = gi σ r k ∧ gj τ r k = gj σ r k
theorem EqP.rf (P : Nat → Nat → Prop) (σ : SS) : EqP P σ σ := fun _ _ _ => ⟨rfl, rfl⟩
theorem EqP.tr {P : Nat → Nat → Prop} {a b c : SS} (h1 : EqP P a b) (h2 : EqP P b c) : EqP P a c := fun r k h => ⟨(h2 r k h).1.trans (h1 r k h).1, (h2 r k h).2.trans (h1 r k h).2⟩
theorem EqP.mo {P R : Nat → Nat → Prop} {a b : SS} (h : EqP P a b) (hs : ∀ r k, P r k → R r k) : EqP R a b := fun r k hr => h r k (fun z => hr (hs r k z))
theorem EqP.i {P : Nat → Nat → Prop} {a b : SS} (h : EqP P a b) (r k : Nat) (hr : ¬ P r k) : gi b r k = gi a r k := (h r k hr).1
theorem EqP.j {P : Nat → Nat → Prop} {a b : SS} (h : EqP P a b) (r k : Nat) (hr : ¬ P r k) : gj b r k = gj a r k := (h r k hr).2
theorem EqP.si {P : Nat → Nat → Prop} {a b : SS} (h : EqP P a b) (r k : Nat) (v : Int) (hr : P r k) : EqP P a (si b r k v) := fun r' k' hn => by
  have hne : ¬ (r' = r ∧ k' = k) := fun z => hn (by rw [z.1, z.2]; exact hr)
  refine ⟨?_, (h r' k' hn).2⟩
  rw [gi_si, if_neg hne]; exact (h r' k' hn).1
theorem EqP.sj {P : Nat → Nat → Prop} {a b : SS} (h : EqP P a b) (r k : Nat) (v : Int) (hr : P r k) : EqP P a (sj b r k v) := fun r' k' hn => by
  have hne : ¬ (r' = r ∧ k' = k) := fun z => hn (by rw [z.1, z.2]; exact hr)
  refine ⟨(h r' k' hn).1, ?_⟩
  rw [gj_sj, if_neg hne]; exact (h r' k' hn).2
theorem EqP.sr {P : Nat → Nat → Prop} {a b : SS} (h : EqP P a b) (r : Nat) (f : Nat → Int) (hr : ∀ k, P r k) : EqP P a (sr b r f) := fun r' k' hn => by
  have hne : r' ≠ r := fun z => hn (by rw [z]; exact hr k')
  refine ⟨?_, (h r' k' hn).2⟩
  rw [gi_sr, if_neg hne]; exact (h r' k' hn).1
/-- small functions -/
noncomputable def cl (lo v hi : Int) : Int := if v < lo then lo else if hi < v then hi else v
theorem cl_99 (v : Int) : 0 ≤ cl 0 v 99 ∧ cl 0 v 99 ≤ 99 := by unfold cl; split; omega; split <;> omega
theorem x_within (a b c : Int) (σ : SS) : f_Qu_within a b c σ = some (cl a b c, σ) := by
  unfold f_Qu_within cl
  by_cases h1 : a ≤ b
  · rw [if_pos h1, if_neg (show ¬ b < a by omega)]
    by_cases h2 : b ≤ c
    · rw [if_pos h2, if_neg (show ¬ c < b by omega)]
    · rw [if_neg h2, if_pos (show c < b by omega)]
  · rw [if_neg h1, if_pos (show b < a by omega)]
theorem x_isPlace (t : Nat) (a : Int) (σ : SS) : f_La_isPlace t a σ = some (if 0 ≤ a ∧ a < gi σ t 0 ∧ a < 8 then 1 else 0, σ) := by
  unfold f_La_isPlace
  by_cases h1 : a < 0
  · rw [if_pos h1, if_neg (by omega)]
  · rw [if_neg h1]
    by_cases h2 : gi σ t 0 ≤ a
    · rw [if_pos h2, if_neg (by omega)]
    · rw [if_neg h2]
      by_cases h3 : 8 ≤ a
      · rw [if_pos h3, if_neg (by omega)]
      · rw [if_neg h3, if_pos (by omega)]
theorem x_isWay (t : Nat) (a : Int) (σ : SS) : f_La_isWay t a σ = some (if 0 ≤ a ∧ a < gi σ t 4 ∧ a < 14 then 1 else 0, σ) := by
  unfold f_La_isWay
  by_cases h1 : a < 0
  · rw [if_pos h1, if_neg (by omega)]
  · rw [if_neg h1]
    by_cases h2 : gi σ t 4 ≤ a
    · rw [if_pos h2, if_neg (by omega)]
    · rw [if_neg h2]
      by_cases h3 : 14 ≤ a
      · rw [if_pos h3, if_neg (by omega)]
      · rw [if_neg h3, if_pos (by omega)]
theorem x_isSoul (t : Nat) (a : Int) (σ : SS) : f_La_isSoul t a σ = some (if 0 ≤ a ∧ a < gi σ t 9 ∧ a < 6 then 1 else 0, σ) := by
  unfold f_La_isSoul
  by_cases h1 : a < 0
  · rw [if_pos h1, if_neg (by omega)]
  · rw [if_neg h1]
    by_cases h2 : gi σ t 9 ≤ a
    · rw [if_pos h2, if_neg (by omega)]
    · rw [if_neg h2]
      by_cases h3 : 6 ≤ a
      · rw [if_pos h3, if_neg (by omega)]
      · rw [if_neg h3, if_pos (by omega)]
theorem x_isMatter (t : Nat) (a : Int) (σ : SS) : f_La_isMatter t a σ = some (if 0 ≤ a ∧ a < gi σ t 12 ∧ a < 6 then 1 else 0, σ) := by
  unfold f_La_isMatter
  by_cases h1 : a < 0
  · rw [if_pos h1, if_neg (by omega)]
  · rw [if_neg h1]
    by_cases h2 : gi σ t 12 ≤ a
    · rw [if_pos h2, if_neg (by omega)]
    · rw [if_neg h2]
      by_cases h3 : 6 ≤ a
      · rw [if_pos h3, if_neg (by omega)]
      · rw [if_neg h3, if_pos (by omega)]
theorem x_isIn (a b c : Int) (σ : SS) : f_Mo_isIn a b c σ = some (if b ≤ a ∧ a ≤ c then 1 else 0, σ) := by
  unfold f_Mo_isIn
  by_cases h1 : a < b
  · rw [if_pos h1, if_neg (by omega)]
  · rw [if_neg h1]
    by_cases h2 : c < a
    · rw [if_pos h2, if_neg (by omega)]
    · rw [if_neg h2, if_pos (by omega)]
theorem x_warm (a : Int) (σ : SS) : f_Mo_warm a σ = some (cl 0 a 99, σ) := by
  unfold f_Mo_warm cl
  by_cases h1 : 0 ≤ a
  · rw [if_pos h1, if_neg (show ¬ a < 0 by omega)]
    by_cases h2 : a ≤ 99
    · rw [if_pos h2, if_neg (show ¬ 99 < a by omega)]
    · rw [if_neg h2, if_pos (show 99 < a by omega)]
  · rw [if_neg h1, if_pos (show a < 0 by omega)]
theorem x_isOver (t : Nat) (σ : SS) : f_Ta_isOver t σ = some (if gi σ t 4 ≤ 0 ∨ gi σ t 6 ≤ 0 then 1 else 0, σ) := by
  unfold f_Ta_isOver
  by_cases h1 : gi σ t 4 ≤ 0
  · rw [if_pos h1, if_pos (Or.inl h1)]
  · rw [if_neg h1]
    by_cases h2 : 0 < gi σ t 6
    · rw [if_pos h2, if_neg (by omega)]
    · rw [if_neg h2, if_pos (by omega)]
theorem x_isEnded (u : Nat) (hu : rN u = 44) (σ : SS) : f_Mo_isEnded u σ = some (if gi σ u 20 = 0 ∨ gi σ u 21 = 0 then 1 else 0, σ) := by
  unfold f_Mo_isEnded
  rw [hu, oc_pos (by decide)]
  by_cases h1 : gi σ u 20 = 0
  · rw [if_pos h1, if_pos (Or.inl h1)]
  · rw [if_neg h1, oc_pos (by decide)]
    by_cases h2 : gi σ u 21 = 0
    · rw [if_pos h2, if_pos (Or.inr h2)]
    · rw [if_neg h2, if_neg (by omega)]
theorem x_push (u : Nat) (hu : rN u = 44) (v : Int) (σ : SS) {n : Nat} (hn : gi σ u 21 = n) (h20 : n < 22) : f_Mo_push u v σ = some (0, si (si σ u (22 + n) v) u 21 (n + 1)) := by
  unfold f_Mo_push
  rw [hu, oc_pos (by decide), hn, iwc (by omega) (by omega), oc_pos (by omega), os_eq, oc_pos (by decide), oc_pos (by decide), os_eq]
  rw [show ((22 : Int) + (n : Int)).toNat = 22 + n by omega, gi_ne_k _ _ _ _ (show 21 ≠ 22 + n by omega), hn, iwc (by omega) (by omega)]
