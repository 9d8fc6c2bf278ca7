/-! the pure part: the store's laws -/
theorem iwc {x : Int} (h1 : -2147483648 ≤ x) (h2 : x < 2147483648) : iw x = x := iw_id ⟨h1, h2⟩
theorem oc_pos {c : Prop} [Decidable c] {k : OO} (h : c) : oc c k = k := if_pos h
theorem ol_eq (e : Int) (k : Int → OO) : ol e k = k e := rfl
theorem os_eq (σ : SS) (k : SS → OO) : os σ k = k σ := rfl
theorem ob_eq (r : Int) (τ : SS) (k : Int → SS → OO) : ob (some (r, τ)) k = k r τ := rfl
theorem ob_of {x : OO} {r : Int} {τ : SS} {k : Int → SS → OO} (h : x = some (r, τ)) : ob x k = k r τ := by rw [h]; rfl
/-- a whole row anew -/
def sr (σ : SS) (r : Nat) (f : Nat → Int) : SS := (fun r' k => if r' = r then f k else σ.1 r' k, σ.2)
theorem gi_sr (σ : SS) (r : Nat) (f : Nat → Int) (r' k : Nat) : gi (sr σ r f) r' k = if r' = r then f k else gi σ r' k := rfl
theorem gj_sr (σ : SS) (r : Nat) (f : Nat → Int) (r' k : Nat) : gj (sr σ r f) r' k = gj σ r' k := rfl
theorem si_sr (σ : SS) (r k : Nat) (v : Int) : si σ r k v = sr σ r (fun j => if j = k then v else gi σ r j) := by
  unfold si sr gi
  congr 1
  funext r' k'
  by_cases h : r' = r
  · subst h
    by_cases h2 : k' = k
    · simp [h2]
    · simp [h2]
  · simp [h]
theorem sr_sr (σ : SS) (r : Nat) (f g : Nat → Int) : sr (sr σ r f) r g = sr σ r g := by
  unfold sr
  congr 1
  funext r' k'
  by_cases h : r' = r <;> simp [h]
theorem sr_self (σ : SS) (r : Nat) : sr σ r (gi σ r) = σ := by
  unfold sr gi
  obtain ⟨a, b⟩ := σ
  congr 1
  funext r' k'
  by_cases h : r' = r
  · subst h; simp
  · simp [h]
theorem gi_sr_s (σ : SS) (r : Nat) (f : Nat → Int) : gi (sr σ r f) r = f := by funext k; rw [gi_sr, if_pos rfl]
theorem gi_sr_n (σ : SS) {r r' : Nat} (f : Nat → Int) (h : r' ≠ r) : gi (sr σ r f) r' = gi σ r' := by funext k; rw [gi_sr, if_neg h]
theorem gi_si_n (σ : SS) {r r' : Nat} (k : Nat) (v : Int) (h : r' ≠ r) : gi (si σ r k v) r' = gi σ r' := by funext k'; rw [gi_si, if_neg (fun z => h z.1)]
theorem gi_si_s (σ : SS) (r k : Nat) (v : Int) : gi (si σ r k v) r k = v := by rw [gi_si, if_pos ⟨rfl, rfl⟩]
theorem gi_si_k (σ : SS) (r : Nat) {k k' : Nat} (v : Int) (h : k' ≠ k) : gi (si σ r k v) r k' = gi σ r k' := by rw [gi_si, if_neg (fun z => h z.2)]
theorem gj_sj_n (σ : SS) {r r' : Nat} (k : Nat) (v : Int) (h : r' ≠ r) : gj (sj σ r k v) r' = gj σ r' := by funext k'; rw [gj_sj, if_neg (fun z => h z.1)]
/-- two stores alike off some rows -/
def EqO (S : List Nat) (σ τ : SS) : Prop := ∀ r, r ∉ S → gi τ r = gi σ r ∧ gj τ r = gj σ r
theorem EqO.rf (S : List Nat) (σ : SS) : EqO S σ σ := fun _ _ => ⟨rfl, rfl⟩
theorem EqO.tr {S1 S2 : List Nat} {a b c : SS} (h1 : EqO S1 a b) (h2 : EqO S2 b c) (S : List Nat) (hs : (S1.all fun x => S.contains x) = true ∧ (S2.all fun x => S.contains x) = true) : EqO S a c := by
  intro r hr
  have n1 : r ∉ S1 := fun z => hr (List.contains_iff_mem.mp (List.all_eq_true.mp hs.1 r z))
  have n2 : r ∉ S2 := fun z => hr (List.contains_iff_mem.mp (List.all_eq_true.mp hs.2 r z))
  exact ⟨(h2 r n2).1.trans (h1 r n1).1, (h2 r n2).2.trans (h1 r n1).2⟩
theorem EqO.mono {S1 S : List Nat} {a b : SS} (h1 : EqO S1 a b) (hs : ∀ x ∈ S1, x ∈ S) : EqO S a b := fun r hr => h1 r (fun z => hr (hs r z))
theorem EqO.trm {S : List Nat} {a b c : SS} (h1 : EqO S a b) (h2 : EqO S b c) : EqO S a c := fun r hr => ⟨(h2 r hr).1.trans (h1 r hr).1, (h2 r hr).2.trans (h1 r hr).2⟩
theorem EqO.i {S : List Nat} {a b : SS} (h : EqO S a b) (r : Nat) (hr : r ∉ S) (k : Nat) : gi b r k = gi a r k := by rw [(h r hr).1]
theorem EqO.j {S : List Nat} {a b : SS} (h : EqO S a b) (r : Nat) (hr : r ∉ S) (k : Nat) : gj b r k = gj a r k := by rw [(h r hr).2]
theorem EqO.si {S : List Nat} {a b : SS} (h : EqO S a b) (r k : Nat) (v : Int) (hr : r ∈ S) : EqO S a (si b r k v) := fun r' hr' => by
  have hne : r' ≠ r := fun z => hr' (z ▸ hr)
  exact ⟨(gi_si_n _ _ _ hne).trans (h r' hr').1, (h r' hr').2⟩
theorem EqO.sj {S : List Nat} {a b : SS} (h : EqO S a b) (r k : Nat) (v : Int) (hr : r ∈ S) : EqO S a (sj b r k v) := fun r' hr' => by
  have hne : r' ≠ r := fun z => hr' (z ▸ hr)
  exact ⟨(h r' hr').1, (gj_sj_n _ _ _ hne).trans (h r' hr').2⟩
theorem EqO.sr {S : List Nat} {a b : SS} (h : EqO S a b) (r : Nat) (f : Nat → Int) (hr : r ∈ S) : EqO S a (sr b r f) := fun r' hr' => by
  have hne : r' ≠ r := fun z => hr' (z ▸ hr)
  exact ⟨(gi_sr_n _ _ hne).trans (h r' hr').1, (h r' hr').2⟩
/-- the first n of a row, the last one first -/
def rowl (f : Nat → Int) (n : Nat) : List Int := ((List.range n).map f).reverse
theorem rowl_0 (f : Nat → Int) : rowl f 0 = [] := rfl
theorem rowl_s (f : Nat → Int) (n : Nat) : rowl f (n + 1) = f n :: rowl f n := by
  unfold rowl; rw [List.range_succ, List.map_append, List.reverse_append]; rfl
theorem rowl_len (f : Nat → Int) (n : Nat) : (rowl f n).length = n := by simp [rowl]
theorem rowl_congr {f g : Nat → Int} {n : Nat} (h : ∀ i, i < n → f i = g i) : rowl f n = rowl g n := by
  unfold rowl
  rw [List.map_congr_left (fun i hi => h i (List.mem_range.mp hi))]
theorem rowl_inj {f g : Nat → Int} : ∀ {n : Nat}, rowl f n = rowl g n → ∀ i, i < n → f i = g i
  | 0, _, i, hi => absurd hi (Nat.not_lt_zero i)
  | n + 1, h, i, hi => by
    rw [rowl_s, rowl_s] at h
    injection h with h1 h2
    rcases Nat.lt_succ_iff_lt_or_eq.mp hi with q | q
    · exact rowl_inj h2 i q
    · rw [q]; exact h1
/-! formulas as steps: what stands behind works on what stands ahead -/
noncomputable def jn (k a b : Int) : Int :=
  if k = 37 then (if b = 0 then 0 else Int.tmod a b)
  else if k = 42 then iw (a * b)
  else if k = 43 then iw (a + b)
  else if k = 45 then iw (a - b)
  else if k = 47 then (if b = 0 then 0 else iw (Int.tdiv a b))
  else if k = 60 then (if b ≤ a then 0 else 1)
  else if k = 61 then (if a = b then 1 else 0)
  else if k = 62 then (if a ≤ b then 0 else 1)
  else if k = 271 then (if a = 0 then (if b = 0 then 0 else 1) else 1)
  else if k = 272 then (if a = 0 then 0 else (if b = 0 then 0 else 1))
  else 0
theorem f_Fo_join_eq (k a b : Int) (σ : SS) : f_Fo_join k a b σ = some (jn k a b, σ) := by
  unfold f_Fo_join jn oc
  by_cases h37 : k = 37
  · by_cases hq0 : b = 0 <;> simp [h37, hq0]
  rw [if_neg h37, if_neg h37]
  by_cases h42 : k = 42
  · simp [h42]
  rw [if_neg h42, if_neg h42]
  by_cases h43 : k = 43
  · simp [h43]
  rw [if_neg h43, if_neg h43]
  by_cases h45 : k = 45
  · simp [h45]
  rw [if_neg h45, if_neg h45]
  by_cases h47 : k = 47
  · by_cases hq0 : b = 0 <;> simp [h47, hq0]
  rw [if_neg h47, if_neg h47]
  by_cases h60 : k = 60
  · by_cases hq0 : b ≤ a <;> simp [h60, hq0]
  rw [if_neg h60, if_neg h60]
  by_cases h61 : k = 61
  · by_cases hq0 : a = b <;> simp [h61, hq0]
  rw [if_neg h61, if_neg h61]
  by_cases h62 : k = 62
  · by_cases hq0 : a ≤ b <;> simp [h62, hq0]
  rw [if_neg h62, if_neg h62]
  by_cases h271 : k = 271
  · by_cases hq0 : a = 0 <;> by_cases hq1 : b = 0 <;> simp [h271, hq0, hq1]
  rw [if_neg h271, if_neg h271]
  by_cases h272 : k = 272
  · by_cases hq0 : a = 0 <;> by_cases hq1 : b = 0 <;> simp [h272, hq0, hq1]
  rw [if_neg h272, if_neg h272]
/-- one step of a formula -/
noncomputable def rpS (c : Int) (kn : Nat → Int) (st : List Int) : Option (List Int) :=
  if -6 ≤ c then (if 32 ≤ st.length then none else some ((if 0 ≤ c then c else kn (-1 - c).toNat) :: st))
  else if c = -273 then (match st with
    | [] => none
    | a :: st => some ((if a = 0 then 1 else 0) :: st))
  else (match st with
    | b :: a :: st => some (jn (-c) a b :: st)
    | _ => none)
noncomputable def rpn : List Int → (Nat → Int) → List Int → Option (List Int)
  | [], _, st => some st
  | c :: cs, kn, st => (rpS c kn st).bind (rpn cs kn)
theorem rpn_cons (c : Int) (cs : List Int) (kn : Nat → Int) (st : List Int) : rpn (c :: cs) kn st = (rpS c kn st).bind (rpn cs kn) := rfl
