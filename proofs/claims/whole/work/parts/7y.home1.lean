/-! home: rows of ways, as a tree and by their numbers -/
section
variable (ld : SS) (tp : Nat → Int) (a b W : Nat) (tt : Int)
noncomputable def mhH (w p : Nat) (q : QQ) : Bool × Int × QQ := milP ld tp a b w (oth ld w p).toNat (gi ld 8 w).toNat 0 q
/-- the rows of d ways at most that end the quarrel just there, as the tree is walked -/
noncomputable def flH : Nat → Nat → QQ → List (List Nat)
  | 0, _, _ => []
  | d + 1, p, q => (List.range W).flatMap fun (w : Nat) => if oth ld w p = -1 then [] else if (mhH ld tp a b w p q).1 = true then (if (mhH ld tp a b w p q).2.1 = gi ld 8 w ∧ oth ld w p = tt then [[w]] else []) else (flH d (oth ld w p).toNat (mhH ld tp a b w p q).2.2).map (w :: ·)
/-- those of just k ways -/
noncomputable def flK : Nat → Nat → QQ → List (List Nat)
  | 0, _, _ => []
  | k + 1, p, q => (List.range W).flatMap fun (w : Nat) => if oth ld w p = -1 then [] else if (mhH ld tp a b w p q).1 = true then (if (mhH ld tp a b w p q).2.1 = gi ld 8 w ∧ oth ld w p = tt then (if k = 0 then [[w]] else []) else []) else (flK k (oth ld w p).toNat (mhH ld tp a b w p q).2.2).map (w :: ·)
/-- a row of ways: whether it is such a one -/
noncomputable def okH : List Nat → Nat → QQ → Bool
  | [], _, _ => false
  | w :: l, p, q => if oth ld w p = -1 then false else if (mhH ld tp a b w p q).1 = true then (decide ((mhH ld tp a b w p q).2.1 = gi ld 8 w ∧ oth ld w p = tt) && l.isEmpty) else okH l (oth ld w p).toNat (mhH ld tp a b w p q).2.2
end
section
variable {ld : SS} {tp : Nat → Int} {a b W : Nat} {tt : Int}
theorem flH_len : ∀ (d p : Nat) (q : QQ), ∀ l ∈ flH ld tp a b W tt d p q, 1 ≤ l.length ∧ l.length ≤ d := by
  intro d
  induction d with
  | zero => intro p q l hl; simp [flH] at hl
  | succ d ih =>
    intro p q l hl
    rw [flH, List.mem_flatMap] at hl
    obtain ⟨w, _, hl⟩ := hl
    by_cases h1 : oth ld w p = -1
    · rw [if_pos h1] at hl; simp at hl
    rw [if_neg h1] at hl
    by_cases h2 : (mhH ld tp a b w p q).1 = true
    · rw [if_pos h2] at hl
      by_cases h3 : (mhH ld tp a b w p q).2.1 = gi ld 8 w ∧ oth ld w p = tt
      · rw [if_pos h3] at hl
        simp at hl
        rw [hl]
        simp
      · rw [if_neg h3] at hl; simp at hl
    · rw [if_neg h2, List.mem_map] at hl
      obtain ⟨l', hl', rfl⟩ := hl
      have := ih _ _ l' hl'
      rw [List.length_cons]
      omega
theorem flH_filter : ∀ (d k p : Nat) (q : QQ), k ≤ d → (flH ld tp a b W tt d p q).filter (fun l => l.length == k) = flK ld tp a b W tt k p q := by
  intro d
  induction d with
  | zero =>
    intro k p q hk
    obtain rfl : k = 0 := by omega
    rfl
  | succ d ih =>
    intro k p q hk
    cases k with
    | zero =>
      rw [flK, List.filter_eq_nil_iff]
      intro l hl
      have := flH_len (d + 1) p q l hl
      simp
      intro z
      rw [z] at this
      simp at this
    | succ k =>
      rw [flH, flK, List.filter_flatMap]
      congr 1
      funext w
      by_cases h1 : oth ld w p = -1
      · rw [if_pos h1, if_pos h1]; rfl
      rw [if_neg h1, if_neg h1]
      by_cases h2 : (mhH ld tp a b w p q).1 = true
      · rw [if_pos h2, if_pos h2]
        by_cases h3 : (mhH ld tp a b w p q).2.1 = gi ld 8 w ∧ oth ld w p = tt
        · rw [if_pos h3, if_pos h3]
          by_cases hk0 : k = 0
          · subst hk0; rfl
          · rw [if_neg hk0, List.filter_eq_nil_iff]
            intro l hl
            simp at hl
            rw [hl]
            simp
            omega
        · rw [if_neg h3, if_neg h3]; rfl
      · rw [if_neg h2, if_neg h2, List.filter_map, ← ih k _ _ (by omega)]
        congr 1
        congr 1
        funext l
        show ((w :: l).length == k + 1) = (l.length == k)
        rw [List.length_cons]
        by_cases h : l.length = k
        · simp [h]
        · simp [h]
/-- the digits of a number, the highest first -/
def digL (W : Nat) : Nat → Nat → List Nat
  | 0, _ => []
  | k + 1, v => (v / W ^ k) :: digL W k (v % W ^ k)
theorem range_mul (n : Nat) : ∀ m, List.range (m * n) = (List.range m).flatMap fun i => (List.range n).map fun j => i * n + j := by
  intro m
  induction m with
  | zero => rw [Nat.zero_mul]; rfl
  | succ m ih =>
    rw [Nat.add_mul, Nat.one_mul, List.range_add, ih, List.range_succ, List.flatMap_append]
    congr 1
    rw [List.flatMap_cons, List.flatMap_nil, List.append_nil]
theorem flK_dig : ∀ (k p : Nat) (q : QQ), flK ld tp a b W tt k p q = ((List.range (W ^ k)).filter fun v => okH ld tp a b tt (digL W k v) p q).map (digL W k) := by
  intro k
  induction k with
  | zero => intro p q; rfl
  | succ k ih =>
    intro p q
    rw [flK, Nat.pow_succ, Nat.mul_comm, range_mul, List.filter_flatMap, List.map_flatMap]
    congr 1
    funext w
    have hd : ∀ j, j < W ^ k → digL W (k + 1) (w * W ^ k + j) = w :: digL W k j := by
      intro j hj
      rw [digL]
      have e1 : (w * W ^ k + j) / W ^ k = w := by
        rw [Nat.mul_comm, Nat.mul_add_div (by omega)]
        rw [Nat.div_eq_of_lt hj]
        omega
      have e2 : (w * W ^ k + j) % W ^ k = j := by
        rw [Nat.mul_comm, Nat.mul_add_mod, Nat.mod_eq_of_lt hj]
      rw [e1, e2]
    rw [List.filter_map, List.map_map]
    have e3 : (List.range (W ^ k)).filter ((fun v => okH ld tp a b tt (digL W (k + 1) v) p q) ∘ fun j => w * W ^ k + j) = (List.range (W ^ k)).filter fun j => okH ld tp a b tt (w :: digL W k j) p q := by
      refine List.filter_congr (fun j hj => ?_)
      rw [List.mem_range] at hj
      show okH ld tp a b tt (digL W (k + 1) (w * W ^ k + j)) p q = _
      rw [hd j hj]
    have e4 : ∀ l : List Nat, (∀ j ∈ l, j < W ^ k) → l.map (digL W (k + 1) ∘ fun j => w * W ^ k + j) = (l.map (digL W k)).map (w :: ·) := by
      intro l hl
      rw [List.map_map]
      refine List.map_congr_left (fun j hj => ?_)
      show digL W (k + 1) (w * W ^ k + j) = w :: digL W k j
      exact hd j (hl j hj)
    rw [e3, e4 _ (fun j hj => List.mem_range.mp (List.mem_filter.mp hj).1)]
    by_cases h1 : oth ld w p = -1
    · rw [if_pos h1]
      have : (List.range (W ^ k)).filter (fun j => okH ld tp a b tt (w :: digL W k j) p q) = [] := by
        rw [List.filter_eq_nil_iff]
        intro j _
        rw [okH, if_pos h1]
        decide
      rw [this]
      rfl
    rw [if_neg h1]
    by_cases h2 : (mhH ld tp a b w p q).1 = true
    · rw [if_pos h2]
      by_cases h3 : (mhH ld tp a b w p q).2.1 = gi ld 8 w ∧ oth ld w p = tt
      · rw [if_pos h3]
        by_cases hk0 : k = 0
        · subst hk0
          rw [if_pos rfl]
          have : (List.range (W ^ 0)).filter (fun j => okH ld tp a b tt (w :: digL W 0 j) p q) = [0] := by
            show ([0] : List Nat).filter _ = [0]
            rw [List.filter_cons, okH, if_neg h1, if_pos h2, decide_eq_true h3]
            rfl
          rw [this]
          rfl
        · rw [if_neg hk0]
          have : (List.range (W ^ k)).filter (fun j => okH ld tp a b tt (w :: digL W k j) p q) = [] := by
            rw [List.filter_eq_nil_iff]
            intro j _
            obtain ⟨k', rfl⟩ : ∃ k', k = k' + 1 := ⟨k - 1, by omega⟩
            rw [okH, if_neg h1, if_pos h2, digL]
            simp
          rw [this]
          rfl
      · rw [if_neg h3]
        have : (List.range (W ^ k)).filter (fun j => okH ld tp a b tt (w :: digL W k j) p q) = [] := by
          rw [List.filter_eq_nil_iff]
          intro j _
          rw [okH, if_neg h1, if_pos h2, decide_eq_false h3]
          simp
        rw [this]
        rfl
    · rw [if_neg h2, ih]
      congr 2
      refine List.filter_congr (fun j _ => ?_)
      rw [okH, if_neg h1, if_neg h2]
/-- the first of the shortest, as rows come -/
def updH (s : Option (List Nat)) (l : List Nat) : Option (List Nat) := match s with
  | none => some l
  | some t => if l.length < t.length then some l else some t
def catK (f : Nat → List (List Nat)) : Nat → List (List Nat)
  | 0 => []
  | n + 1 => catK f n ++ f (n + 1)
theorem cat_count (L : List (List Nat)) : ∀ n, (catK (fun k => L.filter fun l => l.length == k) n).length = (L.filter fun l => decide (1 ≤ l.length ∧ l.length ≤ n)).length := by
  intro n
  induction n with
  | zero =>
    have : L.filter (fun l => decide (1 ≤ l.length ∧ l.length ≤ 0)) = [] := by
      rw [List.filter_eq_nil_iff]
      intro l _ z
      have := of_decide_eq_true z
      omega
    rw [this]
    rfl
  | succ n ih =>
    rw [catK, List.length_append, ih]
    clear ih
    induction L with
    | nil => rfl
    | cons l L ihL =>
      rw [List.filter_cons, List.filter_cons, List.filter_cons]
      by_cases h1 : l.length = n + 1
      · have c1 : decide (1 ≤ l.length ∧ l.length ≤ n) = false := decide_eq_false (by omega)
        have c2 : (l.length == n + 1) = true := by simp [h1]
        have c3 : decide (1 ≤ l.length ∧ l.length ≤ n + 1) = true := decide_eq_true (by omega)
        rw [c1, c2, c3]
        simp only [Bool.false_eq_true, if_false, if_true, List.length_cons]
        omega
      · have c2 : (l.length == n + 1) = false := by simp [h1]
        by_cases h2 : 1 ≤ l.length ∧ l.length ≤ n
        · have c1 : decide (1 ≤ l.length ∧ l.length ≤ n) = true := decide_eq_true h2
          have c3 : decide (1 ≤ l.length ∧ l.length ≤ n + 1) = true := decide_eq_true (by omega)
          rw [c1, c2, c3]
          simp only [Bool.false_eq_true, if_false, if_true, List.length_cons]
          omega
        · have c1 : decide (1 ≤ l.length ∧ l.length ≤ n) = false := decide_eq_false h2
          have c3 : decide (1 ≤ l.length ∧ l.length ≤ n + 1) = false := decide_eq_false (by omega)
          rw [c1, c2, c3]
          simp only [Bool.false_eq_true, if_false]
          exact ihL
end
