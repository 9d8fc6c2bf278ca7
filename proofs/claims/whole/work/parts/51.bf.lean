/-! how far each place is: pure -/
def cto (p : Nat → Bool) : Nat → Nat
  | 0 => 0
  | n + 1 => cto p n + (if p n then 1 else 0)
theorem cto_le {p q : Nat → Bool} : ∀ n, (∀ z, z < n → p z = true → q z = true) → cto p n ≤ cto q n := by
  intro n
  induction n with
  | zero => intro _; exact Nat.le_refl _
  | succ n ih =>
    intro h
    have h1 := ih (fun z hz => h z (by omega))
    have h2 := h n (by omega)
    rw [cto, cto]
    by_cases hp : p n = true
    · rw [if_pos hp, if_pos (h2 hp)]; omega
    · rw [if_neg hp]; split <;> omega
theorem cto_lt {p q : Nat → Bool} : ∀ n, (∀ z, z < n → p z = true → q z = true) → (∃ z, z < n ∧ q z = true ∧ ¬ p z = true) → cto p n < cto q n := by
  intro n
  induction n with
  | zero => rintro _ ⟨z, h, _⟩; omega
  | succ n ih =>
    rintro h ⟨z, hz, hq, hp⟩
    rw [cto, cto]
    by_cases hzn : z = n
    · subst hzn
      have h1 := cto_le z (fun x hx => h x (by omega))
      rw [if_neg hp, if_pos hq]; omega
    · have h1 := ih (fun x hx => h x (by omega)) ⟨z, by omega, hq, hp⟩
      have h2 := h n (by omega)
      by_cases hpn : p n = true
      · rw [if_pos hpn, if_pos (h2 hpn)]; omega
      · rw [if_neg hpn]; split <;> omega
theorem cto_n {p : Nat → Bool} : ∀ n, cto p n ≤ n := by
  intro n
  induction n with
  | zero => exact Nat.le_refl _
  | succ n ih => rw [cto]; split <;> omega
def rx (f : Nat → Int) (a b : Nat) (l : Int) : Nat → Int := fun j => if j = a then (if f b + l < f a then f b + l else f a) else f j
def fN (ld : SS) (y : Nat) : Nat := (gi ld 6 y).toNat
def tN (ld : SS) (y : Nat) : Nat := (gi ld 7 y).toNat
def wyR (ld : SS) (f : Nat → Int) (y : Nat) : Nat → Int := rx (rx f (fN ld y) (tN ld y) (gi ld 8 y)) (tN ld y) (fN ld y) (gi ld 8 y)
def rdR (ld : SS) (f : Nat → Int) : Nat → Int := (List.range' 0 (gi ld 2 4).toNat).foldl (fun g y => wyR ld g y) f
def inF (to : Nat) : Nat → Int := fun p => if p = to then 0 else 1000000
def faR (ld : SS) (to : Nat) (n : Nat) : Nat → Int := (List.range' 0 n).foldl (fun g _ => rdR ld g) (inF to)
theorem rx_le (f : Nat → Int) (a b : Nat) (l : Int) (j : Nat) : rx f a b l j ≤ f j := by
  unfold rx
  split
  · rename_i h; subst h; split <;> omega
  · exact Int.le_refl _
theorem wyR_le (ld : SS) (f : Nat → Int) (y j : Nat) : wyR ld f y j ≤ f j := Int.le_trans (rx_le _ _ _ _ _) (rx_le _ _ _ _ _)
theorem foR_le (ld : SS) : ∀ (l : List Nat) (f : Nat → Int) (j : Nat), l.foldl (fun g y => wyR ld g y) f j ≤ f j := by
  intro l
  induction l with
  | nil => intro f j; exact Int.le_refl _
  | cons y l ih => intro f j; exact Int.le_trans (ih _ _) (wyR_le _ _ _ _)
/-- an end of a way, and the other one -/
def eds (ld : SS) (y v u : Nat) : Prop := (fN ld y = v ∧ tN ld y = u) ∨ (tN ld y = v ∧ fN ld y = u)
theorem wyR_ed {ld : SS} {y v u : Nat} (h : eds ld y v u) (hne : v ≠ u) (f : Nat → Int) : wyR ld f y v ≤ f u + gi ld 8 y := by
  unfold wyR
  rcases h with ⟨h1, h2⟩ | ⟨h1, h2⟩
  · rw [h1, h2]
    refine Int.le_trans (rx_le _ _ _ _ _) ?_
    unfold rx
    rw [if_pos rfl]; split <;> omega
  · rw [h1, h2]
    unfold rx
    rw [if_pos rfl, if_pos rfl, if_neg hne]
    split
    · split <;> omega
    · split at * <;> omega
theorem foR_ed {ld : SS} {y v u : Nat} (h : eds ld y v u) (hne : v ≠ u) : ∀ (l : List Nat) (f : Nat → Int), y ∈ l → l.foldl (fun g y => wyR ld g y) f v ≤ f u + gi ld 8 y := by
  intro l
  induction l with
  | nil => intro f hy; simp at hy
  | cons x l ih =>
    intro f hy
    rw [List.foldl_cons]
    rcases List.mem_cons.mp hy with hx | hx
    · subst hx
      exact Int.le_trans (foR_le _ _ _ _) (wyR_ed h hne f)
    · refine Int.le_trans (ih (wyR ld f x) hx) ?_
      have := wyR_le ld f x u
      omega
/-- a way from the place by so many edges of that length at the most -/
def wlk (ld : SS) (to : Nat) : Nat → Nat → Int → Prop
  | 0, v, L => v = to ∧ 0 ≤ L
  | k + 1, v, L => wlk ld to k v L ∨ ∃ y u : Nat, (y : Int) < gi ld 2 4 ∧ eds ld y v u ∧ wlk ld to k u (L - gi ld 8 y)
theorem wlk_L {ld : SS} {to : Nat} : ∀ (k v : Nat) (L L' : Int), wlk ld to k v L → L ≤ L' → wlk ld to k v L' := by
  intro k
  induction k with
  | zero => rintro v L L' ⟨h1, h2⟩ h; exact ⟨h1, by omega⟩
  | succ k ih =>
    rintro v L L' (h | ⟨y, u, h1, h2, h3⟩) hL
    · exact Or.inl (ih _ _ _ h hL)
    · exact Or.inr ⟨y, u, h1, h2, ih _ _ _ h3 (by omega)⟩
theorem wlk_k {ld : SS} {to : Nat} (v : Nat) (L : Int) : ∀ (d k : Nat), wlk ld to k v L → wlk ld to (k + d) v L := by
  intro d
  induction d with
  | zero => intro k h; exact h
  | succ d ih => intro k h; exact Or.inl (ih k h)
theorem eds_rng {ld : SS} (hok : LdOK ld) {y v u : Nat} (hy : (y : Int) < gi ld 2 4) (h : eds ld y v u) : v ≠ u ∧ v < 8 ∧ u < 8 ∧ 1 ≤ gi ld 8 y ∧ (v : Int) < gi ld 2 0 ∧ (u : Int) < gi ld 2 0 := by
  obtain ⟨w1, w2, w3, w4, w5⟩ := hok.wy hy
  have l0 := hok.1
  unfold eds fN tN at h
  omega
theorem faR_wlk {ld : SS} (hok : LdOK ld) {to : Nat} : ∀ (k v : Nat) (L : Int), wlk ld to k v L → faR ld to k v ≤ L := by
  intro k
  induction k with
  | zero =>
    rintro v L ⟨h1, h2⟩
    unfold faR inF
    simp [h1]
    omega
  | succ k ih =>
    intro v L h
    have e : faR ld to (k + 1) = rdR ld (faR ld to k) := by
      unfold faR
      rw [List.range'_concat, List.foldl_append]
      rfl
    rw [e]
    rcases h with h | ⟨y, u, h1, h2, h3⟩
    · exact Int.le_trans (foR_le _ _ _ _) (ih v L h)
    · have := ih u _ h3
      have h4 := foR_ed h2 (eds_rng hok h1 h2).1 (List.range' 0 (gi ld 2 4).toNat) (faR ld to k) (by rw [List.mem_range'_1]; omega)
      unfold rdR
      omega
/-- each number that is less than much comes of a neighbour -/
def nbr (ld : SS) (to : Nat) (f : Nat → Int) : Prop := f to = 0 ∧ (∀ v, 0 ≤ f v ∧ f v ≤ 1000000) ∧ ∀ v, v ≠ to → f v = 1000000 ∨ ∃ y u : Nat, (y : Int) < gi ld 2 4 ∧ eds ld y v u ∧ f u + gi ld 8 y ≤ f v
theorem rx_nbr {ld : SS} (hok : LdOK ld) {to : Nat} {f : Nat → Int} (h : nbr ld to f) {y a b : Nat} (hy : (y : Int) < gi ld 2 4) (he : eds ld y a b) : nbr ld to (rx f a b (gi ld 8 y)) := by
  obtain ⟨h1, h2, h3⟩ := h
  obtain ⟨e1, e2, e3, e4, _⟩ := eds_rng hok hy he
  have hb := h2 b
  have ha := h2 a
  refine ⟨?_, ?_, ?_⟩
  · unfold rx
    by_cases h : to = a
    · rw [if_pos h, if_neg (by rw [← h]; omega), ← h]; exact h1
    · rw [if_neg h]; exact h1
  · intro v
    have hv := h2 v
    unfold rx
    split
    · split <;> omega
    · exact hv
  · intro v hv
    by_cases hva : v = a
    · subst hva
      by_cases hlt : f b + gi ld 8 y < f v
      · refine Or.inr ⟨y, b, hy, he, ?_⟩
        unfold rx
        rw [if_neg (fun z => e1 z.symm), if_pos rfl, if_pos hlt]; omega
      · rcases h3 v hv with h | ⟨y', u, k1, k2, k3⟩
        · left; unfold rx; rw [if_pos rfl, if_neg hlt]; exact h
        · refine Or.inr ⟨y', u, k1, k2, ?_⟩
          have := rx_le f v b (gi ld 8 y) u
          unfold rx at this ⊢
          rw [if_pos (rfl : v = v), if_neg hlt]
          omega
    · rcases h3 v hv with h | ⟨y', u, k1, k2, k3⟩
      · left; unfold rx; rw [if_neg hva]; exact h
      · refine Or.inr ⟨y', u, k1, k2, ?_⟩
        have := rx_le f a b (gi ld 8 y) u
        unfold rx at this ⊢
        rw [if_neg hva]
        omega
theorem wyR_nbr {ld : SS} (hok : LdOK ld) {to : Nat} {f : Nat → Int} (h : nbr ld to f) {y : Nat} (hy : (y : Int) < gi ld 2 4) : nbr ld to (wyR ld f y) := rx_nbr hok (rx_nbr hok h hy (Or.inl ⟨rfl, rfl⟩)) hy (Or.inr ⟨rfl, rfl⟩)
theorem foR_nbr {ld : SS} (hok : LdOK ld) {to : Nat} : ∀ (l : List Nat) (f : Nat → Int), (∀ y ∈ l, (y : Int) < gi ld 2 4) → nbr ld to f → nbr ld to (l.foldl (fun g y => wyR ld g y) f) := by
  intro l
  induction l with
  | nil => intro f _ h; exact h
  | cons y l ih => intro f hl h; exact ih _ (fun x hx => hl x (List.mem_cons_of_mem _ hx)) (wyR_nbr hok h (hl y List.mem_cons_self))
theorem rdR_nbr {ld : SS} (hok : LdOK ld) {to : Nat} {f : Nat → Int} (h : nbr ld to f) : nbr ld to (rdR ld f) := foR_nbr hok _ f (fun y hy => by rw [List.mem_range'_1] at hy; omega) h
theorem inF_nbr (ld : SS) (to : Nat) : nbr ld to (inF to) := by
  refine ⟨if_pos rfl, fun v => ?_, fun v hv => Or.inl (if_neg hv)⟩
  unfold inF; split <;> omega
theorem faR_succ (ld : SS) (to n : Nat) : faR ld to (n + 1) = rdR ld (faR ld to n) := by
  unfold faR
  rw [List.range'_concat, List.foldl_append]
  rfl
theorem faR_nbr {ld : SS} (hok : LdOK ld) (to : Nat) : ∀ n, nbr ld to (faR ld to n) := by
  intro n
  induction n with
  | zero => exact inF_nbr ld to
  | succ n ih => rw [faR_succ]; exact rdR_nbr hok ih
def lsB (f : Nat → Int) (v : Nat) : Nat → Bool := fun z => decide (f z < f v)
theorem nbr_wlk {ld : SS} (hok : LdOK ld) {to : Nat} {f : Nat → Int} (h : nbr ld to f) : ∀ (n v : Nat), cto (lsB f v) 8 ≤ n → v < 8 → f v < 1000000 → wlk ld to (cto (lsB f v) 8) v (f v) := by
  intro n
  induction n with
  | zero =>
    intro v hn hv hf
    by_cases hvt : v = to
    · have := wlk_k (ld := ld) (to := to) v (f v) (cto (lsB f v) 8) 0 ⟨hvt, (h.2.1 v).1⟩
      rw [Nat.zero_add] at this
      exact this
    · rcases h.2.2 v hvt with k | ⟨y, u, k1, k2, k3⟩
      · omega
      · obtain ⟨e1, e2, e3, e4, _⟩ := eds_rng hok k1 k2
        have : cto (lsB f u) 8 < cto (lsB f v) 8 := cto_lt 8 (fun z _ hz => by unfold lsB at hz ⊢; simp at hz ⊢; omega) ⟨u, e3, by unfold lsB; simp; omega, by unfold lsB; simp⟩
        omega
  | succ n ih =>
    intro v hn hv hf
    by_cases hvt : v = to
    · have := wlk_k (ld := ld) (to := to) v (f v) (cto (lsB f v) 8) 0 ⟨hvt, (h.2.1 v).1⟩
      rw [Nat.zero_add] at this
      exact this
    · rcases h.2.2 v hvt with k | ⟨y, u, k1, k2, k3⟩
      · omega
      · obtain ⟨e1, e2, e3, e4, _⟩ := eds_rng hok k1 k2
        have hlt : cto (lsB f u) 8 < cto (lsB f v) 8 := cto_lt 8 (fun z _ hz => by unfold lsB at hz ⊢; simp at hz ⊢; omega) ⟨u, e3, by unfold lsB; simp; omega, by unfold lsB; simp⟩
        have hw := ih u (by omega) e3 (by omega)
        have h1 : wlk ld to (cto (lsB f u) 8 + 1) v (f v) := Or.inr ⟨y, u, k1, k2, wlk_L _ _ _ _ hw (by omega)⟩
        have h2 := wlk_k v (f v) (cto (lsB f v) 8 - (cto (lsB f u) 8 + 1)) _ h1
        rw [show cto (lsB f u) 8 + 1 + (cto (lsB f v) 8 - (cto (lsB f u) 8 + 1)) = cto (lsB f v) 8 by omega] at h2
        exact h2
theorem lsB_7 (f : Nat → Int) (v : Nat) (hv : v < 8) : cto (lsB f v) 8 ≤ 7 := by
  have h1 : cto (lsB f v) 8 < cto (fun _ => true) 8 := cto_lt 8 (fun _ _ _ => rfl) ⟨v, hv, rfl, by unfold lsB; simp⟩
  have h2 := cto_n (p := fun _ => true) 8
  omega
/-- behind eight rounds no way makes it less -/
theorem far_stable {ld : SS} (hok : LdOK ld) {to : Nat} {y v u : Nat} (hy : (y : Int) < gi ld 2 4) (he : eds ld y v u) : faR ld to 8 v ≤ faR ld to 8 u + gi ld 8 y := by
  obtain ⟨e1, e2, e3, e4, _⟩ := eds_rng hok hy he
  have hn := faR_nbr hok to 8
  have hv := hn.2.1 v
  have hu := hn.2.1 u
  by_cases hb : faR ld to 8 u < 1000000
  · have hw := nbr_wlk hok hn 8 u (cto_n 8) e3 hb
    have h7 := lsB_7 (faR ld to 8) u e3
    have h1 : wlk ld to (cto (lsB (faR ld to 8) u) 8 + 1) v (faR ld to 8 u + gi ld 8 y) := Or.inr ⟨y, u, hy, he, wlk_L _ _ _ _ hw (by omega)⟩
    have h2 := wlk_k v (faR ld to 8 u + gi ld 8 y) (8 - (cto (lsB (faR ld to 8) u) 8 + 1)) _ h1
    rw [show cto (lsB (faR ld to 8) u) 8 + 1 + (8 - (cto (lsB (faR ld to 8) u) 8 + 1)) = 8 by omega] at h2
    exact faR_wlk hok 8 v _ h2
  · omega
/-- the next way from a place -/
def nxC (ld : SS) (f : Nat → Int) (p y : Nat) : Bool := decide (0 ≤ oth ld y p) && decide (f (oth ld y p).toNat + gi ld 8 y = f p)
def nxF (ld : SS) (f : Nat → Int) (p : Nat) : Nat → Nat → Nat
  | 0, y => y
  | r + 1, y => if nxC ld f p y then y else nxF ld f p r (y + 1)
def nxt (ld : SS) (f : Nat → Int) (p : Nat) : Nat := nxF ld f p (gi ld 2 4).toNat 0
theorem nxF_spec {ld : SS} {f : Nat → Int} {p : Nat} : ∀ (r y : Nat), (∃ z, y ≤ z ∧ z < y + r ∧ nxC ld f p z = true) → nxC ld f p (nxF ld f p r y) = true ∧ nxF ld f p r y < y + r ∧ y ≤ nxF ld f p r y := by
  intro r
  induction r with
  | zero => rintro y ⟨z, h1, h2, _⟩; omega
  | succ r ih =>
    rintro y ⟨z, h1, h2, h3⟩
    rw [nxF]
    by_cases h : nxC ld f p y = true
    · rw [if_pos h]; exact ⟨h, by omega, Nat.le_refl _⟩
    · rw [if_neg h]
      have hzy : z ≠ y := fun e => h (e ▸ h3)
      obtain ⟨k1, k2, k3⟩ := ih (y + 1) ⟨z, by omega, by omega, h3⟩
      exact ⟨k1, by omega, by omega⟩
theorem oth_eds {ld : SS} (hok : LdOK ld) {y v u : Nat} (hy : (y : Int) < gi ld 2 4) (h : eds ld y v u) : oth ld y v = u := by
  obtain ⟨w1, w2, w3, w4, w5⟩ := hok.wy hy
  unfold eds fN tN at h
  unfold oth
  rw [if_pos ⟨by omega, hy⟩, Int.toNat_natCast]
  by_cases h1 : gi ld 6 y = v
  · rw [if_pos h1]; omega
  · rw [if_neg h1, if_pos (by omega)]; omega
theorem nxt_spec {ld : SS} (hok : LdOK ld) {to p : Nat} (hp : p ≠ to) (hf : faR ld to 8 p < 1000000) : (nxt ld (faR ld to 8) p : Int) < gi ld 2 4 ∧ 0 ≤ oth ld (nxt ld (faR ld to 8) p) p ∧ faR ld to 8 (oth ld (nxt ld (faR ld to 8) p) p).toNat + gi ld 8 (nxt ld (faR ld to 8) p) = faR ld to 8 p := by
  have l4 := hok.2.1
  rcases (faR_nbr hok to 8).2.2 p hp with k | ⟨y, u, k1, k2, k3⟩
  · omega
  · have hs := far_stable hok (to := to) k1 k2
    have ho := oth_eds hok k1 k2
    have hc : nxC ld (faR ld to 8) p y = true := by
      unfold nxC
      rw [ho, Int.toNat_natCast]
      simp
      omega
    obtain ⟨h1, h2, h3⟩ := nxF_spec (gi ld 2 4).toNat 0 ⟨y, by omega, by omega, hc⟩
    unfold nxC at h1
    simp at h1
    unfold nxt
    exact ⟨by omega, h1.1, h1.2⟩
/-- the places of the shortest -/
def psP (ld : SS) (to p0 : Nat) : Nat → Nat
  | 0 => p0
  | i + 1 => (oth ld (nxt ld (faR ld to 8) (psP ld to p0 i)) (psP ld to p0 i)).toNat
theorem psP_s (ld : SS) (to p0 i : Nat) : psP ld to p0 (i + 1) = (oth ld (nxt ld (faR ld to 8) (psP ld to p0 i)) (psP ld to p0 i)).toNat := rfl
def wsP (ld : SS) (to p0 : Nat) (i : Nat) : Nat := nxt ld (faR ld to 8) (psP ld to p0 i)
theorem psP_step {ld : SS} (hok : LdOK ld) {to p0 : Nat} (hp0 : (p0 : Int) < gi ld 2 0) (hf : faR ld to 8 p0 < 1000000) : ∀ i, (∀ j, j < i → psP ld to p0 j ≠ to) → (psP ld to p0 i : Int) < gi ld 2 0 ∧ faR ld to 8 (psP ld to p0 i) < 1000000 ∧ cto (lsB (faR ld to 8) (psP ld to p0 i)) 8 + i ≤ 7 := by
  have l0 := hok.1
  intro i
  induction i with
  | zero => intro _; exact ⟨hp0, hf, lsB_7 _ p0 (by omega)⟩
  | succ i ih =>
    intro h
    obtain ⟨h1, h2, h3⟩ := ih (fun j hj => h j (by omega))
    obtain ⟨n1, n2, n3⟩ := nxt_spec hok (h i (by omega)) h2
    have hr := oth_rng hok (nxt ld (faR ld to 8) (psP ld to p0 i)) (psP ld to p0 i)
    have l8 := (hok.wy n1).2.2.2.1
    rw [psP]
    refine ⟨by omega, by omega, ?_⟩
    have : cto (lsB (faR ld to 8) (oth ld (nxt ld (faR ld to 8) (psP ld to p0 i)) (psP ld to p0 i)).toNat) 8 < cto (lsB (faR ld to 8) (psP ld to p0 i)) 8 := cto_lt 8 (fun z _ hz => by unfold lsB at hz ⊢; simp at hz ⊢; omega) ⟨(oth ld (nxt ld (faR ld to 8) (psP ld to p0 i)) (psP ld to p0 i)).toNat, by omega, by unfold lsB; simp; omega, by unfold lsB; simp⟩
    omega
theorem psP_end {ld : SS} (hok : LdOK ld) {to p0 : Nat} (hp0 : (p0 : Int) < gi ld 2 0) (hf : faR ld to 8 p0 < 1000000) : ∃ n, n ≤ 7 ∧ psP ld to p0 n = to ∧ ∀ j, j < n → psP ld to p0 j ≠ to := by
  have go : ∀ d i, i + d = 8 → (∀ j, j < i → psP ld to p0 j ≠ to) → ∃ n, n ≤ 7 ∧ psP ld to p0 n = to ∧ ∀ j, j < n → psP ld to p0 j ≠ to := by
    intro d
    induction d with
    | zero =>
      intro i hi h
      have := (psP_step hok hp0 hf i h).2.2
      omega
    | succ d ih =>
      intro i hi h
      by_cases hit : psP ld to p0 i = to
      · exact ⟨i, by omega, hit, h⟩
      · exact ih (i + 1) (by omega) (fun j hj => by
          by_cases hji : j = i
          · rw [hji]; exact hit
          · exact h j (by omega))
  exact go 8 0 (by omega) (fun j hj => by omega)
theorem psP_pth {ld : SS} (hok : LdOK ld) {to p0 : Nat} (hp0 : (p0 : Int) < gi ld 2 0) (hf : faR ld to 8 p0 < 1000000) {n : Nat} (hn : n ≤ 7) (h : ∀ j, j < n → psP ld to p0 j ≠ to) : Pth ld n (wsP ld to p0) (fun i => psP ld to p0 (i + 1)) p0 := by
  refine ⟨hp0, by omega, fun i hi => ?_⟩
  obtain ⟨h1, h2, h3⟩ := psP_step hok hp0 hf i (fun j hj => h j (by omega))
  obtain ⟨n1, n2, n3⟩ := nxt_spec hok (h i hi) h2
  have hr := oth_rng hok (nxt ld (faR ld to 8) (psP ld to p0 i)) (psP ld to p0 i)
  have hpr : (if i = 0 then p0 else psP ld to p0 (i - 1 + 1) : Nat) = psP ld to p0 i := by
    by_cases h0 : i = 0
    · rw [if_pos h0, h0]; rfl
    · rw [if_neg h0, show i - 1 + 1 = i by omega]
  rw [hpr]
  unfold wsP
  dsimp only
  rw [psP_s]
  refine ⟨n1, by omega, ?_⟩
  generalize nxt ld (faR ld to 8) (psP ld to p0 i) = y at n1 n2 hr ⊢
  generalize psP ld to p0 i = v at n2 hr ⊢
  have hv := (oth_val hok n1).mp n2
  obtain ⟨w1, w2, w3, w4, w5⟩ := hok.wy n1
  have ho : oth ld y v = if gi ld 6 y = v then gi ld 7 y else if gi ld 7 y = v then gi ld 6 y else -1 := by
    unfold oth
    rw [if_pos ⟨by omega, n1⟩, Int.toNat_natCast]
  by_cases h6 : gi ld 6 y = v
  · rw [if_pos h6] at ho
    exact Or.inl ⟨h6, by omega⟩
  · rw [if_neg h6] at ho
    rcases hv with hv | hv
    · exact absurd hv h6
    · rw [if_pos hv] at ho
      exact Or.inr ⟨hv, by omega⟩
