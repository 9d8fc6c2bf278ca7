/-! what has been read, on both sides -/
abbrev PC (u : Nat) : Nat → Nat → Prop := fun r k => (r = 42 ∨ r = 43 ∨ r = 44) ∧ 2 ≤ k ∨ r = 45 ∨ u ≤ r ∧ r ≤ u + 18
abbrev PM (b : Nat) : Nat → Nat → Prop := fun r k => r = 86 ∧ (4 ≤ k ∧ k ≤ 10 ∨ 42 ≤ k ∧ k ≤ 45) ∨ (89 ≤ r ∧ r ≤ 94 ∨ r = 108) ∧ k = b ∨ (r = 95 ∨ r = 96 ∨ r = 110) ∧ 8 * b ≤ k ∧ k < 8 * b + 8 ∨ 97 ≤ r ∧ r ≤ 100 ∧ 14 * b ≤ k ∧ k < 14 * b + 14 ∨ (101 ≤ r ∧ r ≤ 104 ∨ r = 111 ∨ r = 112) ∧ 6 * b ≤ k ∧ k < 6 * b + 6 ∨ r = 105 ∧ 48 * b ≤ k ∧ k < 48 * b + 48 ∨ (r = 106 ∨ r = 107 ∨ r = 109) ∧ 2 * b ≤ k ∧ k < 2 * b + 2 ∨ (r = 113 ∨ r = 114) ∧ 560 * b ≤ k ∧ k < 560 * b + 560 ∨ r = 115 ∨ r = 116
section
variable {b r k : Nat}
theorem pmA (h : r = 86 ∧ (4 ≤ k ∧ k ≤ 10 ∨ 42 ≤ k ∧ k ≤ 45)) : PM b r k := Or.inl h
theorem pmB (h : (89 ≤ r ∧ r ≤ 94 ∨ r = 108) ∧ k = b) : PM b r k := Or.inr (Or.inl h)
theorem pmC (h : (r = 95 ∨ r = 96 ∨ r = 110) ∧ 8 * b ≤ k ∧ k < 8 * b + 8) : PM b r k := Or.inr (Or.inr (Or.inl h))
theorem pmD (h : 97 ≤ r ∧ r ≤ 100 ∧ 14 * b ≤ k ∧ k < 14 * b + 14) : PM b r k := Or.inr (Or.inr (Or.inr (Or.inl h)))
theorem pmE (h : (101 ≤ r ∧ r ≤ 104 ∨ r = 111 ∨ r = 112) ∧ 6 * b ≤ k ∧ k < 6 * b + 6) : PM b r k := Or.inr (Or.inr (Or.inr (Or.inr (Or.inl h))))
theorem pmF (h : r = 105 ∧ 48 * b ≤ k ∧ k < 48 * b + 48) : PM b r k := Or.inr (Or.inr (Or.inr (Or.inr (Or.inr (Or.inl h)))))
theorem pmG (h : (r = 106 ∨ r = 107 ∨ r = 109) ∧ 2 * b ≤ k ∧ k < 2 * b + 2) : PM b r k := Or.inr (Or.inr (Or.inr (Or.inr (Or.inr (Or.inr (Or.inl h))))))
theorem pmH (h : (r = 113 ∨ r = 114) ∧ 560 * b ≤ k ∧ k < 560 * b + 560) : PM b r k := Or.inr (Or.inr (Or.inr (Or.inr (Or.inr (Or.inr (Or.inr (Or.inl h)))))))
theorem pmI (h : r = 115 ∨ r = 116) : PM b r k := Or.inr (Or.inr (Or.inr (Or.inr (Or.inr (Or.inr (Or.inr (Or.inr h)))))))
end
def PlR (u b : Nat) (σ τ : SS) (P : Nat) : Prop := P ≤ 8 ∧ gi σ u 0 = P ∧ gi τ 89 b = P ∧ ∀ i, i < P → (gi τ 95 (8 * b + i) = gi σ (u + 2) i ∧ 0 ≤ gi σ (u + 2) i ∧ gi σ (u + 2) i ≤ 9) ∧ (gi τ 96 (8 * b + i) = gi σ (u + 3) i ∧ 0 ≤ gi σ (u + 3) i ∧ gi σ (u + 3) i ≤ 9) ∧ NR (gj σ (u + 1) i) (gj τ 110 (8 * b + i))
def WyR (u b : Nat) (σ τ : SS) (P W : Nat) : Prop := W ≤ 14 ∧ gi σ u 4 = W ∧ gi τ 90 b = W ∧ ∀ i, i < W → (gi τ 97 (14 * b + i) = gi σ (u + 4) i ∧ 0 ≤ gi σ (u + 4) i ∧ gi σ (u + 4) i < P) ∧ (gi τ 98 (14 * b + i) = gi σ (u + 5) i ∧ 0 ≤ gi σ (u + 5) i ∧ gi σ (u + 5) i < P) ∧ gi σ (u + 4) i ≠ gi σ (u + 5) i ∧ (gi τ 99 (14 * b + i) = gi σ (u + 6) i ∧ 1 ≤ gi σ (u + 6) i ∧ gi σ (u + 6) i ≤ 40) ∧ (gi τ 100 (14 * b + i) = gi σ (u + 7) i ∧ -9 ≤ gi σ (u + 7) i ∧ gi σ (u + 7) i ≤ 9)
def SoR (u b : Nat) (σ τ : SS) (S : Nat) : Prop := S ≤ 6 ∧ gi σ u 9 = S ∧ gi τ 91 b = S ∧ ∀ i, i < S → (gi τ 101 (6 * b + i) = gi σ (u + 9) (2 * i) ∧ 0 ≤ gi σ (u + 9) (2 * i) ∧ gi σ (u + 9) (2 * i) ≤ 9) ∧ (gi τ 102 (6 * b + i) = gi σ (u + 9) (2 * i + 1) ∧ 0 ≤ gi σ (u + 9) (2 * i + 1) ∧ gi σ (u + 9) (2 * i + 1) ≤ 9) ∧ NR (gj σ (u + 8) i) (gj τ 111 (6 * b + i))
def MaR (u b : Nat) (σ τ : SS) (M : Nat) : Prop := M ≤ 6 ∧ gi σ u 12 = M ∧ gi τ 92 b = M ∧ ∀ i, i < M → (gi τ 103 (6 * b + i) = gi σ (u + 11) i ∧ 1 ≤ gi σ (u + 11) i ∧ gi σ (u + 11) i ≤ 99) ∧ (gi τ 104 (6 * b + i) = gi σ (u + 12) i ∧ 1 ≤ gi σ (u + 12) i ∧ gi σ (u + 12) i ≤ 8) ∧ (∀ j : Nat, (j : Int) < gi σ (u + 12) i → gi τ 105 (8 * (6 * b + i) + j) = gi σ (u + 13) (8 * i + j) ∧ 1 ≤ gi σ (u + 13) (8 * i + j) ∧ gi σ (u + 13) (8 * i + j) ≤ 9) ∧ NR (gj σ (u + 10) i) (gj τ 112 (6 * b + i))
def DrR (u b : Nat) (σ τ : SS) : Prop := gi σ u 17 = gi τ 94 b ∧ 0 ≤ gi σ u 17 ∧ gi σ u 17 ≤ 999 ∧ gi σ 42 5 = gi τ 108 b ∧ (gi τ 108 b = 0 ∨ gi τ 108 b = 1)
/-- a rule: its formula at r, the reference's k-th; all steps ahead of c of the bank -/
def Ru1 (b : Nat) (σ τ : SS) (r k t c : Nat) : Prop := gi τ 109 (2 * b + k) = t ∧ 0 ≤ gi σ r 3 ∧ gi σ r 3 ≤ 30 ∧ (t = 0 ∧ gi σ r 2 = 0 ∧ gi σ r 3 = 0 ∨ t = 1 ∧ 0 < gi σ r 2 ∧ WFc (stL σ r) ∧ (∀ x ∈ stL σ r, opOK x) ∧ ∃ fr : Nat, gi τ 106 (2 * b + k) = ((560 * b + fr : Nat) : Int) ∧ gi τ 107 (2 * b + k) = ((560 * b + fr + (gi σ r 2).toNat : Nat) : Int) ∧ fr + (gi σ r 2).toNat ≤ c ∧ ∀ j : Nat, (j : Int) < gi σ r 2 → gi τ 113 (560 * b + fr + j) = cmO (gi σ (r + 1) j) ∧ (0 ≤ gi σ (r + 1) j → gi τ 114 (560 * b + fr + j) = gi σ (r + 1) j))
def RuR (u b : Nat) (σ τ : SS) (t0 t1 c : Nat) : Prop := c ≤ 280 * (t0 + t1) ∧ t0 ≤ 1 ∧ t1 ≤ 1 ∧ gi τ 86 42 = ((560 * b + c : Nat) : Int) ∧ Ru1 b σ τ (u + 14) 0 t0 c ∧ Ru1 b σ τ (u + 17) 1 t1 c ∧ gi τ 93 b = gi σ (u + 14) 3 + gi σ (u + 17) 3
abbrev RdC (u P W S M : Nat) : Nat → Nat → Prop := fun r k => (r = u ∧ k = 0 ∨ u + 1 ≤ r ∧ r ≤ u + 3 ∧ k < P) ∨ (r = u ∧ k = 4 ∨ u + 4 ≤ r ∧ r ≤ u + 7 ∧ k < W) ∨ (r = u ∧ k = 9 ∨ r = u + 8 ∧ k < S ∨ r = u + 9 ∧ k < 2 * S) ∨ (r = u ∧ k = 12 ∨ u + 10 ≤ r ∧ r ≤ u + 12 ∧ k < M ∨ r = u + 13 ∧ k < 8 * M) ∨ (r = u ∧ k = 17 ∨ r = 42 ∧ k = 5) ∨ ((r = u + 14 ∨ r = u + 17) ∧ (k = 2 ∨ k = 3) ∨ r = u + 15 ∨ r = u + 18)
abbrev RdM (b P W S M c : Nat) : Nat → Nat → Prop := fun r k => (r = 89 ∧ k = b ∨ (r = 95 ∨ r = 96 ∨ r = 110) ∧ k < 8 * b + P) ∨ (r = 90 ∧ k = b ∨ 97 ≤ r ∧ r ≤ 100 ∧ k < 14 * b + W) ∨ (r = 91 ∧ k = b ∨ (r = 101 ∨ r = 102 ∨ r = 111) ∧ k < 6 * b + S) ∨ (r = 92 ∧ k = b ∨ (r = 103 ∨ r = 104 ∨ r = 112) ∧ k < 6 * b + M ∨ r = 105 ∧ k < 8 * (6 * b + M)) ∨ ((r = 94 ∨ r = 108) ∧ k = b) ∨ (r = 93 ∧ k = b ∨ (r = 106 ∨ r = 107 ∨ r = 109) ∨ (r = 113 ∨ r = 114) ∧ k < 560 * b + c ∨ r = 86 ∧ k = 42)
def LR (u b : Nat) (σ τ : SS) (P W S M t0 t1 c : Nat) : Prop := PlR u b σ τ P ∧ WyR u b σ τ P W ∧ SoR u b σ τ S ∧ MaR u b σ τ M ∧ DrR u b σ τ ∧ RuR u b σ τ t0 t1 c
theorem stL_cg {σ σ' : SS} {r : Nat} (h2 : gi σ' r 2 = gi σ r 2) (h : ∀ k, gi σ' (r + 1) k = gi σ (r + 1) k) : stL σ' r = stL σ r := by
  unfold stL
  rw [h2]
  congr 1
  funext k
  exact h k
theorem Ru1.cg {b : Nat} {σ τ σ' τ' : SS} {r k t c : Nat} (h : Ru1 b σ τ r k t c) (hk : k < 2) (h2 : gi σ' r 2 = gi σ r 2) (h3 : gi σ' r 3 = gi σ r 3) (h1 : ∀ j, gi σ' (r + 1) j = gi σ (r + 1) j) (g : ∀ r' j, (r' = 106 ∨ r' = 107 ∨ r' = 109) ∧ (j = 2 * b + k) ∨ (r' = 113 ∨ r' = 114) ∧ j < 560 * b + c → gi τ' r' j = gi τ r' j) {c' : Nat} (hc : c ≤ c') : Ru1 b σ' τ' r k t c' := by
  obtain ⟨a1, a2, a3, a4⟩ := h
  refine ⟨by rw [g _ _ (by omega)]; exact a1, by rw [h3]; exact a2, by rw [h3]; exact a3, ?_⟩
  rw [h2, h3, stL_cg h2 h1]
  rcases a4 with ⟨k1, k2, k3⟩ | ⟨k1, k2, k3, k4, fr, k5, k6, k7, k8⟩
  · exact Or.inl ⟨k1, k2, k3⟩
  · refine Or.inr ⟨k1, k2, k3, k4, fr, by rw [g _ _ (by omega)]; exact k5, by rw [g _ _ (by omega)]; exact k6, by omega, fun j hj => ?_⟩
    rw [g _ _ (by omega), g _ _ (by omega), h1]
    exact k8 j hj
theorem PlR.cg {u b : Nat} {σ τ σ' τ' : SS} {P : Nat} (h : PlR u b σ τ P) (hs : ∀ r k, r = u ∧ k = 0 ∨ u + 1 ≤ r ∧ r ≤ u + 3 ∧ k < P → gi σ' r k = gi σ r k ∧ gj σ' r k = gj σ r k) (ht : ∀ r k, r = 89 ∧ k = b ∨ (r = 95 ∨ r = 96 ∨ r = 110) ∧ k < 8 * b + P → gi τ' r k = gi τ r k ∧ gj τ' r k = gj τ r k) : PlR u b σ' τ' P := by
  obtain ⟨p1, p2, p3, p4⟩ := h
  refine ⟨p1, by rw [(hs _ _ (by omega)).1]; exact p2, by rw [(ht _ _ (by omega)).1]; exact p3, fun i hi => ?_⟩
  rw [(hs (u + 2) i (by omega)).1, (hs (u + 3) i (by omega)).1, (hs (u + 1) i (by omega)).2, (ht 95 _ (by omega)).1, (ht 96 _ (by omega)).1, (ht 110 _ (by omega)).2]
  exact p4 i hi
theorem WyR.cg {u b : Nat} {σ τ σ' τ' : SS} {P W : Nat} (h : WyR u b σ τ P W) (hs : ∀ r k, r = u ∧ k = 4 ∨ u + 4 ≤ r ∧ r ≤ u + 7 ∧ k < W → gi σ' r k = gi σ r k) (ht : ∀ r k, r = 90 ∧ k = b ∨ 97 ≤ r ∧ r ≤ 100 ∧ k < 14 * b + W → gi τ' r k = gi τ r k) {P' : Nat} (hP : P ≤ P') : WyR u b σ' τ' P' W := by
  obtain ⟨w1, w2, w3, w4⟩ := h
  refine ⟨w1, by rw [hs _ _ (by omega)]; exact w2, by rw [ht _ _ (by omega)]; exact w3, fun i hi => ?_⟩
  rw [hs (u + 4) i (by omega), hs (u + 5) i (by omega), hs (u + 6) i (by omega), hs (u + 7) i (by omega), ht 97 _ (by omega), ht 98 _ (by omega), ht 99 _ (by omega), ht 100 _ (by omega)]
  obtain ⟨q1, q2, q3, q4, q5⟩ := w4 i hi
  exact ⟨by omega, by omega, q3, q4, q5⟩
theorem SoR.cg {u b : Nat} {σ τ σ' τ' : SS} {S : Nat} (h : SoR u b σ τ S) (hs : ∀ r k, r = u ∧ k = 9 ∨ r = u + 8 ∧ k < S ∨ r = u + 9 ∧ k < 2 * S → gi σ' r k = gi σ r k ∧ gj σ' r k = gj σ r k) (ht : ∀ r k, r = 91 ∧ k = b ∨ (r = 101 ∨ r = 102 ∨ r = 111) ∧ k < 6 * b + S → gi τ' r k = gi τ r k ∧ gj τ' r k = gj τ r k) : SoR u b σ' τ' S := by
  obtain ⟨s1, s2, s3, s4⟩ := h
  refine ⟨s1, by rw [(hs _ _ (by omega)).1]; exact s2, by rw [(ht _ _ (by omega)).1]; exact s3, fun i hi => ?_⟩
  rw [(hs (u + 9) (2 * i) (by omega)).1, (hs (u + 9) (2 * i + 1) (by omega)).1, (hs (u + 8) i (by omega)).2, (ht 101 _ (by omega)).1, (ht 102 _ (by omega)).1, (ht 111 _ (by omega)).2]
  exact s4 i hi
theorem MaR.cg {u b : Nat} {σ τ σ' τ' : SS} {M : Nat} (h : MaR u b σ τ M) (hs : ∀ r k, r = u ∧ k = 12 ∨ u + 10 ≤ r ∧ r ≤ u + 12 ∧ k < M ∨ r = u + 13 ∧ k < 8 * M → gi σ' r k = gi σ r k ∧ gj σ' r k = gj σ r k) (ht : ∀ r k, r = 92 ∧ k = b ∨ (r = 103 ∨ r = 104 ∨ r = 112) ∧ k < 6 * b + M ∨ r = 105 ∧ k < 8 * (6 * b + M) → gi τ' r k = gi τ r k ∧ gj τ' r k = gj τ r k) : MaR u b σ' τ' M := by
  obtain ⟨m1, m2, m3, m4⟩ := h
  refine ⟨m1, by rw [(hs _ _ (by omega)).1]; exact m2, by rw [(ht _ _ (by omega)).1]; exact m3, fun i hi => ?_⟩
  rw [(hs (u + 11) i (by omega)).1, (hs (u + 12) i (by omega)).1, (hs (u + 10) i (by omega)).2, (ht 103 _ (by omega)).1, (ht 104 _ (by omega)).1, (ht 112 _ (by omega)).2]
  obtain ⟨q1, q2, q3, q4⟩ := m4 i hi
  refine ⟨q1, q2, fun j hj => ?_, q4⟩
  rw [(hs (u + 13) _ (by omega)).1, (ht 105 _ (by omega)).1]
  exact q3 j hj
theorem DrR.cg {u b : Nat} {σ τ σ' τ' : SS} (h : DrR u b σ τ) (hs : ∀ r k, r = u ∧ k = 17 ∨ r = 42 ∧ k = 5 → gi σ' r k = gi σ r k) (ht : ∀ r k, (r = 94 ∨ r = 108) ∧ k = b → gi τ' r k = gi τ r k) : DrR u b σ' τ' := by
  obtain ⟨d1, d2, d3, d4, d5⟩ := h
  refine ⟨?_, ?_, ?_, ?_, ?_⟩
  · rw [hs u 17 (by omega), ht 94 b (by omega)]; exact d1
  · rw [hs u 17 (by omega)]; exact d2
  · rw [hs u 17 (by omega)]; exact d3
  · rw [hs 42 5 (by omega), ht 108 b (by omega)]; exact d4
  · rw [ht 108 b (by omega)]; exact d5
theorem RuR.cg {u b : Nat} {σ τ σ' τ' : SS} {t0 t1 c : Nat} (h : RuR u b σ τ t0 t1 c) (hs : ∀ r k, (r = u + 14 ∨ r = u + 17) ∧ (k = 2 ∨ k = 3) ∨ r = u + 15 ∨ r = u + 18 → gi σ' r k = gi σ r k) (ht : ∀ r k, r = 93 ∧ k = b ∨ (r = 106 ∨ r = 107 ∨ r = 109) ∨ (r = 113 ∨ r = 114) ∧ k < 560 * b + c ∨ r = 86 ∧ k = 42 → gi τ' r k = gi τ r k) : RuR u b σ' τ' t0 t1 c := by
  obtain ⟨r1, r2, r3, r4, r5, r6, r7⟩ := h
  refine ⟨r1, r2, r3, by rw [ht _ _ (by omega)]; exact r4, ?_, ?_, ?_⟩
  · exact r5.cg (by omega) (hs _ _ (by omega)) (hs _ _ (by omega)) (fun j => hs _ _ (by omega)) (fun r' j hj => ht _ _ (by omega)) (Nat.le_refl _)
  · exact r6.cg (by omega) (hs _ _ (by omega)) (hs _ _ (by omega)) (fun j => hs _ _ (by omega)) (fun r' j hj => ht _ _ (by omega)) (Nat.le_refl _)
  · rw [ht 93 b (by omega), hs (u + 14) 3 (by omega), hs (u + 17) 3 (by omega)]; exact r7
theorem LR.cg {u b : Nat} {σ τ σ' τ' : SS} {P W S M t0 t1 c : Nat} (h : LR u b σ τ P W S M t0 t1 c) (hs : ∀ r k, RdC u P W S M r k → gi σ' r k = gi σ r k ∧ gj σ' r k = gj σ r k) (ht : ∀ r k, RdM b P W S M c r k → gi τ' r k = gi τ r k ∧ gj τ' r k = gj τ r k) : LR u b σ' τ' P W S M t0 t1 c := by
  obtain ⟨h1, h2, h3, h4, h5, h6⟩ := h
  exact ⟨h1.cg (fun r k z => hs r k (Or.inl z)) (fun r k z => ht r k (Or.inl z)), h2.cg (fun r k z => (hs r k (Or.inr (Or.inl z))).1) (fun r k z => (ht r k (Or.inr (Or.inl z))).1) (Nat.le_refl _), h3.cg (fun r k z => hs r k (Or.inr (Or.inr (Or.inl z)))) (fun r k z => ht r k (Or.inr (Or.inr (Or.inl z)))), h4.cg (fun r k z => hs r k (Or.inr (Or.inr (Or.inr (Or.inl z))))) (fun r k z => ht r k (Or.inr (Or.inr (Or.inr (Or.inl z))))), h5.cg (fun r k z => (hs r k (Or.inr (Or.inr (Or.inr (Or.inr (Or.inl z)))))).1) (fun r k z => (ht r k (Or.inr (Or.inr (Or.inr (Or.inr (Or.inl z)))))).1), h6.cg (fun r k z => (hs r k (Or.inr (Or.inr (Or.inr (Or.inr (Or.inr z)))))).1) (fun r k z => (ht r k (Or.inr (Or.inr (Or.inr (Or.inr (Or.inr z)))))).1)⟩
/-- good so far: the token, no fault, frames -/
def GS (u b : Nat) (B : Nat → Int) (N : Nat) (σ0 τ0 σ τ : SS) (k : Int) (p n : Nat) : Prop := TK B N σ τ k p n ∧ (gi τ 86 4 = 0 ∧ gi τ 86 5 = -1 ∧ gi σ 42 2 = 0 ∧ gi σ 42 3 = -1) ∧ EqP (PC u) σ0 σ ∧ EqP (PM b) τ0 τ ∧ gi τ 86 41 = b
/-- a fault -/
def BS (u b : Nat) (σ0 τ0 σ τ : SS) : Prop := (gi τ 86 4 ≠ 0 ∧ gi τ 86 4 = gi σ 42 2 ∧ gi τ 86 5 = gi σ 42 3) ∧ EqP (PC u) σ0 σ ∧ EqP (PM b) τ0 τ ∧ gi τ 86 41 = b ∧ gi τ 86 3 ≤ 1600 ∧ 0 ≤ gi τ 86 6
abbrev PS : Nat → Nat → Prop := fun r k => r = 43 ∧ 2 ≤ k ∨ r = 42 ∧ k = 4
theorem GS.k2 {u b : Nat} {B : Nat → Int} {N : Nat} {σ0 τ0 σ τ : SS} {k : Int} {p n : Nat} (h : GS u b B N σ0 τ0 σ τ k p n) : gi σ 43 3 = k ∧ gi σ 43 4 = p ∧ gi τ 86 6 = p ∧ n ≤ N ∧ N ≤ 1600 ∧ p ≤ n := by
  obtain ⟨⟨h1, h2, h3, h4, h5, h6, h7, h8, h9⟩, _⟩ := h
  exact ⟨h3, h4, h6, h8, h1.2.1, by omega⟩
/-- stores off the token's and the faults' places -/
theorem GS.wr {u b : Nat} {B : Nat → Int} {N : Nat} {σ0 τ0 σ τ σ' τ' : SS} {k : Int} {p n : Nat} (h : GS u b B N σ0 τ0 σ τ k p n) {P P' : Nat → Nat → Prop} (he : EqP P σ σ') (he' : EqP P' τ τ') (hp : ∀ r k, P r k → PC u r k ∧ r ≠ 43 ∧ (r ≠ 42 ∨ k ≠ 2 ∧ k ≠ 3) ∧ r ≠ 1) (hp' : ∀ r k, P' r k → PM b r k ∧ (r ≠ 86 ∨ 42 ≤ k)) : GS u b B N σ0 τ0 σ' τ' k p n := by
  obtain ⟨⟨h1, h2, h3, h4, h5, h6, h7, h8, h9⟩, ⟨f1, f2, f3, f4⟩, h10, h11, h12⟩ := h
  have g43 : ∀ j, gi σ' 43 j = gi σ 43 j ∧ gj σ' 43 j = gj σ 43 j := fun j => he 43 j (fun z => (hp _ _ z).2.1 rfl)
  have g86 : ∀ j, j < 42 → gi τ' 86 j = gi τ 86 j ∧ gj τ' 86 j = gj τ 86 j := fun j hj => he' 86 j (fun z => by have := (hp' _ _ z).2; omega)
  refine ⟨⟨h1.of he (fun r k z => by have := hp r k z; omega), h2.of he' (fun r k z => ?_), by rw [(g43 3).1]; exact h3, by rw [(g43 4).1]; exact h4, by rw [(g43 2).1]; exact h5, by rw [(g86 6 (by omega)).1]; exact h6, by rw [(g86 7 (by omega)).1]; exact h7, h8, ?_⟩, ⟨by rw [(g86 4 (by omega)).1]; exact f1, by rw [(g86 5 (by omega)).1]; exact f2, ?_, ?_⟩, h10.tr (he.mo (fun r k z => (hp r k z).1)), h11.tr (he'.mo (fun r k z => (hp' r k z).1)), by rw [(g86 41 (by omega)).1]; exact h12⟩
  · obtain ⟨a1, a2⟩ := hp' r k z
    unfold PM at a1
    omega
  · rw [(g86 8 (by omega)).1, (g43 5).1, (g86 9 (by omega)).1, (g43 6).2, (g86 10 (by omega)).2]
    exact h9
  · rw [he.i _ _ (fun z => by have := hp _ _ z; omega)]; exact f3
  · rw [he.i _ _ (fun z => by have := hp _ _ z; omega)]; exact f4
theorem BS.wr {u b : Nat} {σ0 τ0 σ τ τ' : SS} (h : BS u b σ0 τ0 σ τ) {P' : Nat → Nat → Prop} (he' : EqP P' τ τ') (hp' : ∀ r k, P' r k → PM b r k ∧ (r ≠ 86 ∨ 42 ≤ k)) : BS u b σ0 τ0 σ τ' := by
  obtain ⟨⟨h1, h2, h3⟩, h10, h11, h12, h13⟩ := h
  have g86 : ∀ j, j < 42 → gi τ' 86 j = gi τ 86 j := fun j hj => he'.i 86 j (fun z => by have := (hp' _ _ z).2; omega)
  exact ⟨⟨by rw [g86 4 (by omega)]; exact h1, by rw [g86 4 (by omega)]; exact h2, by rw [g86 5 (by omega)]; exact h3⟩, h10, h11.tr (he'.mo (fun r k z => (hp' r k z).1)), by rw [g86 41 (by omega)]; exact h12, by rw [g86 3 (by omega)]; exact h13.1, by rw [g86 6 (by omega)]; exact h13.2⟩
section
variable {u b : Nat} {B : Nat → Int} {N : Nat} {σ0 τ0 σ τ : SS} {k : Int} {p n : Nat}
theorem g_move (hu : u = 2 ∨ u = 22) (h : GS u b B N σ0 τ0 σ τ k p n) : W2 (f_To_move σ) (f_Mo_goOn τ) fun _ σ' _ τ' => ∃ k' p' n', GS u b B N σ0 τ0 σ' τ' k' p' n' ∧ n ≤ p' ∧ EqP PTc σ σ' ∧ EqP PTm τ τ' := by
  obtain ⟨⟨h1, h2, h3, h4, h5, h6, h7, h8, h9⟩, ⟨f1, f2, f3, f4⟩, h10, h11, h12⟩ := h
  refine w2_mono (t_move h1 h2 h5 h7 h8) ?_
  rintro _ σ' _ τ' ⟨k', p', n', hT, hp, hE, hE'⟩
  exact ⟨k', p', n', ⟨hT, ⟨by rw [hE'.i _ _ (by omega)]; exact f1, by rw [hE'.i _ _ (by omega)]; exact f2, by rw [hE.i _ _ (by omega)]; exact f3, by rw [hE.i _ _ (by omega)]; exact f4⟩, h10.tr (hE.mo (fun r k z => by omega)), h11.tr (hE'.mo (fun r k z => pmA (by omega))), by rw [hE'.i _ _ (by omega)]; exact h12⟩, hp, hE, hE'⟩
theorem g_fail (h : GS u b B N σ0 τ0 σ τ k p n) (c : Int) (hc : c ≠ 0) (q : Int) : W2 (f_Re_fail c q σ) (f_Mo_fails c q τ) fun r σ' _ τ' => r = 0 ∧ BS u b σ0 τ0 σ' τ' := by
  obtain ⟨⟨h1, h2, h3, h4, h5, h6, h7, h8, h9⟩, ⟨f1, f2, f3, f4⟩, h10, h11, h12⟩ := h
  unfold f_Re_fail f_Mo_fails
  refine w2_l (fun _ z => wp_os (wp_os z)) (w2_r (fun _ z => wp_t (by omega) (wp_os (wp_os z))) (w2_d ⟨rfl, ⟨?_, ?_, ?_⟩, ?_, ?_, ?_, ?_, ?_⟩))
  · simp (disch := omega) only [gi_same, gi_ne_r, gi_ne_k, gi_sr_same, gi_sr_ne, gj_sj_same, gj_sj_ne_r, gj_sj_ne_k, gj_si, gi_sj, gj_sr, iwc, jwc, Int.toNat_natCast, tdn, tmn, b0, b1, yc0, yc1]; exact hc
  · simp (disch := omega) only [gi_same, gi_ne_r, gi_ne_k, gi_sr_same, gi_sr_ne, gj_sj_same, gj_sj_ne_r, gj_sj_ne_k, gj_si, gi_sj, gj_sr, iwc, jwc, Int.toNat_natCast, tdn, tmn, b0, b1, yc0, yc1]
  · simp (disch := omega) only [gi_same, gi_ne_r, gi_ne_k, gi_sr_same, gi_sr_ne, gj_sj_same, gj_sj_ne_r, gj_sj_ne_k, gj_si, gi_sj, gj_sr, iwc, jwc, Int.toNat_natCast, tdn, tmn, b0, b1, yc0, yc1]
  · exact EqP.si (EqP.si h10 _ _ _ (by omega)) _ _ _ (by omega)
  · exact EqP.si (EqP.si h11 _ _ _ (pmA (by omega))) _ _ _ (pmA (by omega))
  · simp (disch := omega) only [gi_same, gi_ne_r, gi_ne_k, gi_sr_same, gi_sr_ne, gj_sj_same, gj_sj_ne_r, gj_sj_ne_k, gj_si, gi_sj, gj_sr, iwc, jwc, Int.toNat_natCast, tdn, tmn, b0, b1, yc0, yc1]; exact h12
  · simp (disch := omega) only [gi_same, gi_ne_r, gi_ne_k, gi_sr_same, gi_sr_ne, gj_sj_same, gj_sj_ne_r, gj_sj_ne_k, gj_si, gi_sj, gj_sr, iwc, jwc, Int.toNat_natCast, tdn, tmn, b0, b1, yc0, yc1]
    have := h2.1
    have := h2.2.1
    omega
  · simp (disch := omega) only [gi_same, gi_ne_r, gi_ne_k, gi_sr_same, gi_sr_ne, gj_sj_same, gj_sj_ne_r, gj_sj_ne_k, gj_si, gi_sj, gj_sr, iwc, jwc, Int.toNat_natCast, tdn, tmn, b0, b1, yc0, yc1]
    omega
theorem g_refuse (h : GS u b B N σ0 τ0 σ τ k p n) : W2 (f_Re_refuse σ) (f_Mo_misplaced τ) fun r σ' _ τ' => r = 0 ∧ BS u b σ0 τ0 σ' τ' := by
  have h' := h
  obtain ⟨⟨h1, h2, h3, h4, h5, h6, h7, h8, h9⟩, ⟨f1, f2, f3, f4⟩, h10, h11, h12⟩ := h
  unfold f_Re_refuse f_Mo_misplaced j_Re_refuse_17 j_Mo_misplaced_14
  have hf : ∀ c : Int, c ≠ 0 → W2 (ob (f_Re_fail c (gi σ 43 4) σ) fun r2 s2 => some (r2, s2)) (ob (f_Mo_fails c (gi τ 86 6) τ) fun r1 s1 => some (0, s1)) fun r σ' _ τ' => r = 0 ∧ BS u b σ0 τ0 σ' τ' := by
    intro c hc
    rw [h4, h6]
    refine w2_call (g_fail h' c hc p) ?_
    rintro r σ' r' τ' ⟨k1, k2⟩
    exact w2_d ⟨k1, k2⟩
  have ht : k = 1 ↔ gi τ 86 8 = 1 := by
    rcases h9 with ⟨e, e2, _⟩ | ⟨_, ⟨e, e2⟩ | ⟨e, e2, _⟩ | ⟨e, e2, _⟩ | ⟨e, e2, _⟩ | ⟨i, hi, e, e2, _⟩⟩ <;> omega
  clear h9
  by_cases hk : k = 1
  · refine w2_l (fun _ => wp_t (by omega)) (w2_r (fun _ => wp_t (by omega)) (hf 1 (by omega)))
  · refine w2_l (fun _ => wp_f (by omega)) (w2_r (fun _ => wp_f (by omega)) (hf 2 (by omega)))
theorem x_isGoodG (h : gi τ 86 4 = 0) : f_Mo_isGood τ = some (1, τ) := by unfold f_Mo_isGood; rw [if_pos h]
theorem x_isGoodB (h : gi τ 86 4 ≠ 0) : f_Mo_isGood τ = some (0, τ) := by unfold f_Mo_isGood; rw [if_neg h]
theorem g_expect (hu : u = 2 ∨ u = 22) (h : GS u b B N σ0 τ0 σ τ k p n) (a m : Int) (ha : k = a ∧ m = 1 ∨ k ≠ a ∧ m = 0) : W2 (f_Re_expect a σ) (f_Mo_must m τ) fun r σ' _ τ' => (r = 1 ∧ k = a ∧ ∃ k' p' n', GS u b B N σ0 τ0 σ' τ' k' p' n' ∧ n ≤ p' ∧ EqP PTc σ σ' ∧ EqP PTm τ τ') ∨ (r = 0 ∧ BS u b σ0 τ0 σ' τ') := by
  have hk := h.k2.1
  have hf := h.2.1.1
  unfold f_Re_expect f_Mo_must
  refine w2_r (fun _ => wp_eq (x_isGoodG hf)) (w2_r (fun _ => wp_f (by decide)) ?_)
  rcases ha with ⟨h1, h2⟩ | ⟨h1, h2⟩
  · refine w2_l (fun _ => wp_t (by omega)) (w2_r (fun _ => wp_f (by omega)) ?_)
    refine w2_call (g_move hu h) ?_
    rintro _ σ' _ τ' ⟨k', p', n', hG, hp, hE, hE'⟩
    exact w2_d (Or.inl ⟨rfl, h1, k', p', n', hG, hp, hE, hE'⟩)
  · refine w2_l (fun _ => wp_f (by omega)) (w2_r (fun _ => wp_t (by omega)) ?_)
    refine w2_call (g_refuse h) ?_
    rintro r σ' r' τ' ⟨k1, k2⟩
    exact w2_d (Or.inr ⟨k1, k2⟩)
theorem x_mustB (h : gi τ 86 4 ≠ 0) (m : Int) : f_Mo_must m τ = some (0, τ) := by
  unfold f_Mo_must
  rw [x_isGoodB h, ob_eq, if_pos rfl]
theorem x_numeralB (h : gi τ 86 4 ≠ 0) (lo hi : Int) : f_Mo_numeral lo hi τ = some (lo, τ) := by
  unfold f_Mo_numeral
  rw [x_isGoodB h, ob_eq, if_pos rfl]
theorem x_knownB (h : gi τ 86 4 ≠ 0) : f_Mo_known τ = some (0, τ) := by
  unfold f_Mo_known
  rw [x_isGoodB h, ob_eq, if_pos rfl]
theorem x_freshB (h : gi τ 86 4 ≠ 0) (i : Int) : f_Mo_fresh i τ = some (0, τ) := by
  unfold f_Mo_fresh
  rw [x_isGoodB h, ob_eq, if_pos rfl]
theorem x_afterB (h : gi τ 86 4 ≠ 0) (w lo hi : Int) : f_Mo_after w lo hi τ = some (lo, τ) := by
  obtain ⟨z, hz⟩ := x_isWordZ w τ
  unfold f_Mo_after
  rw [hz, ob_eq, x_mustB h, ob_eq, x_numeralB h, ob_eq]
/-- a number -/
theorem g_number (hu : u = 2 ∨ u = 22) (h : GS u b B N σ0 τ0 σ τ k p n) (lo hi : Int) : W2 (f_Re_readNumber lo hi σ) (f_Mo_numeral lo hi τ) fun r σ' v τ' => (r = 1 ∧ gi σ' 42 4 = v ∧ lo ≤ v ∧ v ≤ hi ∧ ∃ k' p' n', GS u b B N σ0 τ0 σ' τ' k' p' n' ∧ n ≤ p' ∧ EqP PS σ σ' ∧ EqP PTm τ τ') ∨ (r = 0 ∧ BS u b σ0 τ0 σ' τ') := by
  have h' := h
  obtain ⟨⟨h1, h2, h3, h4, h5, h6, h7, h8, h9⟩, ⟨f1, f2, f3, f4⟩, h10, h11, h12⟩ := h
  unfold f_Re_readNumber f_Mo_numeral
  refine w2_r (fun _ => wp_eq (x_isGoodG f1)) (w2_r (fun _ => wp_f (by decide)) ?_)
  have bad53 : ∀ s, gi s 86 4 ≠ 0 → j_Mo_numeral_53 lo s = some (lo, s) := by
    intro s hs
    unfold j_Mo_numeral_53 j_Mo_numeral_69
    rw [ol_eq, x_isGoodB hs, ob_eq, if_pos rfl, x_isGoodB hs, ob_eq, if_pos rfl]
  by_cases hk : k = 2
  · have hnum : gi τ 86 8 = 4 ∧ gi σ 43 5 = gi τ 86 9 := by
      rcases h9 with ⟨e, _⟩ | ⟨_, ⟨e, _⟩ | ⟨e, j1, j2, _⟩ | ⟨e, _⟩ | ⟨e, _⟩ | ⟨i, hi, e, _⟩⟩
      · omega
      · omega
      · exact ⟨j1, j2⟩
      · omega
      · omega
      · omega
    refine w2_l (fun _ => wp_t (by omega)) (w2_r (fun _ => wp_t hnum.1) ?_)
    unfold j_Mo_numeral_21
    refine w2_r (fun _ => wp_eq (x_isGoodG f1)) (w2_r (fun _ => wp_f (by decide)) ?_)
    rw [hnum.2]
    have bad : W2 (j_Re_readNumber_38 σ) (j_Mo_numeral_44 lo τ) fun r σ' v τ' => (r = 1 ∧ gi σ' 42 4 = v ∧ lo ≤ v ∧ v ≤ hi ∧ ∃ k' p' n', GS u b B N σ0 τ0 σ' τ' k' p' n' ∧ n ≤ p' ∧ EqP PS σ σ' ∧ EqP PTm τ τ') ∨ (r = 0 ∧ BS u b σ0 τ0 σ' τ') := by
      unfold j_Re_readNumber_38 j_Mo_numeral_44
      rw [h4, h6]
      refine w2_call (g_fail h' 4 (by omega) p) ?_
      rintro r σ' r' τ' ⟨k1, k2⟩
      rw [bad53 τ' k2.1.1]
      exact w2_d (Or.inr ⟨k1, k2⟩)
    by_cases hlo : gi τ 86 9 < lo
    · exact w2_l (fun _ => wp_t hlo) (w2_r (fun _ => wp_t hlo) bad)
    · refine w2_l (fun _ => wp_f hlo) (w2_r (fun _ => wp_f hlo) ?_)
      by_cases hhi : gi τ 86 9 ≤ hi
      · refine w2_l (fun _ z => wp_t hhi (wp_os z)) (w2_r (fun _ => wp_t hhi) ?_)
        unfold j_Mo_numeral_53
        refine w2_r (fun _ z => wp_ol (wp_eq (x_isGoodG f1) (wp_f (by decide) z))) ?_
        have hG4 := h'.wr (P := fun r k => r = 42 ∧ k = 4) (P' := fun _ _ => False) (EqP.si (EqP.rf _ _) 42 4 (gi τ 86 9) (by omega)) (EqP.rf _ _) (fun r k z => by omega) (fun r k z => z.elim)
        refine w2_call (g_move hu hG4) ?_
        rintro _ σ' _ τ' ⟨k', p', n', hG, hp, hE, hE'⟩
        unfold j_Mo_numeral_69
        refine w2_r (fun _ z => wp_eq (x_isGoodG hG.2.1.1) (wp_f (by decide) z)) (w2_d (Or.inl ⟨rfl, ?_, by omega, hhi, k', p', n', hG, hp, ?_, hE'⟩))
        · rw [hE.i _ _ (by omega), gi_same]
        · have : EqP PS σ (si σ 42 4 (gi τ 86 9)) := EqP.si (EqP.rf _ _) _ _ _ (by omega)
          exact this.tr (hE.mo (fun r k z => by omega))
      · exact w2_l (fun _ => wp_f hhi) (w2_r (fun _ => wp_f hhi) bad)
  · have hnum : gi τ 86 8 ≠ 4 := by
      rcases h9 with ⟨e, _⟩ | ⟨_, ⟨e, _⟩ | ⟨e, j1, j2, _⟩ | ⟨e, _⟩ | ⟨e, _⟩ | ⟨i, hi, e, _⟩⟩ <;> omega
    refine w2_l (fun _ => wp_f (by omega)) (w2_r (fun _ => wp_f hnum) ?_)
    refine w2_call (g_refuse h') ?_
    rintro r σ' r' τ' ⟨k1, k2⟩
    unfold j_Mo_numeral_21
    refine w2_r (fun _ z => wp_eq (x_isGoodB k2.1.1) (wp_t rfl z)) ?_
    rw [bad53 τ' k2.1.1]
    exact w2_d (Or.inr ⟨k1, k2⟩)
/-- a number behind a word -/
theorem g_behind (hu : u = 2 ∨ u = 22) (h : GS u b B N σ0 τ0 σ τ k p n) (j : Nat) (hj : j < 21) (lo hi : Int) {a m : Int} (ha : a = ((256 + j : Nat) : Int)) (hm : m = kwM j) : W2 (f_Re_readNumberBehind a lo hi σ) (f_Mo_after m lo hi τ) fun r σ' v τ' => (r = 1 ∧ k = ((256 + j : Nat) : Int) ∧ gi σ' 42 4 = v ∧ lo ≤ v ∧ v ≤ hi ∧ ∃ k' p' n', GS u b B N σ0 τ0 σ' τ' k' p' n' ∧ n ≤ p' ∧ EqP PS σ σ' ∧ EqP PTm τ τ') ∨ (r = 0 ∧ BS u b σ0 τ0 σ' τ') := by
  rw [ha, hm]
  unfold f_Re_readNumberBehind f_Mo_after
  refine w2_r (fun _ => wp_eq (x_isWord h.1 j hj)) ?_
  refine w2_call (g_expect hu h ((256 + j : Nat) : Int) _ ?_) ?_
  · by_cases e : k = ((256 + j : Nat) : Int)
    · rw [if_pos e]; exact Or.inl ⟨e, rfl⟩
    · rw [if_neg e]; exact Or.inr ⟨e, rfl⟩
  · rintro r σ' r' τ' (⟨rfl, hk, k', p', n', hG, hp, hE, hE'⟩ | ⟨rfl, hB⟩)
    · refine w2_l (fun _ => wp_f (by decide)) (w2_call (g_number hu hG lo hi) ?_)
      rintro r σ2 v τ2 (⟨rfl, hv, h1, h2, k2, p2, n2, hG2, hp2, hE2, hE2'⟩ | ⟨rfl, hB⟩)
      · have := hG.k2
        exact w2_l (fun _ => wp_f (by decide)) (w2_d (Or.inl ⟨rfl, hk, hv, h1, h2, k2, p2, n2, hG2, by omega, EqP.tr (hE.mo (fun r k z => by omega)) hE2, hE'.tr hE2'⟩))
      · exact w2_l (fun _ => wp_t rfl) (w2_d (Or.inr ⟨rfl, hB⟩))
    · refine w2_l (fun _ => wp_t rfl) (w2_r (fun _ => wp_eq (x_numeralB hB.1.1 lo hi)) (w2_d (Or.inr ⟨rfl, hB⟩)))
end
