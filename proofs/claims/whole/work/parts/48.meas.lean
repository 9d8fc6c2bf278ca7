/-! all couples in their order -/
theorem loopN {β : Type} (n : Nat) (G : Nat → Nat → β → SS → OO) (f : Nat → β → β) (I : Nat → β → SS → Prop) (Q : Int → SS → Prop)
    (hs : ∀ fu c st σ, c < n → I c st σ → (∀ σ', I (c + 1) (f c st) σ' → Wp (G fu (c + 1) (f c st) σ') Q) → Wp (G (fu + 1) c st σ) Q) :
    ∀ (m c fu : Nat) (st : β) (σ : SS), c + m = n → m < fu → I c st σ → (∀ fu' σ', I n ((List.range' c m).foldl (fun s x => f x s) st) σ' → Wp (G (fu' + 1) n ((List.range' c m).foldl (fun s x => f x s) st) σ') Q) → Wp (G fu c st σ) Q := by
  intro m
  induction m with
  | zero =>
    intro c fu st σ hc hfu hI hf
    obtain ⟨fu, rfl⟩ : ∃ f, fu = f + 1 := ⟨fu - 1, by omega⟩
    obtain rfl : c = n := by omega
    exact hf fu σ hI
  | succ m ih =>
    intro c fu st σ hc hfu hI hf
    obtain ⟨fu, rfl⟩ : ∃ f, fu = f + 1 := ⟨fu - 1, by omega⟩
    refine hs fu c st σ (by omega) hI (fun σ' hI' => ?_)
    exact ih (c + 1) fu (f c st) σ' (by omega) (by omega) hI' hf
def cpB (ld : SS) (t : Nat × Nat × Nat) : Bool := decide ((t.1 : Int) < gi ld 2 9) && decide ((t.2.1 : Int) < gi ld 2 9) && decide (t.1 ≠ t.2.1) && decide ((t.2.2 : Int) < gi ld 2 12)
theorem cpB_iff {ld : SS} (hok : LdOK ld) (a b m : Nat) : cpB ld (a, b, m) = true ↔ CPL ld a b m := by
  have s6 := hok.2.2.1
  have m6 := hok.2.2.2.1
  unfold cpB CPL
  simp only [Bool.and_eq_true, decide_eq_true_eq]
  omega
def dC (c : Nat) : Nat × Nat × Nat := (c / 100, c / 10 % 10, c % 10)
def dM (c : Nat) : Nat × Nat × Nat := (c / 36, c / 6 % 6, c % 6)
def TRp : List (Nat × Nat × Nat) := (List.range' 0 216).map dM
def sm6 (t : Nat × Nat × Nat) : Bool := decide (t.2.1 < 6) && decide (t.2.2 < 6)
theorem dC_all : ((List.range' 0 600).map dC).filter sm6 = TRp := by decide +kernel
theorem dM_all : TRp.filter sm6 = TRp := by decide +kernel
noncomputable def cps (ld : SS) : List (Nat × Nat × Nat) := TRp.filter (cpB ld)
theorem filt_sub {α : Type} (P S : α → Bool) (h : ∀ t, P t = true → S t = true) (l : List α) : (l.filter S).filter P = l.filter P := by
  rw [List.filter_filter]
  congr 1
  funext t
  by_cases hp : P t = true
  · simp [hp, h t hp]
  · simp [hp]
theorem cpB_sm {ld : SS} (hok : LdOK ld) (t : Nat × Nat × Nat) (h : cpB ld t = true) : sm6 t = true := by
  obtain ⟨a, b, m⟩ := t
  have := (cpB_iff hok a b m).mp h
  unfold CPL at this
  unfold sm6
  simp
  omega
theorem fold_if {α β γ : Type} (d : α → γ) (P : γ → Bool) (g : γ → β → β) : ∀ (l : List α) (s : β), l.foldl (fun s c => if P (d c) = true then g (d c) s else s) s = ((l.map d).filter P).foldl (fun s t => g t s) s := by
  intro l
  induction l with
  | nil => intro s; rfl
  | cons c l ih =>
    intro s
    rw [List.foldl_cons, List.map_cons, ih]
    by_cases h : P (d c) = true
    · rw [if_pos h, List.filter_cons_of_pos h, List.foldl_cons]
    · rw [if_neg h, List.filter_cons_of_neg h]
theorem foldC {β : Type} {ld : SS} (hok : LdOK ld) (g : Nat × Nat × Nat → β → β) (s : β) : (List.range' 0 600).foldl (fun s c => if cpB ld (dC c) = true then g (dC c) s else s) s = (cps ld).foldl (fun s t => g t s) s := by
  rw [fold_if dC (cpB ld) g, ← filt_sub (cpB ld) sm6 (cpB_sm hok), dC_all]
  rfl
theorem foldM {β : Type} {ld : SS} (g : Nat × Nat × Nat → β → β) (s : β) : (List.range' 0 216).foldl (fun s c => if cpB ld (dM c) = true then g (dM c) s else s) s = (cps ld).foldl (fun s t => g t s) s := by
  rw [fold_if dM (cpB ld) g]
  rfl
theorem x_isCoupleC {ld σ : SS} (hok : LdOK ld) (hL : LC ld σ) (c : Nat) (hc : c < 600) : f_La_isCouple 2 c σ = some (if cpB ld (dC c) = true then 1 else 0, σ) := by
  have s6 := hok.2.2.1
  have m6 := hok.2.2.2.1
  unfold f_La_isCouple
  rw [if_neg (by omega), tdn _ (by omega), tdn _ (by omega), tmn _ (by omega), tmn _ (by omega)]
  have ea : (c : Int) / 100 = ((c / 100 : Nat) : Int) := by omega
  have eb : (c : Int) / 10 % 10 = ((c / 10 % 10 : Nat) : Int) := by omega
  have em : (c : Int) % 10 = ((c % 10 : Nat) : Int) := by omega
  rw [ea, eb, em]
  have hiff := cpB_iff hok (c / 100) (c / 10 % 10) (c % 10)
  by_cases h : cpB ld (dC c) = true
  · have hcp := hiff.mp h
    rw [(x_couple hok hL _ _ _).1 (by unfold CPL at hcp; unfold cplB; omega), ob_eq, if_pos (by omega), if_pos h]
  · have hcp : ¬ CPL ld (c / 100) (c / 10 % 10) (c % 10) := fun z => h (hiff.mpr z)
    rw [(x_couple hok hL _ _ _).2 (by unfold CPL at hcp; unfold cplB; omega), ob_eq, if_neg (by omega), if_neg h]
theorem x_canBe {ld σ : SS} (hok : LdOK ld) {bk : Nat} (hM : LM ld σ bk) (c : Nat) (hc : c < 216) : f_Mo_canBe c σ = some (if cpB ld (dM c) = true then 1 else 0, σ) := by
  have s6 := hok.2.2.1
  have m6 := hok.2.2.2.1
  unfold f_Mo_canBe f_Mo_firstOf f_Mo_otherOf f_Mo_matterOf
  rw [ob_eq, ob_eq, ob_eq, tdn _ (by omega), tdn _ (by omega), tmn _ (by omega), tmn _ (by omega)]
  have ea : (c : Int) / 36 = ((c / 36 : Nat) : Int) := by omega
  have eb : (c : Int) / 6 % 6 = ((c / 6 % 6 : Nat) : Int) := by omega
  have em : (c : Int) % 6 = ((c % 6 : Nat) : Int) := by omega
  rw [ea, eb, em]
  have hiff := cpB_iff hok (c / 36) (c / 6 % 6) (c % 6)
  by_cases h : cpB ld (dM c) = true
  · have hcp := hiff.mp h
    rw [(x_isCoupleM hok hM _ _ _).1 (by unfold CPL at hcp; unfold cplB; omega), ob_eq, if_pos h]
  · have hcp : ¬ CPL ld (c / 36) (c / 6 % 6) (c % 6) := fun z => h (hiff.mpr z)
    rw [(x_isCoupleM hok hM _ _ _).2 (by unfold CPL at hcp; unfold cplB; omega), ob_eq, if_neg h]
theorem x_beginBy {ld σ : SS} (hok : LdOK ld) {bk : Nat} (hM : LM ld σ bk) (c : Nat) (hc : CPL ld (c / 36) (c / 6 % 6) (c % 6)) : Wp (f_Mo_beginBy c σ) fun _ τ => TM τ 119 (c / 36) (c / 6 % 6) (c % 6) (begP ld (c % 6)) ∧ EqP (PMk 119) σ τ := by
  unfold f_Mo_beginBy f_Mo_firstOf f_Mo_otherOf f_Mo_matterOf
  rw [ob_eq, ob_eq, ob_eq, tdn _ (by omega), tdn _ (by omega), tmn _ (by omega), tmn _ (by omega)]
  have ea : (c : Int) / 36 = ((c / 36 : Nat) : Int) := by omega
  have eb : (c : Int) / 6 % 6 = ((c / 6 % 6 : Nat) : Int) := by omega
  have em : (c : Int) % 6 = ((c % 6 : Nat) : Int) := by omega
  rw [ea, eb, em]
  refine wp_call (x_beginM hok hM (Or.inr rfl) hc) ?_
  rintro _ τ h
  exact wp_some h
/-! how many quarrels are begun on ways -/
noncomputable def msW (ld : SS) (tp : Nat → Int) (a b m y e : Nat) : Nat → Int → Option QQ → Nat → Option QQ × Nat
  | 0, _, s, c => (s, c)
  | r + 1, k, some q, c => msW ld tp a b m y e r (k + 1) (if ovB (wayP ld tp a b y e (k + 1) q) then none else some (wayP ld tp a b y e (k + 1) q)) c
  | r + 1, k, none, c => msW ld tp a b m y e r (k + 1) (if ovB (wayP ld tp a b y e (k + 1) (begP ld m)) then none else some (wayP ld tp a b y e (k + 1) (begP ld m))) (c + 1)
theorem msW_none (ld : SS) (tp : Nat → Int) (a b m y e r : Nat) (k : Int) (c : Nat) : msW ld tp a b m y e (r + 1) k none c = msW ld tp a b m y e (r + 1) k (some (begP ld m)) (c + 1) := by rw [msW, msW]
noncomputable def msG (ld : SS) (tp : Nat → Int) (a b m : Nat) (wf ef : Nat → Nat) : Nat → Nat → Int → Option QQ → Nat → Nat
  | 0, _, _, _, c => c
  | r + 1, i, k, s, c => msG ld tp a b m wf ef r (i + 1) 0 (msW ld tp a b m (wf i) (ef i) (gi ld 8 (wf i) - k).toNat k s c).1 (msW ld tp a b m (wf i) (ef i) (gi ld 8 (wf i) - k).toNat k s c).2
theorem msW_mil (ld : SS) (tp : Nat → Int) (a b m y e : Nat) : ∀ (r : Nat) (k : Int) (q : QQ) (c : Nat), msW ld tp a b m y e r k (some q) c = if (milP ld tp a b y e r k q).1 = true then msW ld tp a b m y e (r - ((milP ld tp a b y e r k q).2.1 - k).toNat) (milP ld tp a b y e r k q).2.1 none c else (some (milP ld tp a b y e r k q).2.2, c) := by
  intro r
  induction r with
  | zero => intro k q c; rw [milP, msW]; simp
  | succ r ih =>
    intro k q c
    rw [msW, milP]
    by_cases h : ovB (wayP ld tp a b y e (k + 1) q) = true
    · rw [if_pos h, if_pos h, if_pos rfl]
      congr 1
      dsimp only
      omega
    · rw [if_neg h, if_neg h, ih]
      have hk := milP_k (ld := ld) (tp := tp) (a := a) (b := b) (y := y) (e := e) r (k + 1) (wayP ld tp a b y e (k + 1) q)
      by_cases h2 : (milP ld tp a b y e r (k + 1) (wayP ld tp a b y e (k + 1) q)).1 = true
      · rw [if_pos h2, if_pos h2]
        congr 1
        omega
      · rw [if_neg h2, if_neg h2]
noncomputable def rmP (ld : SS) (wf : Nat → Nat) : Nat → Nat → Int → Nat
  | 0, _, _ => 0
  | r + 1, i, k => (gi ld 8 (wf i) - k).toNat + rmP ld wf r (i + 1) 0
theorem msG_go (ld : SS) (tp : Nat → Int) (a b m : Nat) (wf ef : Nat → Nat) : ∀ (r i : Nat) (k : Int) (q : QQ) (c : Nat), (r ≠ 0 → 0 ≤ k ∧ k ≤ gi ld 8 (wf i)) → (∀ j, i ≤ j → j < i + r → 0 ≤ gi ld 8 (wf j)) →
    ((goP ld tp a b wf ef r i k q).1 = false → msG ld tp a b m wf ef r i k (some q) c = c) ∧
    ((goP ld tp a b wf ef r i k q).1 = true → msG ld tp a b m wf ef r i k (some q) c = msG ld tp a b m wf ef (r + i - (goP ld tp a b wf ef r i k q).2.1) (goP ld tp a b wf ef r i k q).2.1 (goP ld tp a b wf ef r i k q).2.2.1 none c ∧ i ≤ (goP ld tp a b wf ef r i k q).2.1 ∧ (goP ld tp a b wf ef r i k q).2.1 < i + r ∧ 0 ≤ (goP ld tp a b wf ef r i k q).2.2.1 ∧ (goP ld tp a b wf ef r i k q).2.2.1 ≤ gi ld 8 (wf (goP ld tp a b wf ef r i k q).2.1) ∧ rmP ld wf (r + i - (goP ld tp a b wf ef r i k q).2.1) (goP ld tp a b wf ef r i k q).2.1 (goP ld tp a b wf ef r i k q).2.2.1 < rmP ld wf r i k) := by
  intro r
  induction r with
  | zero => intro i k q c _ _; exact ⟨fun _ => rfl, fun z => by simp [goP] at z⟩
  | succ r ih =>
    intro i k q c hk hl
    have hk' := hk (by omega)
    have hmk := milP_k (ld := ld) (tp := tp) (a := a) (b := b) (y := wf i) (e := ef i) (gi ld 8 (wf i) - k).toNat k q
    rw [goP, msG, msW_mil]
    by_cases h : (milP ld tp a b (wf i) (ef i) (gi ld 8 (wf i) - k).toNat k q).1 = true
    · rw [if_pos h, if_pos h]
      refine ⟨fun z => by simp at z, fun _ => ?_⟩
      dsimp only
      generalize hM : milP ld tp a b (wf i) (ef i) (gi ld 8 (wf i) - k).toNat k q = M at h hmk
      have e1 : (gi ld 8 (wf i) - k).toNat - (M.2.1 - k).toNat = (gi ld 8 (wf i) - M.2.1).toNat := by omega
      refine ⟨?_, by omega, by omega, by omega, by omega, ?_⟩
      · rw [show r + 1 + i - i = r + 1 by omega, msG, e1]
      · rw [show r + 1 + i - i = r + 1 by omega, rmP, rmP]
        have := hmk.2.2 h
        omega
    · rw [if_neg h, if_neg h]
      have := ih (i + 1) 0 (milP ld tp a b (wf i) (ef i) (gi ld 8 (wf i) - k).toNat k q).2.2 c (fun hr => ⟨by omega, hl (i + 1) (by omega) (by omega)⟩) (fun j h1 h2 => hl j (by omega) (by omega))
      refine ⟨fun z => this.1 z, fun z => ?_⟩
      obtain ⟨t1, t2, t3, t4, t5, t6⟩ := this.2 z
      rw [show r + 1 + i = r + (i + 1) by omega]
      refine ⟨t1, by omega, by omega, t4, t5, ?_⟩
      rw [rmP]
      omega
/-- behind a quarrel that ended ahead of the end a new one is begun -/
theorem msG_new {ld : SS} (tp : Nat → Int) (a b m : Nat) (wf ef : Nat → Nat) : ∀ (r i : Nat) (k : Int) (c : Nat), (r ≠ 0 → 0 ≤ k ∧ k ≤ gi ld 8 (wf i)) → (∀ j, i ≤ j → j < i + r → 1 ≤ gi ld 8 (wf j)) → r ≠ 0 → ¬ (r = 1 ∧ gi ld 8 (wf i) ≤ k) → msG ld tp a b m wf ef r i k none c = msG ld tp a b m wf ef r i k (some (begP ld m)) (c + 1) := by
  intro r
  induction r with
  | zero => intro i k c _ _ h0; exact absurd rfl h0
  | succ r ih =>
    intro i k c hk hl _ hne
    have hk' := hk (by omega)
    rw [msG, msG]
    by_cases hkl : gi ld 8 (wf i) ≤ k
    · rw [show (gi ld 8 (wf i) - k).toNat = 0 by omega, msW, msW]
      dsimp only
      exact ih (i + 1) 0 c (fun hr => ⟨by omega, by have := hl (i + 1) (by omega) (by omega); omega⟩) (fun j h1 h2 => hl j (by omega) (by omega)) (by omega) (fun z => by have := hl (i + 1) (by omega) (by omega); omega)
    · obtain ⟨n, hn⟩ : ∃ n, (gi ld 8 (wf i) - k).toNat = n + 1 := ⟨(gi ld 8 (wf i) - k).toNat - 1, by omega⟩
      rw [hn, msW, msW]
theorem x_isAtEnd {ld σ : SS} (hok : LdOK ld) (hL : LC ld σ) {n p0 : Nat} {wf ef : Nat → Nat} (hp : Pth ld n wf ef p0) (hR : RC σ 62 n wf ef p0) {i : Nat} {k : Int} (hi : i < n) (g2 : gi σ 75 2 = i) (g3 : gi σ 75 3 = k) : f_St_isAtEnd 75 62 σ = some (if i = n - 1 ∧ gi ld 8 (wf i) ≤ k then 1 else 0, σ) := by
  have hn := hp.2.1
  obtain ⟨r1, r2, r3⟩ := hR
  unfold f_St_isAtEnd
  rw [r1, ol_eq, iwc (by omega) (by omega), g2, if_neg (by omega), if_neg (by omega), if_pos (by omega)]
  by_cases h : (i : Int) = (n : Int) - 1
  · rw [if_pos h, oc_pos (by omega), show ((n : Int) - 1).toNat = n - 1 by omega, (r3 (n - 1) (by omega)).1, x_lengthOf hok hL 75 (wf (n - 1)) (hp.2.2 (n - 1) (by omega)).1, ob_eq, g3]
    have hin : i = n - 1 := by omega
    rw [← hin]
    by_cases h2 : k < gi ld 8 (wf i)
    · rw [if_pos h2, if_neg (by omega)]
    · rw [if_neg h2, if_pos (by omega)]
  · rw [if_neg h, if_neg (by omega)]
theorem rmP_le {ld : SS} (hok : LdOK ld) {n p0 : Nat} {wf ef : Nat → Nat} (hp : Pth ld n wf ef p0) : ∀ (r i : Nat) (k : Int), i + r ≤ n → 0 ≤ k → rmP ld wf r i k ≤ 40 * r := by
  intro r
  induction r with
  | zero => intro i k _ _; exact Nat.le_refl _
  | succ r ih =>
    intro i k hi hk
    rw [rmP]
    have := ih (i + 1) 0 (by omega) (by omega)
    have := (hok.wy (hp.2.2 i (by omega)).1).2.2.2.1
    omega
theorem x_measure_loop {ld : SS} (hok : LdOK ld) {tp : Nat → Int} {a b m : Nat} (hc : CPL ld a b m) {n p0 : Nat} {wf ef : Nat → Nat} (hp : Pth ld n wf ef p0) {code : Int} (hcode : code = 100 * (a : Int) + 10 * (b : Int) + (m : Int)) (σ0 : SS) :
    ∀ (R i : Nat) (k : Int) (c fu : Nat) (σ : SS) (q : QQ), rmP ld wf (n - i) i k ≤ R → c + R ≤ 900 → R < fu → i ≤ n → (i ≠ n → 0 ≤ k ∧ k ≤ gi ld 8 (wf i)) → LC ld σ → (∀ j, j < 12 → gi σ 47 j = tp j) → RC σ 62 n wf ef p0 → EqP (PSt 75) σ0 σ → TC σ 76 a b m q → QOK q → ¬ overP q → gi σ 75 2 = i → (i ≠ n → gi σ 75 3 = k) → (i = n → gi σ 75 3 = 0) →
    Wp (l_Fi_measurePath_10 code fu c σ) fun r τ => r = (msG ld tp a b m wf ef (n - i) i k (some q) c : Nat) ∧ EqP (PSt 75) σ0 τ := by
  have hn := hp.2.1
  intro R
  induction R using Nat.strongRecOn with
  | _ R ihR =>
    intro i k c fu σ q hR hcR hfu hin hk hL htp hRC hE hT hq ho g2 g3 g30
    obtain ⟨fu, rfl⟩ : ∃ f, fu = f + 1 := ⟨fu - 1, by omega⟩
    rw [l_Fi_measurePath_10]
    refine wp_f (by omega) ?_
    unfold f_St_goOn
    refine wp_call (x_go0 (t := 75) (u2 := 62) hok (by omega) (by omega) rfl (tp := tp) hc hp σ0 (n - i) i k FU σ q (by omega) (fun h => hk (by omega)) (by unfold FU; omega) hL htp hRC hE hT hq ho g2 (fun h => g3 (by omega)) (fun h => g30 (by omega))) ?_
    rintro v s5 ⟨hv, hT5, h52, h53, hE5⟩
    have hmg := msG_go ld tp a b m wf ef (n - i) i k q c (fun h => hk (by omega)) (fun j h1 h2 => by have := (hok.wy (hp.2.2 j (by omega)).1).2.2.2.1; omega)
    have g : ∀ r' k', ¬ PSt 75 r' k' → gi s5 r' k' = gi σ r' k' := fun r' k' h => by rw [hE5.i r' k' h, hE.i r' k' h]
    have hL5 : LC ld s5 := fun r' k' h1 h2 h3 => by rw [g _ _ (by omega)]; exact hL r' k' h1 h2 h3
    have hRC5 : RC s5 62 n wf ef p0 := ⟨by rw [g _ _ (by omega)]; exact hRC.1, by rw [g _ _ (by omega)]; exact hRC.2.1, fun j hj => by rw [g _ _ (by omega), g _ _ (by omega)]; exact hRC.2.2 j hj⟩
    generalize goP ld tp a b wf ef (n - i) i k q = G at hv hT5 h52 h53 hmg
    by_cases hG : G.1 = true
    · rw [if_pos hG] at hv
      obtain ⟨t1, t2, t3, t4, t5, t6⟩ := hmg.2 hG
      rw [t1]
      have hi1 : n - i + i - G.2.1 = n - G.2.1 := by omega
      rw [hi1] at t6 ⊢
      refine wp_f (by omega) ?_
      refine wp_eq (x_isAtEnd hok hL5 hp hRC5 (i := G.2.1) (by omega) h52 h53) ?_
      by_cases hend : G.2.1 = n - 1 ∧ gi ld 8 (wf G.2.1) ≤ G.2.2.1
      · rw [if_pos hend]
        refine wp_f (by decide) (wp_some ⟨?_, hE5⟩)
        rw [show n - G.2.1 = 1 by omega, msG, show (gi ld 8 (wf G.2.1) - G.2.2.1).toNat = 0 by omega, msW, msG]
      · rw [if_neg hend]
        refine wp_t rfl ?_
        refine wp_call (x_begin (t := 76) hok hL5 (by omega) hc hcode) ?_
        rintro _ s13 ⟨hT13, hE13⟩
        obtain ⟨bq1, bq2⟩ := begP_ok hok hc.2.2.2.1
        rw [show iw ((c : Int) + 1) = ((c + 1 : Nat) : Int) by rw [iwc (by omega) (by omega)]; omega]
        rw [msG_new tp a b m wf ef (n - G.2.1) G.2.1 G.2.2.1 c (fun _ => ⟨t4, t5⟩) (fun j h1 h2 => (hok.wy (hp.2.2 j (by omega)).1).2.2.2.1.1) (by omega) (fun z => hend ⟨by omega, z.2⟩)]
        exact ihR (R - 1) (by omega) G.2.1 G.2.2.1 (c + 1) fu s13 (begP ld m) (by omega) (by omega) (by omega) (by omega) (fun _ => ⟨t4, t5⟩) (hL5.of hE13 (fun r k z => by omega)) (fun j hj => by rw [hE13.i _ _ (by omega), g _ _ (by omega)]; exact htp j hj) ⟨by rw [hE13.i _ _ (by omega)]; exact hRC5.1, by rw [hE13.i _ _ (by omega)]; exact hRC5.2.1, fun j hj => by rw [hE13.i _ _ (by omega), hE13.i _ _ (by omega)]; exact hRC5.2.2 j hj⟩ (hE5.tr (hE13.mo (fun r k h => by omega))) hT13 bq1 bq2 (by rw [hE13.i _ _ (by omega)]; exact h52) (fun _ => by rw [hE13.i _ _ (by omega)]; exact h53) (fun h => by omega)
    · rw [if_neg hG] at hv
      refine wp_t hv (wp_some ⟨?_, hE5⟩)
      rw [hmg.1 (by simpa using hG)]
theorem x_measurePath {ld σ : SS} (hok : LdOK ld) (hL : LC ld σ) {tp : Nat → Int} (htp : ∀ j, j < 12 → gi σ 47 j = tp j) {a b m : Nat} (hc : CPL ld a b m) {n p0 : Nat} {wf ef : Nat → Nat} (hp : Pth ld n wf ef p0) (hn0 : n ≠ 0) (hR : RC σ 62 n wf ef p0) {code : Int} (hcode : code = 100 * (a : Int) + 10 * (b : Int) + (m : Int)) : Wp (f_Fi_measurePath code σ) fun r τ => r = (msG ld tp a b m wf ef n 0 0 none 0 : Nat) ∧ EqP (PSt 75) σ τ := by
  have hn := hp.2.1
  unfold f_Fi_measurePath
  refine wp_call (x_stBegin (t := 75) hok hL (by omega) hc hcode) ?_
  rintro _ s2 ⟨hT2, h22, h23, hE2⟩
  obtain ⟨bq1, bq2⟩ := begP_ok hok hc.2.2.2.1
  have l8 : ∀ j, j < n → 1 ≤ gi ld 8 (wf j) ∧ gi ld 8 (wf j) ≤ 40 := fun j hj => (hok.wy (hp.2.2 j hj).1).2.2.2.1
  rw [msG_new tp a b m wf ef n 0 0 0 (fun _ => ⟨by omega, by have := l8 0 (by omega); omega⟩) (fun j _ h2 => (l8 j (by omega)).1) hn0 (fun z => by have := l8 0 (by omega); omega)]
  have hrm := rmP_le hok hp n 0 0 (by omega) (by omega)
  have z := x_measure_loop hok (tp := tp) hc hp hcode σ 480 0 0 1 FU s2 (begP ld m) (by rw [Nat.sub_zero]; omega) (by omega) (by unfold FU; omega) (by omega) (fun _ => ⟨by omega, by have := l8 0 (by omega); omega⟩) (hL.of hE2 (fun r k z => by omega)) (fun j hj => by rw [hE2.i _ _ (by omega)]; exact htp j hj) ⟨by rw [hE2.i _ _ (by omega)]; exact hR.1, by rw [hE2.i _ _ (by omega)]; exact hR.2.1, fun j hj => by rw [hE2.i _ _ (by omega), hE2.i _ _ (by omega)]; exact hR.2.2 j hj⟩ hE2 hT2 bq1 bq2 h22 (fun _ => h23) (fun _ => h23)
  rw [Nat.sub_zero] at z
  exact z
/-- the class's path of one way -/
theorem x_setPath {ld σ : SS} (hok : LdOK ld) (hL : LC ld σ) (y : Nat) (hy : (y : Int) < gi ld 2 4) (back : Int) : Wp (f_Fi_setPath y back σ) fun _ τ => RC τ 62 1 (fun _ => y) (fun _ => ((if back = 0 then gi ld 7 y else gi ld 6 y)).toNat) ((if back = 0 then gi ld 6 y else gi ld 7 y)).toNat ∧ Pth ld 1 (fun _ => y) (fun _ => ((if back = 0 then gi ld 7 y else gi ld 6 y)).toNat) ((if back = 0 then gi ld 6 y else gi ld 7 y)).toNat ∧ EqP (fun r _ => r = 62 ∨ r = 63 ∨ r = 64) σ τ := by
  have l4 := hok.2.1
  obtain ⟨w1, w2, w3, w4, w5⟩ := hok.wy hy
  have go : ∀ p e : Nat, (gi ld 6 y = p ∧ gi ld 7 y = e ∨ gi ld 7 y = p ∧ gi ld 6 y = e) → Wp (j_Fi_setPath_40 y p σ) fun _ τ => RC τ 62 1 (fun _ => y) (fun _ => e) p ∧ Pth ld 1 (fun _ => y) (fun _ => e) p ∧ EqP (fun r _ => r = 62 ∨ r = 63 ∨ r = 64) σ τ := by
    intro p e hpe
    unfold j_Fi_setPath_40 f_Ro_reset
    refine wp_ob (wp_os (wp_os (wp_some ?_)))
    have hE1 : EqP (fun r _ => r = 62 ∨ r = 63 ∨ r = 64) σ (si (si σ 62 2 0) 62 3 p) := by repeat (first | exact EqP.rf _ _ | (refine EqP.si ?_ _ _ _ (by omega)) | (refine EqP.sj ?_ _ _ _ (by omega)) | (refine EqP.sr ?_ _ _ (fun k => by omega)))
    have hp0 : Pth ld 0 (fun _ => y) (fun _ => e) p := ⟨by omega, by omega, fun i hi => by omega⟩
    have hR0 : RC (si (si σ 62 2 0) 62 3 (p : Int)) 62 0 (fun _ => y) (fun _ => e) p := ⟨by simp (disch := omega) only [gi_same, gi_ne_r, gi_ne_k, gi_sr_same, gi_sr_ne, gj_sj_same, gj_sj_ne_r, gj_sj_ne_k, gj_si, gi_sj, gj_sr, iwc, jwc, Int.toNat_natCast, tdn, tmn, b0, b1, yc0, yc1]; rfl, by simp (disch := omega) only [gi_same, gi_ne_r, gi_ne_k, gi_sr_same, gi_sr_ne, gj_sj_same, gj_sj_ne_r, gj_sj_ne_k, gj_si, gi_sj, gj_sr, iwc, jwc, Int.toNat_natCast, tdn, tmn, b0, b1, yc0, yc1]; rfl, fun i hi => by omega⟩
    have hot : oth ld y (pend 0 (fun _ => e) p : Nat) = e := by
      unfold oth pend
      rw [if_pos ⟨by omega, hy⟩, Int.toNat_natCast, if_pos rfl]
      rcases hpe with ⟨k1, k2⟩ | ⟨k1, k2⟩
      · rw [if_pos k1]; exact k2
      · rw [if_neg (by omega), if_pos k1]; exact k2
    refine wp_call ((x_append hok (hL.of hE1 (fun r k z => by omega)) 62 (by omega) hp0 hR0 y).1 ⟨by omega, by rw [hot]; omega⟩) ?_
    rintro _ τ ⟨_, hR, hE⟩
    rw [hot, Int.toNat_natCast, Int.toNat_natCast] at hR
    refine wp_some ⟨⟨hR.1, ?_, ?_⟩, ⟨by omega, by omega, fun i hi => ?_⟩, hE1.tr (hE.mo (fun r k h => by omega))⟩
    · rw [hR.2.1]
      unfold pend wfx
      simp
    · intro i hi
      have := hR.2.2 i hi
      unfold wfx at this
      rw [if_pos (by omega), if_pos (by omega)] at this
      exact this
    · refine ⟨hy, (show (e : Int) < gi ld 2 0 by omega), ?_⟩
      rw [if_pos (show i = 0 by omega)]
      rcases hpe with ⟨k1, k2⟩ | ⟨k1, k2⟩
      · exact Or.inl ⟨k1, k2⟩
      · exact Or.inr ⟨k1, k2⟩
  unfold f_Fi_setPath
  refine wp_b1 (x_isWayC hok hL y) ⟨by omega, hy⟩ (wp_f (by decide) ?_)
  by_cases hb : back = 0
  · refine wp_t hb (wp_oc (by omega) ?_)
    rw [if_pos hb, if_pos hb]
    rw [Int.toNat_natCast, hL 6 y (by omega) (by omega) (by omega), show gi ld 6 y = ((gi ld 6 y).toNat : Nat) by omega]
    exact go _ _ (Or.inl ⟨by omega, by omega⟩)
  · refine wp_f hb (wp_oc (by omega) ?_)
    rw [if_neg hb, if_neg hb]
    rw [Int.toNat_natCast, hL 7 y (by omega) (by omega) (by omega), show gi ld 7 y = ((gi ld 7 y).toNat : Nat) by omega]
    exact go _ _ (Or.inr ⟨by omega, by omega⟩)
/-! the reference's measure -/
abbrev PMs : Nat → Nat → Prop := fun r k => r = 119 ∨ r = 117 ∨ r = 86 ∧ (46 ≤ k ∧ k ≤ 51 ∨ k = 68)
def OM (ld σ : SS) (a b m : Nat) (s : Option QQ) : Prop := match s with
  | none => True
  | some q => TM σ 119 a b m q ∧ QOK q ∧ ¬ overP q
def ofl (s : Option QQ) : Int := match s with
  | none => 0
  | some _ => 1
theorem x_measured_loop {ld : SS} (hok : LdOK ld) {bk : Nat} {tp : Nat → Int} (c : Nat) (hc : CPL ld (c / 36) (c / 6 % 6) (c % 6)) (y e : Nat) (hy : (y : Int) < gi ld 2 4) (he : (e : Int) < gi ld 2 0) (σ0 : SS) :
    ∀ (r : Nat) (k : Int) (fu : Nat) (σ : SS) (s : Option QQ) (n : Nat), k + r = gi ld 8 y → 0 ≤ k → r < fu → n + r ≤ 900 → LM ld σ bk → TPM ld σ bk tp → EqP PMs σ0 σ → OM ld σ (c / 36) (c / 6 % 6) (c % 6) s → gi σ 86 68 = n →
    Wp (l_Mo_measured_15 c y e fu (ofl s) (k + 1) σ) fun v τ => v = ofl (msW ld tp (c / 36) (c / 6 % 6) (c % 6) y e r k s n).1 ∧ OM ld τ (c / 36) (c / 6 % 6) (c % 6) (msW ld tp (c / 36) (c / 6 % 6) (c % 6) y e r k s n).1 ∧ gi τ 86 68 = (msW ld tp (c / 36) (c / 6 % 6) (c % 6) y e r k s n).2 ∧ EqP PMs σ0 τ := by
  have l8 := (hok.wy hy).2.2.2.1
  have l4 := hok.2.1
  have l0 := hok.1
  have hcalm := (hok.pl he).1.1
  intro r
  induction r with
  | zero =>
    intro k fu σ s n hk hk0 hfu hn hM hTp hE hO g68
    obtain ⟨fu, rfl⟩ : ∃ f, fu = f + 1 := ⟨fu - 1, by omega⟩
    rw [l_Mo_measured_15]
    refine wp_eq (x_milesOf hok hM (y := (y : Int)) (by omega)) ?_
    rw [Int.toNat_natCast, msW]
    refine wp_t (by omega) (wp_oc ?_ (wp_some ⟨rfl, hO, g68, hE⟩))
    cases s
    · exact Or.inl rfl
    · exact Or.inr rfl
  | succ r ih =>
    intro k fu σ s n hk hk0 hfu hn hM hTp hE hO g68
    obtain ⟨fu, rfl⟩ : ∃ f, fu = f + 1 := ⟨fu - 1, by omega⟩
    rw [l_Mo_measured_15]
    refine wp_eq (x_milesOf hok hM (y := (y : Int)) (by omega)) ?_
    rw [Int.toNat_natCast]
    refine wp_f (by omega) ?_
    have step : ∀ (τ : SS) (q : QQ) (n' : Nat), LM ld τ bk → TPM ld τ bk tp → EqP PMs σ0 τ → TM τ 119 (c / 36) (c / 6 % 6) (c % 6) q → QOK q → ¬ overP q → gi τ 86 68 = n' → n' + r ≤ 900 → Wp (j_Mo_measured_45 (l_Mo_measured_15 c y e fu) c y e (k + 1) τ) fun v τ => v = ofl (msW ld tp (c / 36) (c / 6 % 6) (c % 6) y e (r + 1) k (some q) n').1 ∧ OM ld τ (c / 36) (c / 6 % 6) (c % 6) (msW ld tp (c / 36) (c / 6 % 6) (c % 6) y e (r + 1) k (some q) n').1 ∧ gi τ 86 68 = (msW ld tp (c / 36) (c / 6 % 6) (c % 6) y e (r + 1) k (some q) n').2 ∧ EqP PMs σ0 τ := by
      intro τ q n' hMτ hTpτ hEτ hT hq ho g68' hn'
      unfold j_Mo_measured_45
      refine wp_eq (x_milesOf hok hMτ (y := (y : Int)) (by omega)) ?_
      rw [Int.toNat_natCast, msW]
      have say : ∀ x3 : Int, (gi ld 8 y ≤ k + 1 ∧ x3 = e ∨ ¬ gi ld 8 y ≤ k + 1 ∧ x3 = -1) → Wp (j_Mo_measured_67 (l_Mo_measured_15 c y e fu) c y e (k + 1) y x3 τ) fun v τ => v = ofl (msW ld tp (c / 36) (c / 6 % 6) (c % 6) y e r (k + 1) (if ovB (wayP ld tp (c / 36) (c / 6 % 6) y e (k + 1) q) = true then none else some (wayP ld tp (c / 36) (c / 6 % 6) y e (k + 1) q)) n').1 ∧ OM ld τ (c / 36) (c / 6 % 6) (c % 6) (msW ld tp (c / 36) (c / 6 % 6) (c % 6) y e r (k + 1) (if ovB (wayP ld tp (c / 36) (c / 6 % 6) y e (k + 1) q) = true then none else some (wayP ld tp (c / 36) (c / 6 % 6) y e (k + 1) q)) n').1 ∧ gi τ 86 68 = (msW ld tp (c / 36) (c / 6 % 6) (c % 6) y e r (k + 1) (if ovB (wayP ld tp (c / 36) (c / 6 % 6) y e (k + 1) q) = true then none else some (wayP ld tp (c / 36) (c / 6 % 6) y e (k + 1) q)) n').2 ∧ EqP PMs σ0 τ := by
        intro x3 hx3
        unfold j_Mo_measured_67
        refine wp_call (x_sayM hok hMτ hTpτ (Or.inr rfl) hc hT hq ho y x3 hy (by omega)) ?_
        rintro _ s1 ⟨hT1, hE1⟩
        have hmid : midM ld y x3 (sayP ld tp (c / 36) (c / 6 % 6) q) = wayP ld tp (c / 36) (c / 6 % 6) y e (k + 1) q := by
          unfold midM endM wayP
          rw [if_neg (show ¬ (y : Int) < 0 by omega), Int.toNat_natCast]
          rcases hx3 with ⟨h1, h2⟩ | ⟨h1, h2⟩
          · rw [if_pos h1, h2, if_pos (show (0 : Int) ≤ (e : Int) by omega), Int.toNat_natCast]
          · rw [if_neg h1, h2, if_neg (show ¬ (0 : Int) ≤ -1 by omega)]
        rw [hmid] at hT1
        have hq1 := wayP_ok (ld := ld) (tp := tp) (a := c / 36) (b := c / 6 % 6) (y := y) (e := e) (k := k + 1) hq hcalm
        generalize wayP ld tp (c / 36) (c / 6 % 6) y e (k + 1) q = q1 at hT1 hq1 ⊢
        have hE01 : EqP PMs σ0 s1 := hEτ.tr (hE1.mo (fun r k h => by omega))
        have hM1 := hMτ.of hE1 (fun r k z => by omega)
        have hTp1 := hTpτ.of hE1 (fun r k z => by omega)
        have g68'' : gi s1 86 68 = n' := by rw [hE1.i _ _ (by omega)]; exact g68'
        by_cases h : ovB q1 = true
        · rw [if_pos h]
          refine wp_b1 (x_overM (Or.inr rfl) hT1) h (wp_f (by decide) ?_)
          rw [iwc (by omega) (by omega)]
          exact ih (k + 1) fu s1 none n' (by omega) (by omega) (by omega) hn' hM1 hTp1 hE01 trivial g68''
        · rw [if_neg h]
          refine wp_b0 (x_overM (Or.inr rfl) hT1) h (wp_t rfl ?_)
          rw [iwc (by omega) (by omega)]
          exact ih (k + 1) fu s1 (some q1) n' (by omega) (by omega) (by omega) hn' hM1 hTp1 hE01 ⟨hT1, hq1, ovB_f h⟩ g68''
      by_cases hl : k + 1 = gi ld 8 y
      · exact wp_t hl (say _ (Or.inl ⟨by omega, rfl⟩))
      · exact wp_f hl (say _ (Or.inr ⟨by omega, rfl⟩))
    cases s with
    | none =>
      refine wp_t rfl ?_
      refine wp_call (x_beginBy hok hM c hc) ?_
      rintro _ s5 ⟨hT5, hE5⟩
      refine wp_os ?_
      obtain ⟨bq1, bq2⟩ := begP_ok hok hc.2.2.2.1
      have g5 : gi s5 86 68 = n := by rw [hE5.i _ _ (by omega)]; exact g68
      rw [g5, show iw ((n : Int) + 1) = ((n + 1 : Nat) : Int) by rw [iwc (by omega) (by omega)]; omega]
      have hE6 : EqP PMs σ (si s5 86 68 ((n + 1 : Nat) : Int)) := EqP.si (hE5.mo (fun r k h => by omega)) _ _ _ (by omega)
      have z := step (si s5 86 68 ((n + 1 : Nat) : Int)) (begP ld (c % 6)) (n + 1) (hM.of hE6 (fun r k z => by omega)) (hTp.of hE6 (fun r k z => by omega)) (hE.tr hE6) (hT5.of (P := fun r k => r = 86) (by repeat (first | exact EqP.rf _ _ | (refine EqP.si ?_ _ _ _ (by omega)) | (refine EqP.sj ?_ _ _ _ (by omega)) | (refine EqP.sr ?_ _ _ (fun k => by omega)))) (fun k => by omega)) bq1 bq2 (gi_same _ _ _ _) (by omega)
      rw [msW_none]
      exact z
    | some q =>
      refine wp_f (by simp [ofl]) ?_
      exact step σ q n hM hTp hE hO.1 hO.2.1 hO.2.2 g68 (by omega)
theorem x_measured {ld σ : SS} (hok : LdOK ld) {bk : Nat} (hM : LM ld σ bk) {tp : Nat → Int} (hTp : TPM ld σ bk tp) (c : Nat) (hc : CPL ld (c / 36) (c / 6 % 6) (c % 6)) (y e : Nat) (hy : (y : Int) < gi ld 2 4) (he : (e : Int) < gi ld 2 0) {p : Int} (ho : oth ld y p = e) (s : Option QQ) (hO : OM ld σ (c / 36) (c / 6 % 6) (c % 6) s) (n : Nat) (hn : n ≤ 800) (g68 : gi σ 86 68 = n) :
    Wp (f_Mo_measured c y p (ofl s) σ) fun v τ => v = ofl (msW ld tp (c / 36) (c / 6 % 6) (c % 6) y e (gi ld 8 y - 0).toNat 0 s n).1 ∧ OM ld τ (c / 36) (c / 6 % 6) (c % 6) (msW ld tp (c / 36) (c / 6 % 6) (c % 6) y e (gi ld 8 y - 0).toNat 0 s n).1 ∧ gi τ 86 68 = (msW ld tp (c / 36) (c / 6 % 6) (c % 6) y e (gi ld 8 y - 0).toNat 0 s n).2 ∧ EqP PMs σ τ := by
  have l8 := (hok.wy hy).2.2.2.1
  unfold f_Mo_measured
  refine wp_eq (x_otherM hok hM (y := (y : Int)) (by omega) _) ?_
  rw [ho]
  have z := x_measured_loop hok (tp := tp) c hc y e hy he σ (gi ld 8 y - 0).toNat 0 FU σ s n (by omega) (by omega) (by unfold FU; omega) (by omega) hM hTp (EqP.rf _ _) hO g68
  exact z
theorem msW_cnt {ld : SS} {tp : Nat → Int} {a b m y e : Nat} : ∀ (r : Nat) (k : Int) (s : Option QQ) (n : Nat), (msW ld tp a b m y e r k s n).2 ≤ n + r := by
  intro r
  induction r with
  | zero => intro k s n; rw [msW]; exact Nat.le_refl _
  | succ r ih =>
    intro k s n
    cases s with
    | none => rw [msW]; have := ih (k + 1) (if ovB (wayP ld tp a b y e (k + 1) (begP ld m)) = true then none else some (wayP ld tp a b y e (k + 1) (begP ld m))) (n + 1); omega
    | some q => rw [msW]; have := ih (k + 1) (if ovB (wayP ld tp a b y e (k + 1) q) = true then none else some (wayP ld tp a b y e (k + 1) q)) n; omega
/-- the measure of one way -/
noncomputable def ms1 (ld : SS) (tp : Nat → Int) (t : Nat × Nat × Nat) (y : Nat) (back : Int) : Nat := msG ld tp t.1 t.2.1 t.2.2 (fun _ => y) (fun _ => (if back = 0 then gi ld 7 y else gi ld 6 y).toNat) 1 0 0 none 0
theorem ms1_le {ld : SS} (hok : LdOK ld) {tp : Nat → Int} {t : Nat × Nat × Nat} {y : Nat} (hy : (y : Int) < gi ld 2 4) {back : Int} : ms1 ld tp t y back ≤ 40 := by
  unfold ms1
  rw [msG, msG]
  have := msW_cnt (ld := ld) (tp := tp) (a := t.1) (b := t.2.1) (m := t.2.2) (y := y) (e := (if back = 0 then gi ld 7 y else gi ld 6 y).toNat) (gi ld 8 y - 0).toNat 0 none 0
  have := (hok.wy hy).2.2.2.1
  omega
theorem x_measureBy {ld σ : SS} (hok : LdOK ld) {bk : Nat} (hM : LM ld σ bk) {tp : Nat → Int} (hTp : TPM ld σ bk tp) (c : Nat) (hc : CPL ld (c / 36) (c / 6 % 6) (c % 6)) (y : Nat) (hy : (y : Int) < gi ld 2 4) (back : Int) : Wp (f_Mo_measureBy c y back σ) fun v τ => v = (ms1 ld tp (dM c) y back : Nat) ∧ EqP PMs σ τ := by
  obtain ⟨w1, w2, w3, w4, w5⟩ := hok.wy hy
  unfold f_Mo_measureBy
  refine wp_os ?_
  have hE1 : EqP PMs σ (si σ 86 68 0) := by repeat (first | exact EqP.rf _ _ | (refine EqP.si ?_ _ _ _ (by omega)) | (refine EqP.sj ?_ _ _ _ (by omega)) | (refine EqP.sr ?_ _ _ (fun k => by omega)))
  have hM1 := hM.of hE1 (fun r k z => by omega)
  have hTp1 := hTp.of hE1 (fun r k z => by omega)
  have g68 : gi (si σ 86 68 0) 86 68 = ((0 : Nat) : Int) := gi_same _ _ _ _
  generalize si σ 86 68 0 = s1 at hE1 hM1 hTp1 g68 ⊢
  have go : ∀ (p e : Nat), e = (if back = 0 then gi ld 7 y else gi ld 6 y).toNat → oth ld y p = e → (e : Int) < gi ld 2 0 → Wp (j_Mo_measureBy_25 c y p s1) fun v τ => v = (ms1 ld tp (dM c) y back : Nat) ∧ EqP PMs σ τ := by
    intro p e he ho he2
    unfold j_Mo_measureBy_25
    refine wp_call (x_measured hok hM1 hTp1 c hc y e hy he2 ho none trivial 0 (by omega) g68) ?_
    rintro v τ ⟨_, _, h68, hE⟩
    refine wp_some ⟨?_, hE1.tr hE⟩
    rw [h68]
    unfold ms1
    rw [msG, msG, he]
    rfl
  by_cases hb : back = 0
  · refine wp_t hb ?_
    refine wp_eq (x_fromOf hok hM1 (y := (y : Int)) (by omega)) ?_
    rw [Int.toNat_natCast, show gi ld 6 y = ((gi ld 6 y).toNat : Nat) by omega]
    refine go _ (gi ld 7 y).toNat (by rw [if_pos hb]) ?_ (by omega)
    unfold oth
    rw [if_pos ⟨by omega, hy⟩, Int.toNat_natCast, if_pos (by omega)]; omega
  · refine wp_f hb ?_
    refine wp_eq (x_toOf hok hM1 (y := (y : Int)) (by omega)) ?_
    rw [Int.toNat_natCast, show gi ld 7 y = ((gi ld 7 y).toNat : Nat) by omega]
    refine go _ (gi ld 6 y).toNat (by rw [if_neg hb]) ?_ (by omega)
    unfold oth
    rw [if_pos ⟨by omega, hy⟩, Int.toNat_natCast, if_neg (by omega), if_pos (by omega)]; omega
/-- the class's measure of one way -/
theorem x_ms1C {ld σ : SS} (hok : LdOK ld) (hL : LC ld σ) {tp : Nat → Int} (htp : ∀ j, j < 12 → gi σ 47 j = tp j) {a b m : Nat} (hc : CPL ld a b m) (y : Nat) (hy : (y : Int) < gi ld 2 4) (back : Int) {code : Int} (hcode : code = 100 * (a : Int) + 10 * (b : Int) + (m : Int)) {Q : Int → SS → Prop} {k : Int → SS → OO} (hk : ∀ τ, EqP (fun r k => r = 62 ∨ r = 63 ∨ r = 64 ∨ PSt 75 r k) σ τ → Wp (k (ms1 ld tp (a, b, m) y back : Nat) τ) Q) : Wp (ob (f_Fi_setPath y back σ) fun _ s => ob (f_Fi_measurePath code s) k) Q := by
  refine wp_call (x_setPath hok hL y hy back) ?_
  rintro _ s8 ⟨hR8, hP8, hE8⟩
  refine wp_call (x_measurePath (tp := tp) hok (hL.of hE8 (fun r k z => by omega)) (fun j hj => by rw [hE8.i _ _ (by omega)]; exact htp j hj) hc hP8 (by decide) hR8 hcode) ?_
  rintro r τ ⟨rfl, hE⟩
  exact hk τ ((hE8.mo (fun r k h => by omega)).tr (hE.mo (fun r k h => by omega)))
abbrev PMe : Nat → Nat → Prop := fun r k => r = 62 ∨ r = 63 ∨ r = 64 ∨ PSt 75 r k
theorem y_measure (a b m y back : Int) : MP (f_Qu_measure a b m y back) (f_Mo_measure a b m y back) := by
  rintro σ ⟨ld, bk, hok, hL, hM, hEA, hRO, hLY, hRP, hTA⟩
  have hI : Inv σ := ⟨ld, bk, hok, hL, hM, hEA, hRO, hLY, hRP, hTA⟩
  unfold f_Qu_measure f_Mo_measure
  by_cases hc : cplB ld a b m
  · refine wp_eq ((x_couple hok hL a b m).1 hc) ?_
    obtain ⟨a', b', m', rfl, rfl, rfl, hcp⟩ := cplB_nat hok hc
    refine wp_f (by omega) ?_
    by_cases hy : 0 ≤ y ∧ y < gi ld 2 4
    · refine wp_b1 (x_isWayC hok hL y) hy (wp_f (by decide) ?_)
      obtain ⟨y, rfl⟩ : ∃ n : Nat, y = n := ⟨y.toNat, by omega⟩
      refine x_ms1C (tp := gi σ 47) hok hL (fun _ _ => rfl) hcp y hy.2 back rfl ?_
      intro s10 hE10
      refine wp_some ?_
      have hM10 := hM.of hE10 (fun r k z => by omega)
      refine wp_eq ((x_isCoupleM hok hM10 _ _ _).1 hc) (wp_f (by decide) ?_)
      refine wp_b1 (x_isWayM hok hM10 _) hy (wp_f (by decide) ?_)
      have hcode : iw (iw (iw (iw (6 * (a' : Int)) + (b' : Int)) * 6) + (m' : Int)) = (((6 * a' + b') * 6 + m' : Nat) : Int) := by
        unfold CPL at hcp
        simp (disch := omega) only [iwc]; omega
      rw [hcode]
      have hcp2 := hcp
      unfold CPL at hcp2
      have d1 : ((6 * a' + b') * 6 + m') / 36 = a' := by omega
      have d2 : ((6 * a' + b') * 6 + m') / 6 % 6 = b' := by omega
      have d3 : ((6 * a' + b') * 6 + m') % 6 = m' := by omega
      refine wp_call (x_measureBy hok hM10 ((tpm_ea hEA hTA).of hE10 (fun r k z => by omega)) ((6 * a' + b') * 6 + m') (by rw [d1, d2, d3]; exact hcp) y hy.2 back) ?_
      rintro v τ ⟨rfl, hE⟩
      refine wp_some ⟨?_, hI.sc ((hE10.mo (fun r k h => by omega)).tr (hE.mo (fun r k h => by omega)))⟩
      unfold dM
      rw [d1, d2, d3]
    · refine wp_b0 (x_isWayC hok hL y) hy (wp_t rfl (wp_some ?_))
      refine wp_eq ((x_isCoupleM hok hM _ _ _).1 hc) (wp_f (by decide) ?_)
      exact wp_b0 (x_isWayM hok hM _) hy (wp_t rfl (wp_some ⟨rfl, hI⟩))
  · refine wp_eq ((x_couple hok hL a b m).2 hc) (wp_t rfl (wp_some ?_))
    exact wp_eq ((x_isCoupleM hok hM a b m).2 hc) (wp_t rfl (wp_some ⟨rfl, hI⟩))
