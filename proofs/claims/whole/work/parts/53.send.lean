/-! shortest and send -/
theorem x_layNothing (σ : SS) : f_Fi_layNothing σ = some (0, si σ 61 5 0) := rfl
/-- the class lays a number -/
theorem x_lay {σ : SS} {n : Nat} (h : gi σ 61 5 = n) (h12 : n < 12) (v : Int) : f_Fi_lay v σ = some (0, si (si σ 65 n v) 61 5 ((n + 1 : Nat) : Int)) := by
  unfold f_Fi_lay
  rw [h, if_neg (by omega), if_neg (by omega), oc_pos (by omega), os_eq, Int.toNat_natCast, gi_ne_r _ _ _ _ (by decide), h, os_eq, iwc (by omega) (by omega), show (n : Int) + 1 = ((n + 1 : Nat) : Int) by omega]
theorem x_nearer {ld : SS} (hok : LdOK ld) {f : Nat → Int} (p : Nat) (hp : (p : Int) < gi ld 2 0) (hfp : 0 ≤ f p ∧ f p ≤ 1000000) (hfa : ∀ j, 0 ≤ f j ∧ f j ≤ 1000000) (σ : SS) (hL : LC ld σ) (hf : FRow σ 66 f) :
    ∀ (r y fu : Nat), y + r = (gi ld 2 4).toNat → r < fu → (∃ z, y ≤ z ∧ z < y + r ∧ nxC ld f p z = true) → l_Fi_firstWayNearer_2 p fu y σ = some (((nxF ld f p r y : Nat) : Int), σ) := by
  have l0 := hok.1
  have l4 := hok.2.1
  intro r
  induction r with
  | zero => rintro y fu _ _ ⟨z, h1, h2, _⟩; omega
  | succ r ih =>
    rintro y fu hy hfu ⟨z, h1, h2, h3⟩
    obtain ⟨fu, rfl⟩ : ∃ f, fu = f + 1 := ⟨fu - 1, by omega⟩
    have hy4 : (y : Int) < gi ld 2 4 := by omega
    have hr := oth_rng hok y p
    have next : ¬ nxC ld f p y = true → l_Fi_firstWayNearer_2 p fu ((y + 1 : Nat) : Int) σ = some (((nxF ld f p (r + 1) y : Nat) : Int), σ) := by
      intro h
      rw [nxF, if_neg h]
      have hzy : z ≠ y := fun e => h (e ▸ h3)
      exact ih (y + 1) fu (by omega) (by omega) ⟨z, by omega, by omega, h3⟩
    rw [l_Fi_firstWayNearer_2, hL 2 4 (by omega) (by omega) (by omega), if_neg (by omega), if_neg (by omega), x_otherC hok hL, ob_eq, x_isPlaceC hok hL, ob_eq, if_pos (show 0 ≤ (p : Int) ∧ (p : Int) < gi ld 2 0 by omega), if_neg (by decide), x_isPlaceC hok hL, ob_eq, show iw ((y : Int) + 1) = ((y + 1 : Nat) : Int) by rw [iwc (by omega) (by omega)]; omega]
    have l8 := (hok.wy hy4).2.2.2.1
    by_cases ho : 0 ≤ oth ld y p
    · have hfo := hfa (oth ld y p).toNat
      rw [if_pos (show 0 ≤ oth ld y p ∧ oth ld y p < gi ld 2 0 by omega), if_neg (by decide), oc_pos (by omega), oc_pos (by omega), oc_pos (by omega), Int.toNat_natCast, Int.toNat_natCast, hf _ (by omega), hL 8 y (by omega) (by omega) (by omega), hf p (by omega), iwc (by omega) (by omega)]
      by_cases he : f (oth ld y p).toNat + gi ld 8 y = f p
      · have hc : nxC ld f p y = true := by unfold nxC; simp; exact ⟨ho, he⟩
        rw [if_pos he, nxF, if_pos hc]
      · rw [if_neg he]
        exact next (by unfold nxC; simp; intro _; exact he)
    · rw [if_neg (show ¬ (0 ≤ oth ld y p ∧ oth ld y p < gi ld 2 0) by omega), if_pos rfl]
      exact next (by unfold nxC; simp; omega)
abbrev PPa : Nat → Nat → Prop := fun r _ => r = 62 ∨ r = 63 ∨ r = 64 ∨ r = 66
theorem rc_congr {σ : SS} {t n p0 : Nat} {wf ef wf' ef' : Nat → Nat} (h : RC σ t n wf ef p0) (h1 : ∀ i, i < n → wf' i = wf i) (h2 : ∀ i, i < n → ef' i = ef i) : RC σ t n wf' ef' p0 := by
  obtain ⟨r1, r2, r3⟩ := h
  refine ⟨r1, ?_, fun i hi => ?_⟩
  · rw [r2]
    unfold pend
    by_cases h0 : n = 0
    · rw [if_pos h0, if_pos h0]
    · rw [if_neg h0, if_neg h0, h2 _ (by omega)]
  · rw [h1 i hi, h2 i hi]; exact r3 i hi
theorem pend_ps (ld : SS) (to p0 i : Nat) : pend i (fun j => psP ld to p0 (j + 1)) p0 = psP ld to p0 i := by
  unfold pend
  cases i with
  | zero => rfl
  | succ i => rw [if_neg (by omega)]; rfl
theorem x_findLoop {ld : SS} (hok : LdOK ld) {to p0 : Nat} (hto : (to : Int) < gi ld 2 0) (hp0 : (p0 : Int) < gi ld 2 0) (hf : faR ld to 8 p0 < 1000000) {n : Nat} (hn : n ≤ 7) (he : psP ld to p0 n = to) (hne : ∀ j, j < n → psP ld to p0 j ≠ to) (σ0 : SS) (hL : LC ld σ0) (hF : FRow σ0 66 (faR ld to 8)) :
    ∀ (r i fu : Nat) (σ : SS), i + r = n → r < fu → EqP (fun r _ => r = 62 ∨ r = 63 ∨ r = 64) σ0 σ → RC σ 62 i (wsP ld to p0) (fun j => psP ld to p0 (j + 1)) p0 → Wp (l_Fi_findPath_52 p0 to fu i σ) fun v τ => v = faR ld to 8 p0 ∧ RC τ 62 n (wsP ld to p0) (fun j => psP ld to p0 (j + 1)) p0 ∧ EqP (fun r _ => r = 62 ∨ r = 63 ∨ r = 64) σ0 τ := by
  have l0 := hok.1
  have l4 := hok.2.1
  intro r
  induction r with
  | zero =>
    intro i fu σ hi hfu hE hR
    obtain ⟨fu, rfl⟩ : ∃ f, fu = f + 1 := ⟨fu - 1, by omega⟩
    obtain rfl : i = n := by omega
    rw [l_Fi_findPath_52]
    refine wp_f (by omega) ?_
    refine wp_t (by rw [hR.2.1, pend_ps, he]) ?_
    unfold j_Fi_findPath_98
    refine wp_oc (by omega) (wp_some ⟨?_, hR, hE⟩)
    rw [Int.toNat_natCast, hE.i _ _ (by omega)]
    exact hF p0 (by omega)
  | succ r ih =>
    intro i fu σ hi hfu hE hR
    obtain ⟨fu, rfl⟩ : ∃ f, fu = f + 1 := ⟨fu - 1, by omega⟩
    obtain ⟨s1, s2, s3⟩ := psP_step hok hp0 hf i (fun j hj => hne j (by omega))
    obtain ⟨n1, n2, n3⟩ := nxt_spec hok (hne i (by omega)) s2
    have hnb := faR_nbr hok to 8
    have hLs := hL.of hE (fun r k z => by omega)
    have hFs : FRow σ 66 (faR ld to 8) := fun j hj => by rw [hE.i _ _ (by omega)]; exact hF j hj
    have hpth : Pth ld i (wsP ld to p0) (fun j => psP ld to p0 (j + 1)) p0 := psP_pth hok hp0 hf (by omega) (fun j hj => hne j (by omega))
    rw [l_Fi_findPath_52]
    refine wp_f (by omega) ?_
    have hpe : gi σ 62 3 = ((psP ld to p0 i : Nat) : Int) := by rw [hR.2.1, pend_ps]
    rw [hpe]
    refine wp_f (by have := hne i (by omega); omega) ?_
    have hx : ∃ z, 0 ≤ z ∧ z < 0 + (gi ld 2 4).toNat ∧ nxC ld (faR ld to 8) (psP ld to p0 i) z = true := ⟨nxt ld (faR ld to 8) (psP ld to p0 i), by omega, by omega, by unfold nxC; simp; exact ⟨n2, n3⟩⟩
    unfold f_Fi_firstWayNearer
    refine wp_eq (x_nearer hok (psP ld to p0 i) s1 (hnb.2.1 _) hnb.2.1 σ hLs hFs (gi ld 2 4).toNat 0 FU (by omega) (by unfold FU; omega) hx) ?_
    rw [show nxF ld (faR ld to 8) (psP ld to p0 i) (gi ld 2 4).toNat 0 = wsP ld to p0 i from rfl]
    have ho : oth ld (wsP ld to p0 i) (pend i (fun j => psP ld to p0 (j + 1)) p0 : Nat) = (psP ld to p0 (i + 1) : Nat) := by
      rw [pend_ps, psP_s]
      have : 0 ≤ oth ld (wsP ld to p0 i) (psP ld to p0 i) := n2
      unfold wsP at this ⊢
      omega
    refine wp_call ((x_append hok hLs 62 (by omega) hpth hR (wsP ld to p0 i)).1 ⟨by omega, by rw [ho]; omega⟩) ?_
    rintro _ s8 ⟨_, hR8, hE8⟩
    rw [ho, Int.toNat_natCast, Int.toNat_natCast] at hR8
    rw [show iw ((i : Int) + 1) = ((i + 1 : Nat) : Int) by rw [iwc (by omega) (by omega)]; omega]
    refine ih (i + 1) fu s8 (by omega) (by omega) (hE.tr (hE8.mo (fun r k h => by omega))) (rc_congr hR8 (fun j hj => ?_) (fun j hj => ?_))
    · unfold wfx
      by_cases hji : j = i
      · rw [if_pos hji, hji]
      · rw [if_neg hji]
    · unfold wfx
      by_cases hji : j = i
      · rw [if_pos hji, hji]
      · rw [if_neg hji]
/-- the class's path, or none -/
theorem x_findPath {ld σ : SS} (hok : LdOK ld) (hL : LC ld σ) (p0 to : Int) :
    (0 ≤ p0 ∧ p0 < gi ld 2 0 ∧ 0 ≤ to ∧ to < gi ld 2 0 ∧ faR ld to.toNat 8 p0.toNat < 1000000 → ∃ n, n ≤ 7 ∧ psP ld to.toNat p0.toNat n = to.toNat ∧ (∀ j, j < n → psP ld to.toNat p0.toNat j ≠ to.toNat) ∧ Wp (f_Fi_findPath p0 to σ) fun v τ => v = faR ld to.toNat 8 p0.toNat ∧ RC τ 62 n (wsP ld to.toNat p0.toNat) (fun j => psP ld to.toNat p0.toNat (j + 1)) p0.toNat ∧ EqP PPa σ τ) ∧
    (¬ (0 ≤ p0 ∧ p0 < gi ld 2 0 ∧ 0 ≤ to ∧ to < gi ld 2 0 ∧ faR ld to.toNat 8 p0.toNat < 1000000) → Wp (f_Fi_findPath p0 to σ) fun v τ => v = -1 ∧ EqP PPa σ τ) := by
  have l0 := hok.1
  constructor
  · rintro ⟨h1, h2, h3, h4, h5⟩
    obtain ⟨a, rfl⟩ : ∃ n : Nat, p0 = n := ⟨p0.toNat, by omega⟩
    obtain ⟨b, rfl⟩ : ∃ n : Nat, to = n := ⟨to.toNat, by omega⟩
    rw [Int.toNat_natCast, Int.toNat_natCast] at h5 ⊢
    obtain ⟨n, hn, he, hne⟩ := psP_end hok h2 h5
    refine ⟨n, hn, he, hne, ?_⟩
    unfold f_Fi_findPath
    refine wp_b1 (x_isPlaceC hok hL _) ⟨h1, h2⟩ (wp_f (by decide) ?_)
    refine wp_b1 (x_isPlaceC hok hL _) ⟨h3, h4⟩ (wp_f (by decide) ?_)
    refine wp_call (x_farC hok b h4 σ hL) ?_
    rintro _ s7 ⟨hF7, hE7⟩
    refine wp_oc (by omega) ?_
    rw [Int.toNat_natCast, hF7 a (by omega)]
    refine wp_t h5 ?_
    unfold f_Ro_reset
    refine wp_ob (wp_os (wp_os (wp_some ?_)))
    have hE8 : EqP PPa σ (si (si s7 62 2 0) 62 3 a) := EqP.si (EqP.si (hE7.mo (fun r k h => by omega)) _ _ _ (by omega)) _ _ _ (by omega)
    refine wp_mono (x_findLoop hok h4 h2 h5 hn he hne (si (si s7 62 2 0) 62 3 a) (hL.of hE8 (fun r k z => by omega)) (fun j hj => by simp (disch := omega) only [gi_same, gi_ne_r, gi_ne_k, gi_sr_same, gi_sr_ne, gj_sj_same, gj_sj_ne_r, gj_sj_ne_k, gj_si, gi_sj, gj_sr, iwc, jwc, Int.toNat_natCast, tdn, tmn, b0, b1, yc0, yc1]; exact hF7 j hj) n 0 FU _ (by omega) (by unfold FU; omega) (EqP.rf _ _) ⟨by simp (disch := omega) only [gi_same, gi_ne_r, gi_ne_k, gi_sr_same, gi_sr_ne, gj_sj_same, gj_sj_ne_r, gj_sj_ne_k, gj_si, gi_sj, gj_sr, iwc, jwc, Int.toNat_natCast, tdn, tmn, b0, b1, yc0, yc1]; rfl, by simp (disch := omega) only [gi_same, gi_ne_r, gi_ne_k, gi_sr_same, gi_sr_ne, gj_sj_same, gj_sj_ne_r, gj_sj_ne_k, gj_si, gi_sj, gj_sr, iwc, jwc, Int.toNat_natCast, tdn, tmn, b0, b1, yc0, yc1]; rfl, fun i hi => by omega⟩) ?_
    rintro v τ ⟨k1, k2, k3⟩
    exact ⟨k1, k2, hE8.tr (k3.mo (fun r k h => by omega))⟩
  · intro hno
    unfold f_Fi_findPath
    by_cases h1 : 0 ≤ p0 ∧ p0 < gi ld 2 0
    · refine wp_b1 (x_isPlaceC hok hL _) h1 (wp_f (by decide) ?_)
      by_cases h2 : 0 ≤ to ∧ to < gi ld 2 0
      · refine wp_b1 (x_isPlaceC hok hL _) h2 (wp_f (by decide) ?_)
        obtain ⟨a, rfl⟩ : ∃ n : Nat, p0 = n := ⟨p0.toNat, by omega⟩
        obtain ⟨b, rfl⟩ : ∃ n : Nat, to = n := ⟨to.toNat, by omega⟩
        rw [Int.toNat_natCast, Int.toNat_natCast] at hno
        refine wp_call (x_farC hok b h2.2 σ hL) ?_
        rintro _ s7 ⟨hF7, hE7⟩
        refine wp_oc (by omega) ?_
        rw [Int.toNat_natCast, hF7 a (by omega)]
        exact wp_f (fun z => hno ⟨h1.1, h1.2, h2.1, h2.2, z⟩) (wp_some ⟨rfl, hE7.mo (fun r k h => by omega)⟩)
      · exact wp_b0 (x_isPlaceC hok hL _) h2 (wp_t rfl (wp_some ⟨rfl, EqP.rf _ _⟩))
    · exact wp_b0 (x_isPlaceC hok hL _) h1 (wp_t rfl (wp_some ⟨rfl, EqP.rf _ _⟩))
/-- the reference's path -/
abbrev PSh : Nat → Nat → Prop := fun r k => r = 123 ∨ r = 124 ∨ r = 86 ∧ k = 67
theorem x_short34 {ld : SS} (hok : LdOK ld) {bk : Nat} {f : Nat → Int} (p : Nat) (hp : (p : Int) < gi ld 2 0) (hfa : ∀ j, 0 ≤ f j ∧ f j ≤ 1000000) (σ : SS) (hM : LM ld σ bk) (hf : FRow σ 123 f) (self26 : Int → SS → OO) (p0 to : Int) (i : Nat) (hi8 : i < 8) (h67 : gi σ 86 67 = i) :
    ∀ (r y fu : Nat), y + r = (gi ld 2 4).toNat → r < fu → (∃ z, y ≤ z ∧ z < y + r ∧ nxC ld f p z = true) → l_Mo_layShortest_34 self26 p0 to p fu y σ = self26 (oth ld (nxF ld f p r y) p) (si (si σ 124 i (nxF ld f p r y : Nat)) 86 67 ((i + 1 : Nat) : Int)) := by
  have l0 := hok.1
  have l4 := hok.2.1
  intro r
  induction r with
  | zero => rintro y fu _ _ ⟨z, h1, h2, _⟩; omega
  | succ r ih =>
    rintro y fu hy hfu ⟨z, h1, h2, h3⟩
    obtain ⟨fu, rfl⟩ : ∃ f, fu = f + 1 := ⟨fu - 1, by omega⟩
    have hy4 : 0 ≤ (y : Int) ∧ (y : Int) < gi ld 2 4 := by omega
    have hr := oth_rng hok y p
    have next : ¬ nxC ld f p y = true → l_Mo_layShortest_34 self26 p0 to p fu ((y + 1 : Nat) : Int) σ = self26 (oth ld (nxF ld f p (r + 1) y) p) (si (si σ 124 i (nxF ld f p (r + 1) y : Nat)) 86 67 ((i + 1 : Nat) : Int)) := by
      intro h
      rw [nxF, if_neg h]
      have hzy : z ≠ y := fun e => h (e ▸ h3)
      exact ih (y + 1) fu (by omega) (by omega) ⟨z, by omega, by omega, h3⟩
    rw [l_Mo_layShortest_34, x_otherM hok hM hy4, ob_eq, show iw ((y : Int) + 1) = ((y + 1 : Nat) : Int) by rw [iwc (by omega) (by omega)]; omega]
    have l8 := (hok.wy hy4.2).2.2.2.1
    by_cases ho : 0 ≤ oth ld y p
    · have hfo := hfa (oth ld y p).toNat
      rw [if_neg (by omega), x_otherM hok hM hy4, ob_eq, oc_pos (by omega), x_milesOf hok hM hy4, ob_eq, oc_pos (by omega), Int.toNat_natCast, Int.toNat_natCast, hf _ (by omega), hf p (by omega), iwc (x := f (oth ld y p).toNat + gi ld 8 y) (by omega) (by omega)]
      by_cases he : f (oth ld y p).toNat + gi ld 8 y = f p
      · have hc : nxC ld f p y = true := by unfold nxC; simp; exact ⟨ho, he⟩
        have hE : EqP PSh σ (si (si σ 124 i (y : Int)) 86 67 ((i + 1 : Nat) : Int)) := by repeat (first | exact EqP.rf _ _ | (refine EqP.si ?_ _ _ _ (by omega)) | (refine EqP.sj ?_ _ _ _ (by omega)) | (refine EqP.sr ?_ _ _ (fun k => by omega)))
        have e67 : gi (si σ 124 i (y : Int)) 86 67 = i := by simp (disch := omega) only [gi_same, gi_ne_r, gi_ne_k, gi_sr_same, gi_sr_ne, gj_sj_same, gj_sj_ne_r, gj_sj_ne_k, gj_si, gi_sj, gj_sr, iwc, jwc, Int.toNat_natCast, tdn, tmn, b0, b1, yc0, yc1, h67]
        rw [if_pos he, h67, oc_pos (by omega), os_eq, Int.toNat_natCast, e67, iwc (x := (i : Int) + 1) (by omega) (by omega), show (i : Int) + 1 = ((i + 1 : Nat) : Int) by omega, os_eq, x_otherM hok (hM.of hE (fun r k z => by omega)) hy4, ob_eq, nxF, if_pos hc]
      · rw [if_neg he]
        exact next (by unfold nxC; simp; intro _; exact he)
    · rw [if_pos (by omega)]
      exact next (by unfold nxC; simp; omega)
theorem x_shortLoop {ld : SS} (hok : LdOK ld) {bk to p0 : Nat} (hto : (to : Int) < gi ld 2 0) (hp0 : (p0 : Int) < gi ld 2 0) (hf : faR ld to 8 p0 < 1000000) {n : Nat} (hn : n ≤ 7) (he : psP ld to p0 n = to) (hne : ∀ j, j < n → psP ld to p0 j ≠ to) (σ0 : SS) (hM0 : LM ld σ0 bk) (hF : FRow σ0 123 (faR ld to 8)) :
    ∀ (r i fu : Nat) (σ : SS), i + r = n → r < fu → EqP (fun r k => r = 124 ∨ r = 86 ∧ k = 67) σ0 σ → gi σ 86 67 = i → (∀ j, j < i → gi σ 124 j = (wsP ld to p0 j : Nat)) → Wp (l_Mo_layShortest_26 p0 to fu (psP ld to p0 i : Nat) σ) fun v τ => v = faR ld to 8 p0 ∧ gi τ 86 67 = n ∧ (∀ j, j < n → gi τ 124 j = (wsP ld to p0 j : Nat)) ∧ EqP (fun r k => r = 124 ∨ r = 86 ∧ k = 67) σ0 τ := by
  have l0 := hok.1
  have l4 := hok.2.1
  intro r
  induction r with
  | zero =>
    intro i fu σ hi hfu hE h67 hR
    obtain ⟨fu, rfl⟩ : ∃ f, fu = f + 1 := ⟨fu - 1, by omega⟩
    obtain rfl : i = n := by omega
    rw [l_Mo_layShortest_26]
    refine wp_t (by rw [he]) (wp_oc (by omega) (wp_some ⟨?_, h67, hR, hE⟩))
    rw [Int.toNat_natCast, hE.i _ _ (by omega)]
    exact hF p0 (by omega)
  | succ r ih =>
    intro i fu σ hi hfu hE h67 hR
    obtain ⟨fu, rfl⟩ : ∃ f, fu = f + 1 := ⟨fu - 1, by omega⟩
    obtain ⟨s1, s2, s3⟩ := psP_step hok hp0 hf i (fun j hj => hne j (by omega))
    obtain ⟨n1, n2, n3⟩ := nxt_spec hok (hne i (by omega)) s2
    have hnb := faR_nbr hok to 8
    have hM := hM0.of hE (fun r k z => by omega)
    have hFs : FRow σ 123 (faR ld to 8) := fun j hj => by rw [hE.i _ _ (by omega)]; exact hF j hj
    rw [l_Mo_layShortest_26]
    refine wp_f (by have := hne i (by omega); omega) ?_
    have hx : ∃ z, 0 ≤ z ∧ z < 0 + (gi ld 2 4).toNat ∧ nxC ld (faR ld to 8) (psP ld to p0 i) z = true := ⟨nxt ld (faR ld to 8) (psP ld to p0 i), by omega, by omega, by unfold nxC; simp; exact ⟨n2, n3⟩⟩
    refine wp_unf (x_short34 hok (psP ld to p0 i) s1 hnb.2.1 σ hM hFs _ p0 to i (by omega) h67 (gi ld 2 4).toNat 0 FU (by omega) (by unfold FU; omega) hx) ?_
    rw [show nxF ld (faR ld to 8) (psP ld to p0 i) (gi ld 2 4).toNat 0 = wsP ld to p0 i from rfl]
    have ho : oth ld (wsP ld to p0 i) (psP ld to p0 i : Nat) = (psP ld to p0 (i + 1) : Nat) := by
      rw [psP_s]
      have : 0 ≤ oth ld (wsP ld to p0 i) (psP ld to p0 i) := n2
      unfold wsP at this ⊢
      omega
    rw [ho]
    refine ih (i + 1) fu _ (by omega) (by omega) (EqP.si (EqP.si hE _ _ _ (by omega)) _ _ _ (by omega)) (by simp (disch := omega) only [gi_same, gi_ne_r, gi_ne_k, gi_sr_same, gi_sr_ne, gj_sj_same, gj_sj_ne_r, gj_sj_ne_k, gj_si, gi_sj, gj_sr, iwc, jwc, Int.toNat_natCast, tdn, tmn, b0, b1, yc0, yc1]) (fun j hj => ?_)
    by_cases hji : j = i
    · rw [hji]; simp (disch := omega) only [gi_same, gi_ne_r, gi_ne_k, gi_sr_same, gi_sr_ne, gj_sj_same, gj_sj_ne_r, gj_sj_ne_k, gj_si, gi_sj, gj_sr, iwc, jwc, Int.toNat_natCast, tdn, tmn, b0, b1, yc0, yc1]
    · simp (disch := omega) only [gi_same, gi_ne_r, gi_ne_k, gi_sr_same, gi_sr_ne, gj_sj_same, gj_sj_ne_r, gj_sj_ne_k, gj_si, gi_sj, gj_sr, iwc, jwc, Int.toNat_natCast, tdn, tmn, b0, b1, yc0, yc1]; exact hR j (by omega)
theorem x_layShortestM {ld σ : SS} (hok : LdOK ld) {bk : Nat} (hM : LM ld σ bk) {p0 to : Nat} (hp0 : (p0 : Int) < gi ld 2 0) (hto : (to : Int) < gi ld 2 0) :
    (∀ n, n ≤ 7 → psP ld to p0 n = to → (∀ j, j < n → psP ld to p0 j ≠ to) → faR ld to 8 p0 < 1000000 → Wp (f_Mo_layShortest p0 to σ) fun v τ => v = faR ld to 8 p0 ∧ gi τ 86 67 = n ∧ (∀ j, j < n → gi τ 124 j = (wsP ld to p0 j : Nat)) ∧ EqP PSh σ τ) ∧
    (¬ faR ld to 8 p0 < 1000000 → Wp (f_Mo_layShortest p0 to σ) fun v τ => v = -1 ∧ gi τ 86 67 = 0 ∧ EqP PSh σ τ) := by
  have l0 := hok.1
  constructor
  · intro n hn he hne hf
    unfold f_Mo_layShortest
    refine wp_call (x_farM hok to hto σ hM) ?_
    rintro _ s1 ⟨hF1, hE1⟩
    refine wp_os (wp_oc (by omega) ?_)
    have hE2 : EqP PSh σ (si s1 86 67 0) := EqP.si (hE1.mo (fun r k h => by omega)) _ _ _ (by omega)
    have hF2 : FRow (si s1 86 67 0) 123 (faR ld to 8) := fun j hj => by simp (disch := omega) only [gi_same, gi_ne_r, gi_ne_k, gi_sr_same, gi_sr_ne, gj_sj_same, gj_sj_ne_r, gj_sj_ne_k, gj_si, gi_sj, gj_sr, iwc, jwc, Int.toNat_natCast, tdn, tmn, b0, b1, yc0, yc1]; exact hF1 j hj
    have g67 : gi (si s1 86 67 0) 86 67 = ((0 : Nat) : Int) := gi_same _ _ _ _
    rw [Int.toNat_natCast, hF2 p0 (by omega)]
    refine wp_t hf ?_
    refine wp_mono (x_shortLoop hok hto hp0 hf hn he hne (si s1 86 67 0) (hM.of hE2 (fun r k z => by omega)) hF2 n 0 FU _ (by omega) (by unfold FU; omega) (EqP.rf _ _) g67 (fun j hj => by omega)) ?_
    rintro v τ ⟨k1, k2, k3, k4⟩
    exact ⟨k1, k2, k3, hE2.tr (k4.mo (fun r k h => by omega))⟩
  · intro hf
    unfold f_Mo_layShortest
    refine wp_call (x_farM hok to hto σ hM) ?_
    rintro _ s1 ⟨hF1, hE1⟩
    refine wp_os (wp_oc (by omega) ?_)
    have hF2 : FRow (si s1 86 67 0) 123 (faR ld to 8) := fun j hj => by simp (disch := omega) only [gi_same, gi_ne_r, gi_ne_k, gi_sr_same, gi_sr_ne, gj_sj_same, gj_sj_ne_r, gj_sj_ne_k, gj_si, gi_sj, gj_sr, iwc, jwc, Int.toNat_natCast, tdn, tmn, b0, b1, yc0, yc1]; exact hF1 j hj
    rw [Int.toNat_natCast, hF2 p0 (by omega)]
    exact wp_f hf (wp_some ⟨rfl, gi_same _ _ _ _, EqP.si (hE1.mo (fun r k h => by omega)) _ _ _ (by omega)⟩)
abbrev SCl : Nat → Nat → Prop := fun r k => SC r k ∨ r = 61 ∨ r = 65 ∨ r = 122 ∨ r = 86 ∧ k = 62
theorem Inv.ly {σ τ : SS} (h : Inv σ) (he : EqP SCl σ τ) (hl : LY τ) : Inv τ := by
  obtain ⟨ld, bk, h1, h2, h3, h4, h5, h6, h7, h8⟩ := h
  exact ⟨ld, bk, h1, h2.of he (fun r k z => by omega), h3.of he (fun r k z => by omega), h4.of (fun r k z => he.i r k (by omega)), h5.of (fun r k z => he.i r k (by omega)), hl, h7.of (fun r k z => he r k (by omega)), h8.of (fun r k z => he.i r k (by omega))⟩
theorem x_layLoop {n : Nat} (hn : n ≤ 12) (wf : Nat → Nat) (v : Int) (σ0 : SS) :
    ∀ (r i fu : Nat) (σ : SS), i + r = n → r < fu → EqP (fun r k => r = 61 ∧ k = 5 ∨ r = 65) σ0 σ → gi σ 62 2 = n → (∀ j, j < n → gi σ 63 j = wf j) → gi σ 61 5 = i → (∀ j, j < i → gi σ 65 j = wf j) → Wp (l_Fi_layShortest_21 v fu i σ) fun x τ => x = v ∧ gi τ 61 5 = n ∧ (∀ j, j < n → gi τ 65 j = wf j) ∧ EqP (fun r k => r = 61 ∧ k = 5 ∨ r = 65) σ0 τ := by
  intro r
  induction r with
  | zero =>
    intro i fu σ hi hfu hE h62 h63 h61 h65
    obtain ⟨fu, rfl⟩ : ∃ f, fu = f + 1 := ⟨fu - 1, by omega⟩
    obtain rfl : i = n := by omega
    rw [l_Fi_layShortest_21]
    exact wp_t (by omega) (wp_some ⟨rfl, h61, h65, hE⟩)
  | succ r ih =>
    intro i fu σ hi hfu hE h62 h63 h61 h65
    obtain ⟨fu, rfl⟩ : ∃ f, fu = f + 1 := ⟨fu - 1, by omega⟩
    rw [l_Fi_layShortest_21]
    refine wp_f (by omega) (wp_f (by omega) (wp_oc (by omega) ?_))
    rw [Int.toNat_natCast, h63 i (by omega)]
    refine wp_eq (x_lay h61 (by omega) _) ?_
    rw [show iw ((i : Int) + 1) = ((i + 1 : Nat) : Int) by rw [iwc (by omega) (by omega)]; omega]
    refine ih (i + 1) fu _ (by omega) (by omega) (EqP.si (EqP.si hE _ _ _ (by omega)) _ _ _ (by omega)) (by simp (disch := omega) only [gi_same, gi_ne_r, gi_ne_k, gi_sr_same, gi_sr_ne, gj_sj_same, gj_sj_ne_r, gj_sj_ne_k, gj_si, gi_sj, gj_sr, iwc, jwc, Int.toNat_natCast, tdn, tmn, b0, b1, yc0, yc1]; exact h62) (fun j hj => by simp (disch := omega) only [gi_same, gi_ne_r, gi_ne_k, gi_sr_same, gi_sr_ne, gj_sj_same, gj_sj_ne_r, gj_sj_ne_k, gj_si, gi_sj, gj_sr, iwc, jwc, Int.toNat_natCast, tdn, tmn, b0, b1, yc0, yc1]; exact h63 j hj) (by simp (disch := omega) only [gi_same, gi_ne_r, gi_ne_k, gi_sr_same, gi_sr_ne, gj_sj_same, gj_sj_ne_r, gj_sj_ne_k, gj_si, gi_sj, gj_sr, iwc, jwc, Int.toNat_natCast, tdn, tmn, b0, b1, yc0, yc1]) (fun j hj => ?_)
    by_cases hji : j = i
    · rw [hji]; simp (disch := omega) only [gi_same, gi_ne_r, gi_ne_k, gi_sr_same, gi_sr_ne, gj_sj_same, gj_sj_ne_r, gj_sj_ne_k, gj_si, gi_sj, gj_sr, iwc, jwc, Int.toNat_natCast, tdn, tmn, b0, b1, yc0, yc1]
    · simp (disch := omega) only [gi_same, gi_ne_r, gi_ne_k, gi_sr_same, gi_sr_ne, gj_sj_same, gj_sj_ne_r, gj_sj_ne_k, gj_si, gi_sj, gj_sr, iwc, jwc, Int.toNat_natCast, tdn, tmn, b0, b1, yc0, yc1]; exact h65 j (by omega)
theorem x_layLoopM {n : Nat} (hn : n ≤ 8) (wf : Nat → Nat) (v : Int) (σ0 : SS) :
    ∀ (r i fu : Nat) (σ : SS), i + r = n → r < fu → EqP (fun r k => r = 86 ∧ k = 62 ∨ r = 122) σ0 σ → gi σ 86 67 = n → (∀ j, j < n → gi σ 124 j = wf j) → (∀ j, j < i → gi σ 122 j = wf j) → Wp (l_Mo_shortest_33 v fu i σ) fun x τ => x = v ∧ gi τ 86 62 = n ∧ (∀ j, j < n → gi τ 122 j = wf j) ∧ EqP (fun r k => r = 86 ∧ k = 62 ∨ r = 122) σ0 τ := by
  intro r
  induction r with
  | zero =>
    intro i fu σ hi hfu hE h62 h63 h65
    obtain ⟨fu, rfl⟩ : ∃ f, fu = f + 1 := ⟨fu - 1, by omega⟩
    obtain rfl : i = n := by omega
    rw [l_Mo_shortest_33]
    refine wp_t (by omega) (wp_os (wp_some ⟨rfl, ?_, fun j hj => ?_, EqP.si hE _ _ _ (by omega)⟩))
    · simp (disch := omega) only [gi_same, gi_ne_r, gi_ne_k, gi_sr_same, gi_sr_ne, gj_sj_same, gj_sj_ne_r, gj_sj_ne_k, gj_si, gi_sj, gj_sr, iwc, jwc, Int.toNat_natCast, tdn, tmn, b0, b1, yc0, yc1]; exact h62
    · simp (disch := omega) only [gi_same, gi_ne_r, gi_ne_k, gi_sr_same, gi_sr_ne, gj_sj_same, gj_sj_ne_r, gj_sj_ne_k, gj_si, gi_sj, gj_sr, iwc, jwc, Int.toNat_natCast, tdn, tmn, b0, b1, yc0, yc1]; exact h65 j hj
  | succ r ih =>
    intro i fu σ hi hfu hE h62 h63 h65
    obtain ⟨fu, rfl⟩ : ∃ f, fu = f + 1 := ⟨fu - 1, by omega⟩
    rw [l_Mo_shortest_33]
    refine wp_f (by omega) (wp_oc (by omega) (wp_oc (by omega) (wp_os ?_)))
    rw [Int.toNat_natCast, h63 i (by omega), show iw ((i : Int) + 1) = ((i + 1 : Nat) : Int) by rw [iwc (by omega) (by omega)]; omega]
    refine ih (i + 1) fu _ (by omega) (by omega) (EqP.si hE _ _ _ (by omega)) (by simp (disch := omega) only [gi_same, gi_ne_r, gi_ne_k, gi_sr_same, gi_sr_ne, gj_sj_same, gj_sj_ne_r, gj_sj_ne_k, gj_si, gi_sj, gj_sr, iwc, jwc, Int.toNat_natCast, tdn, tmn, b0, b1, yc0, yc1]; exact h62) (fun j hj => by simp (disch := omega) only [gi_same, gi_ne_r, gi_ne_k, gi_sr_same, gi_sr_ne, gj_sj_same, gj_sj_ne_r, gj_sj_ne_k, gj_si, gi_sj, gj_sr, iwc, jwc, Int.toNat_natCast, tdn, tmn, b0, b1, yc0, yc1]; exact h63 j hj) (fun j hj => ?_)
    by_cases hji : j = i
    · rw [hji]; simp (disch := omega) only [gi_same, gi_ne_r, gi_ne_k, gi_sr_same, gi_sr_ne, gj_sj_same, gj_sj_ne_r, gj_sj_ne_k, gj_si, gi_sj, gj_sr, iwc, jwc, Int.toNat_natCast, tdn, tmn, b0, b1, yc0, yc1]
    · simp (disch := omega) only [gi_same, gi_ne_r, gi_ne_k, gi_sr_same, gi_sr_ne, gj_sj_same, gj_sj_ne_r, gj_sj_ne_k, gj_si, gi_sj, gj_sr, iwc, jwc, Int.toNat_natCast, tdn, tmn, b0, b1, yc0, yc1]; exact h65 j (by omega)
theorem y_shortest (a b : Int) : MP (f_Qu_shortest a b) (f_Mo_shortest a b) := by
  rintro σ ⟨ld, bk, hok, hL, hM, hEA, hRO, hLY, hRP, hTA⟩
  have hI : Inv σ := ⟨ld, bk, hok, hL, hM, hEA, hRO, hLY, hRP, hTA⟩
  unfold f_Qu_shortest f_Mo_shortest f_Fi_layShortest
  refine wp_ob (wp_eq (x_layNothing σ) ?_)
  have hE1 : EqP SCl σ (si σ 61 5 0) := by repeat (first | exact EqP.rf _ _ | (refine EqP.si ?_ _ _ _ (by omega)) | (refine EqP.sj ?_ _ _ _ (by omega)) | (refine EqP.sr ?_ _ _ (fun k => by omega)))
  have h61 : gi (si σ 61 5 0) 61 5 = 0 := gi_same _ _ _ _
  generalize si σ 61 5 0 = s1 at hE1 h61 ⊢
  have hL1 := hL.of hE1 (fun r k z => by omega)
  by_cases hc : 0 ≤ a ∧ a < gi ld 2 0 ∧ 0 ≤ b ∧ b < gi ld 2 0 ∧ faR ld b.toNat 8 a.toNat < 1000000
  · obtain ⟨n, hn, he, hne, hw⟩ := (x_findPath hok hL1 a b).1 hc
    refine wp_call hw ?_
    rintro _ s2 ⟨rfl, hR2, hE2⟩
    obtain ⟨c1, c2, c3, c4, c5⟩ := hc
    have hnn := (faR_nbr hok b.toNat 8).2.1 a.toNat
    refine wp_f (by omega) ?_
    refine wp_mono (x_layLoop (by omega) (wsP ld b.toNat a.toNat) _ s2 n 0 FU s2 (by omega) (by unfold FU; omega) (EqP.rf _ _) hR2.1 (fun j hj => (hR2.2.2 j hj).1) (by rw [hE2.i _ _ (by omega)]; exact h61) (fun j hj => by omega)) ?_
    rintro x s3 ⟨rfl, h3a, h3b, hE3⟩
    refine wp_some (wp_os ?_)
    have hE03 : EqP SCl σ s3 := (hE1.tr (hE2.mo (fun r k h => by omega))).tr (hE3.mo (fun r k h => by omega))
    have hE4 : EqP SCl σ (si s3 86 62 0) := EqP.si hE03 _ _ _ (by omega)
    have hM4 := hM.of hE4 (fun r k z => by omega)
    have k61 : gi (si s3 86 62 0) 61 5 = n := by simp (disch := omega) only [gi_same, gi_ne_r, gi_ne_k, gi_sr_same, gi_sr_ne, gj_sj_same, gj_sj_ne_r, gj_sj_ne_k, gj_si, gi_sj, gj_sr, iwc, jwc, Int.toNat_natCast, tdn, tmn, b0, b1, yc0, yc1]; exact h3a
    have k65 : ∀ j, j < n → gi (si s3 86 62 0) 65 j = wsP ld b.toNat a.toNat j := fun j hj => by simp (disch := omega) only [gi_same, gi_ne_r, gi_ne_k, gi_sr_same, gi_sr_ne, gj_sj_same, gj_sj_ne_r, gj_sj_ne_k, gj_si, gi_sj, gj_sr, iwc, jwc, Int.toNat_natCast, tdn, tmn, b0, b1, yc0, yc1]; exact h3b j hj
    generalize si s3 86 62 0 = s4 at hE4 hM4 k61 k65 ⊢
    refine wp_b1 (x_isPlaceM hok hM4 _) ⟨c1, c2⟩ (wp_f (by decide) ?_)
    refine wp_b1 (x_isPlaceM hok hM4 _) ⟨c3, c4⟩ (wp_f (by decide) ?_)
    have hls := (x_layShortestM hok hM4 (p0 := a.toNat) (to := b.toNat) (by omega) (by omega)).1 n hn he hne c5
    rw [show ((a.toNat : Nat) : Int) = a by omega, show ((b.toNat : Nat) : Int) = b by omega] at hls
    refine wp_call hls ?_
    rintro r6 s6 ⟨hr6, h67, h124, hE6⟩
    refine wp_mono (x_layLoopM (by omega) (wsP ld b.toNat a.toNat) r6 s6 n 0 FU s6 (by omega) (by unfold FU; omega) (EqP.rf _ _) h67 h124 (fun j hj => by omega)) ?_
    rintro x τ ⟨rfl, h62, h122, hE7⟩
    have hEt : EqP SCl σ τ := (hE4.tr (hE6.mo (fun r k h => by omega))).tr (hE7.mo (fun r k h => by omega))
    refine ⟨hr6.symm, hI.ly hEt ⟨n, by omega, ?_, h62, fun j hj => ?_⟩⟩
    · rw [hE7.i _ _ (by omega), hE6.i _ _ (by omega)]; exact k61
    · rw [hE7.i 65 _ (by omega), hE6.i _ _ (by omega), k65 j hj, h122 j hj]
  · refine wp_call ((x_findPath hok hL1 a b).2 hc) ?_
    rintro _ s2 ⟨rfl, hE2⟩
    refine wp_t rfl (wp_some (wp_some (wp_os ?_)))
    have hE4 : EqP SCl σ (si s2 86 62 0) := EqP.si (hE1.tr (hE2.mo (fun r k h => by omega))) _ _ _ (by omega)
    have hM4 := hM.of hE4 (fun r k z => by omega)
    have k61 : gi (si s2 86 62 0) 61 5 = 0 := by simp (disch := omega) only [gi_same, gi_ne_r, gi_ne_k, gi_sr_same, gi_sr_ne, gj_sj_same, gj_sj_ne_r, gj_sj_ne_k, gj_si, gi_sj, gj_sr, iwc, jwc, Int.toNat_natCast, tdn, tmn, b0, b1, yc0, yc1]; rw [hE2.i _ _ (by omega)]; exact h61
    have k62 : gi (si s2 86 62 0) 86 62 = 0 := gi_same _ _ _ _
    generalize si s2 86 62 0 = s4 at hE4 hM4 k61 k62 ⊢
    have fin : ∀ τ, EqP PSh s4 τ → Inv τ := fun τ h => hI.ly (hE4.tr (h.mo (fun r k h => by omega))) ⟨0, by omega, by rw [h.i _ _ (by omega)]; exact k61, by rw [h.i _ _ (by omega)]; exact k62, fun j hj => by omega⟩
    by_cases h1 : 0 ≤ a ∧ a < gi ld 2 0
    · refine wp_b1 (x_isPlaceM hok hM4 _) h1 (wp_f (by decide) ?_)
      by_cases h2 : 0 ≤ b ∧ b < gi ld 2 0
      · refine wp_b1 (x_isPlaceM hok hM4 _) h2 (wp_f (by decide) ?_)
        have hls := (x_layShortestM hok hM4 (p0 := a.toNat) (to := b.toNat) (by omega) (by omega)).2 (fun z => hc ⟨h1.1, h1.2, h2.1, h2.2, z⟩)
        rw [show ((a.toNat : Nat) : Int) = a by omega, show ((b.toNat : Nat) : Int) = b by omega] at hls
        refine wp_call hls ?_
        rintro r6 s6 ⟨rfl, h67, hE6⟩
        obtain ⟨f', hf'⟩ : ∃ f', FU = f' + 1 := ⟨FU - 1, by unfold FU; omega⟩
        rw [hf', l_Mo_shortest_33]
        refine wp_t (by omega) (wp_os (wp_some ⟨rfl, ?_⟩))
        rw [h67]
        refine hI.ly (EqP.si (hE4.tr (hE6.mo (fun r k h => by omega))) _ _ _ (by omega)) ⟨0, by omega, ?_, ?_, fun j hj => by omega⟩
        · simp (disch := omega) only [gi_same, gi_ne_r, gi_ne_k, gi_sr_same, gi_sr_ne, gj_sj_same, gj_sj_ne_r, gj_sj_ne_k, gj_si, gi_sj, gj_sr, iwc, jwc, Int.toNat_natCast, tdn, tmn, b0, b1, yc0, yc1]; rw [hE6.i _ _ (by omega)]; exact k61
        · simp (disch := omega) only [gi_same, gi_ne_r, gi_ne_k, gi_sr_same, gi_sr_ne, gj_sj_same, gj_sj_ne_r, gj_sj_ne_k, gj_si, gi_sj, gj_sr, iwc, jwc, Int.toNat_natCast, tdn, tmn, b0, b1, yc0, yc1]; rfl
      · exact wp_b0 (x_isPlaceM hok hM4 _) h2 (wp_t rfl (wp_some ⟨rfl, fin _ (EqP.rf _ _)⟩))
    · exact wp_b0 (x_isPlaceM hok hM4 _) h1 (wp_t rfl (wp_some ⟨rfl, fin _ (EqP.rf _ _)⟩))
/-- it ends just at the end of the path -/
noncomputable def ejP (ld : SS) (tp : Nat → Int) (n : Nat) (wf ef : Nat → Nat) (t : Nat × Nat × Nat) : Bool := (goP ld tp t.1 t.2.1 wf ef n 0 0 (begP ld t.2.2)).1 && decide ((goP ld tp t.1 t.2.1 wf ef n 0 0 (begP ld t.2.2)).2.1 = n - 1 ∧ gi ld 8 (wf (goP ld tp t.1 t.2.1 wf ef n 0 0 (begP ld t.2.2)).2.1) ≤ (goP ld tp t.1 t.2.1 wf ef n 0 0 (begP ld t.2.2)).2.2.1)
theorem goP_rng {ld : SS} {tp : Nat → Int} {a b : Nat} {wf ef : Nat → Nat} : ∀ (r i : Nat) (k : Int) (q : QQ), (goP ld tp a b wf ef r i k q).1 = true → i ≤ (goP ld tp a b wf ef r i k q).2.1 ∧ (goP ld tp a b wf ef r i k q).2.1 < i + r := by
  intro r
  induction r with
  | zero => intro i k q h; simp [goP] at h
  | succ r ih =>
    intro i k q h
    rw [goP] at h ⊢
    split at h
    · rename_i hm; rw [if_pos hm]; dsimp only; omega
    · rename_i hm; rw [if_neg hm]; have := ih _ _ _ h; omega
theorem x_endsJust {ld σ : SS} (hok : LdOK ld) (hL : LC ld σ) {tp : Nat → Int} (htp : ∀ j, j < 12 → gi σ 47 j = tp j) {a b m : Nat} (hc : CPL ld a b m) {n p0 : Nat} {wf ef : Nat → Nat} (hp : Pth ld n wf ef p0) (hR : RC σ 62 n wf ef p0) {code : Int} (hcode : code = 100 * (a : Int) + 10 * (b : Int) + (m : Int)) : Wp (f_Fi_endsJustBehindPath code σ) fun r τ => r = (if ejP ld tp n wf ef (a, b, m) = true then 1 else 0) ∧ EqP (PSt 75) σ τ := by
  unfold f_Fi_endsJustBehindPath
  refine wp_call (x_stBegin (t := 75) hok hL (by omega) hc hcode) ?_
  rintro _ s2 ⟨hT2, h22, h23, hE2⟩
  obtain ⟨bq1, bq2⟩ := begP_ok hok hc.2.2.2.1
  have hR2 : RC s2 62 n wf ef p0 := ⟨by rw [hE2.i _ _ (by omega)]; exact hR.1, by rw [hE2.i _ _ (by omega)]; exact hR.2.1, fun j hj => by rw [hE2.i _ _ (by omega), hE2.i _ _ (by omega)]; exact hR.2.2 j hj⟩
  refine wp_call (x_goOn (t := 75) (u2 := 62) (tp := tp) hok (hL.of hE2 (fun r k z => by omega)) (by omega) (by omega) rfl (fun j hj => by rw [hE2.i _ _ (by omega)]; exact htp j hj) hc hp hR2 hT2 bq1 bq2 h22 h23) ?_
  rintro v s6 ⟨hv, hT6, h62, h63, hE6⟩
  have hE06 := hE2.tr hE6
  have hg := goP_rng (ld := ld) (tp := tp) (a := a) (b := b) (wf := wf) (ef := ef) n 0 0 (begP ld m)
  unfold ejP
  dsimp only
  generalize goP ld tp a b wf ef n 0 0 (begP ld m) = G at hv hT6 h62 h63 hg ⊢
  by_cases hG : G.1 = true
  · rw [if_pos hG] at hv
    refine wp_f (by omega) ?_
    have hR6 : RC s6 62 n wf ef p0 := ⟨by rw [hE6.i _ _ (by omega)]; exact hR2.1, by rw [hE6.i _ _ (by omega)]; exact hR2.2.1, fun j hj => by rw [hE6.i _ _ (by omega), hE6.i _ _ (by omega)]; exact hR2.2.2 j hj⟩
    have hgr := hg hG
    have he := x_isAtEnd hok (hL.of hE06 (fun r k z => by omega)) hp hR6 (i := G.2.1) (by omega) h62 h63
    by_cases hx : G.2.1 = n - 1 ∧ gi ld 8 (wf G.2.1) ≤ G.2.2.1
    · exact wp_b1 he hx (wp_f (by decide) (wp_some ⟨by rw [hG, decide_eq_true hx]; rfl, hE06⟩))
    · exact wp_b0 he hx (wp_t rfl (wp_some ⟨by rw [hG, decide_eq_false hx]; rfl, hE06⟩))
  · rw [if_neg hG] at hv
    refine wp_t hv (wp_some ⟨?_, hE06⟩)
    rw [Bool.not_eq_true] at hG
    rw [hG]; rfl
