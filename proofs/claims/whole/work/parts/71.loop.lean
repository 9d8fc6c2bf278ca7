/-! the law: the loop -/
theorem lw_loop (xs : Nat → Int32) (L : Nat) (hL : L ≤ 3584) (hm_land : MP f_Qu_land f_Mo_land) (hm_home : ∀ a b c d e f, MP (f_Qu_home a b c d e f) (f_Mo_home a b c d e f)) (hm_temper : ∀ a b c d, MP (f_Qu_temper a b c d) (f_Mo_temper a b c d)) : ∀ (fu : Nat) (x3 : Int) (σ : SS), 0 ≤ x3 → x3 ≤ L → (L : Int) - x3 < fu → Inv σ → Wp (l_Law_18 xs L fu x3 σ) fun r _ => r = 1 := by
  intro fu
  induction fu with
  | zero =>
    intro x3 σ h0 hl hf hI
    omega
  | succ fu ih =>
    intro x3 σ h0 hl hf hI
    rw [l_Law_18, iwc (x := (L : Int) - 7) (by omega) (by omega)]
    by_cases h : (L : Int) - 7 < x3
    · exact wp_t h (wp_some rfl)
    · have h7 : x3 + 7 ≤ L := by omega
      have hs : ∀ τ, Inv τ → Wp (l_Law_18 xs L fu (x3 + 7) τ) fun r _ => r = 1 := fun τ hτ => ih (x3 + 7) τ (by omega) h7 (by omega) hτ
      refine wp_f h (wp_oc (by omega) (wp_ol ?_))
      generalize zand ((xs (x3).toNat).toInt) 63 = z
      refine wp_i (fun _ => lw_196 xs L _ x3 σ h0 h7 hL hI hs) (fun _ => ?_)
      refine wp_i (fun _ => lw_259 xs L _ x3 σ h0 h7 hL hI hs) (fun _ => ?_)
      refine wp_i (fun _ => lw_282 xs L _ x3 σ h0 h7 hL hI hs hm_land) (fun _ => ?_)
      refine wp_i (fun _ => lw_295 xs L _ x3 σ h0 h7 hL hI hs) (fun _ => ?_)
      refine wp_i (fun _ => lw_318 xs L _ x3 σ h0 h7 hL hI hs) (fun _ => ?_)
      refine wp_i (fun _ => lw_351 xs L _ x3 σ h0 h7 hL hI hs) (fun _ => ?_)
      refine wp_i (fun _ => lw_384 xs L _ x3 σ h0 h7 hL hI hs) (fun _ => ?_)
      refine wp_i (fun _ => lw_427 xs L _ x3 σ h0 h7 hL hI hs) (fun _ => ?_)
      refine wp_i (fun _ => lw_480 xs L _ x3 σ h0 h7 hL hI hs) (fun _ => ?_)
      refine wp_i (fun _ => lw_533 xs L _ x3 σ h0 h7 hL hI hs) (fun _ => ?_)
      refine wp_i (fun _ => lw_556 xs L _ x3 σ h0 h7 hL hI hs) (fun _ => ?_)
      refine wp_i (fun _ => lw_579 xs L _ x3 σ h0 h7 hL hI hs) (fun _ => ?_)
      refine wp_i (fun _ => lw_592 xs L _ x3 σ h0 h7 hL hI hs) (fun _ => ?_)
      refine wp_i (fun _ => lw_615 xs L _ x3 σ h0 h7 hL hI hs) (fun _ => ?_)
      refine wp_i (fun _ => lw_628 xs L _ x3 σ h0 h7 hL hI hs) (fun _ => ?_)
      refine wp_i (fun _ => lw_641 xs L _ x3 σ h0 h7 hL hI hs) (fun _ => ?_)
      refine wp_i (fun _ => lw_664 xs L _ x3 σ h0 h7 hL hI hs) (fun _ => ?_)
      refine wp_i (fun _ => lw_687 xs L _ x3 σ h0 h7 hL hI hs) (fun _ => ?_)
      refine wp_i (fun _ => lw_740 xs L _ x3 σ h0 h7 hL hI hs) (fun _ => ?_)
      refine wp_i (fun _ => lw_773 xs L _ x3 σ h0 h7 hL hI hs) (fun _ => ?_)
      refine wp_i (fun _ => lw_806 xs L _ x3 σ h0 h7 hL hI hs) (fun _ => ?_)
      refine wp_i (fun _ => lw_885 xs L _ x3 σ h0 h7 hL hI hs) (fun _ => ?_)
      refine wp_i (fun _ => lw_918 xs L _ x3 σ h0 h7 hL hI hs) (fun _ => ?_)
      refine wp_i (fun _ => lw_931 xs L _ x3 σ h0 h7 hL hI hs) (fun _ => ?_)
      refine wp_i (fun _ => lw_944 xs L _ x3 σ h0 h7 hL hI hs) (fun _ => ?_)
      refine wp_i (fun _ => lw_957 xs L _ x3 σ h0 h7 hL hI hs) (fun _ => ?_)
      refine wp_i (fun _ => lw_1010 xs L _ x3 σ h0 h7 hL hI hs hm_home) (fun _ => ?_)
      refine wp_i (fun _ => lw_1085 xs L _ x3 σ h0 h7 hL hI hs hm_temper) (fun _ => ?_)
      refine wp_i (fun _ => lw_1138 xs L _ x3 σ h0 h7 hL hI hs) (fun _ => ?_)
      refine wp_i (fun _ => lw_1161 xs L _ x3 σ h0 h7 hL hI hs) (fun _ => ?_)
      refine wp_i (fun _ => lw_1214 xs L _ x3 σ h0 h7 hL hI hs) (fun _ => ?_)
      refine wp_i (fun _ => lw_1237 xs L _ x3 σ h0 h7 hL hI hs) (fun _ => ?_)
      refine wp_i (fun _ => lw_1260 xs L _ x3 σ h0 h7 hL hI hs) (fun _ => ?_)
      refine wp_i (fun _ => lw_1284 xs L _ x3 σ h0 h7 hL hI hs) (fun _ => ?_)
      refine wp_i (fun _ => lw_1317 xs L _ x3 σ h0 h7 hL hI hs) (fun _ => ?_)
      refine wp_i (fun _ => lw_1340 xs L _ x3 σ h0 h7 hL hI hs) (fun _ => ?_)
      refine wp_i (fun _ => lw_1363 xs L _ x3 σ h0 h7 hL hI hs) (fun _ => ?_)
      rw [iwc (x := x3 + 7) (by omega) (by omega)]
      exact hs σ hI
