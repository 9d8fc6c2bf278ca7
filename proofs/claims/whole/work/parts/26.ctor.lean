def PLr : List (Nat × Nat) := [(0, 0), (2, 1), (2, 2), (2, 3), (2, 5), (2, 6), (2, 7), (2, 8), (2, 10), (2, 11), (2, 13), (2, 14), (2, 15), (2, 16), (16, 0), (16, 1), (2, 18), (19, 0), (19, 1), (2, 19), (0, 2), (22, 1), (22, 2), (22, 3), (22, 5), (22, 6), (22, 7), (22, 8), (22, 10), (22, 11), (22, 13), (22, 14), (22, 15), (22, 16), (36, 0), (36, 1), (22, 18), (39, 0), (39, 1), (22, 19), (0, 3), (43, 0), (42, 0), (44, 1), (44, 0), (42, 1), (0, 4), (46, 1), (46, 8), (46, 12), (46, 13), (46, 0), (51, 1), (51, 2), (51, 0), (46, 3), (0, 5), (54, 0), (54, 1), (0, 6), (57, 0), (58, 1), (58, 2), (58, 0), (57, 1), (0, 7), (62, 0), (62, 1), (61, 3), (61, 4), (61, 6), (61, 7), (61, 8), (61, 10), (61, 11), (61, 12), (61, 14), (61, 15), (61, 16), (61, 0), (61, 1), (75, 0), (76, 1), (76, 2), (76, 0), (75, 1), (61, 2), (0, 8), (79, 4), (79, 5), (79, 6), (79, 0), (83, 1), (83, 2), (83, 0), (79, 1), (0, 9), (86, 0), (86, 1), (86, 11), (86, 12), (86, 13), (86, 14), (86, 15), (86, 16), (86, 17), (86, 18), (86, 19), (86, 20), (86, 21), (86, 22), (86, 23), (86, 24), (86, 25), (86, 26), (86, 27), (86, 28), (86, 29), (86, 30), (86, 31), (86, 32), (86, 33), (86, 34), (86, 35), (86, 36), (86, 37), (86, 38), (86, 39), (86, 52), (86, 53), (86, 55), (86, 58), (86, 59), (86, 65), (86, 66), (86, 69), (86, 70), (86, 71), (86, 72), (86, 73), (86, 74), (86, 75), (86, 76), (86, 77), (86, 78), (86, 81), (86, 82), (86, 83)]
def nlE (e : Nat) : Nat → Nat → Bool := fun i k => (PLr.take e).any fun q => q.1 == i && q.2 == k
theorem nlE_cl {n e : Nat} (h : ((PLr.take e).all fun q => decide (n ≤ q.1) || decide (rf q.1 q.2 < n)) = true) : ∀ i, i < n → ∀ k, nlE e i k = true → rf i k < n := by
  intro i hi k hk
  obtain ⟨q, hq, h2⟩ := List.any_eq_true.mp hk
  have h3 := List.all_eq_true.mp h q hq
  simp only [Bool.and_eq_true, beq_iff_eq] at h2
  obtain ⟨rfl, rfl⟩ := h2
  simp only [Bool.or_eq_true, decide_eq_true_eq] at h3
  omega
theorem nlE_no {n e : Nat} (h : ((PLr.take e).all fun q => !(q.1 == n)) = true) : ∀ k, nlE e n k = false := by
  intro k
  unfold nlE
  rw [List.any_eq_false]
  intro q hq
  have h3 := List.all_eq_true.mp h q hq
  simp at h3
  simp [h3]
theorem nlE_nu {e i k : Nat} (h : PLr[e]? = some (i, k)) : nu (nlE e) i k = nlE (e + 1) := by
  funext i' k'
  unfold nu nlE
  rw [List.take_add_one, h, List.any_append]
  by_cases hq : i' = i ∧ k' = k
  · rw [if_pos hq, hq.1, hq.2]; simp
  · rw [if_neg hq]
    have : ((i, k).1 == i' && (i, k).2 == k') = false := by
      rw [Bool.and_eq_false_iff]
      by_cases h1 : i' = i
      · right; simp; exact fun z => hq ⟨h1, z.symm⟩
      · left; simp; exact fun z => h1 z.symm
    simp [this]
theorem vt_out : ∀ c, c < 20 → ∀ k, 90 ≤ k → vt c k = 3 := by
  intro c hc k hk
  have hl : ∀ x ∈ vTl, x.length ≤ 90 := by decide +kernel
  unfold vt
  rw [List.getD_eq_getElem?_getD (l := vTl.getD c [])]
  have : (vTl.getD c []).length ≤ 90 := by
    rw [List.getD_eq_getElem?_getD]
    cases h : vTl[c]? with
    | none => simp
    | some v => exact hl v (List.mem_of_getElem? h)
  rw [List.getElem?_eq_none (by omega)]
  rfl
theorem rC_all (i : Nat) : rC i < 20 ∨ rC i = 99 := by
  have hl : ∀ x ∈ rCl, x < 20 := by decide +kernel
  unfold rC
  rw [List.getD_eq_getElem?_getD]
  cases h : rCl[i]? with
  | none => exact Or.inr rfl
  | some v => exact Or.inl (hl v (List.mem_of_getElem? h))
theorem nlE_WH {n e : Nat} (h : ((List.range n).all fun i => i == 0 || (List.range 90).all fun k => !(vt (rC i) k == 2) || nlE e i k) = true) (hc : ((PLr.take e).all fun q => decide (n ≤ q.1) || decide (rf q.1 q.2 < n)) = true) : w_WH n (nlE e) := by
  refine ⟨fun i hi h0 k hk => ?_, nlE_cl hc⟩
  have h1 := List.all_eq_true.mp h i (List.mem_range.mpr hi)
  have h2 : k < 90 := by
    by_cases hk9 : k < 90
    · exact hk9
    · exfalso
      rcases rC_all i with q | q
      · rw [vt_out _ q k (by omega)] at hk; exact absurd hk (by decide)
      · rw [q] at hk
        have : vt 99 k = 3 := rfl
        rw [this] at hk; exact absurd hk (by decide)
  rcases Bool.or_eq_true _ _ |>.mp h1 with q | q
  · exact absurd (by simpa using q) h0
  · have h3 := List.all_eq_true.mp q k (List.mem_range.mpr h2)
    simpa [hk] using h3
set_option maxRecDepth 100000 in
theorem ac_byte : Cond.arrayClass .byte ∈ GT := gt_in1 55 rfl rfl
set_option maxRecDepth 100000 in
theorem ac_int : Cond.arrayClass .int ∈ GT := gt_in1 57 rfl rfl
set_option maxRecDepth 100000 in
theorem ac_long : Cond.arrayClass .long ∈ GT := gt_in1 56 rfl rfl
set_option maxRecDepth 100000 in
theorem ac_boolean : Cond.arrayClass .boolean ∈ GT := gt_in2 51 rfl rfl
set_option maxRecDepth 100000 in
theorem nw_X11_17 : Cond.classLink RX11 17 RX4 ∈ GT ∧ Cond.instantiable RX4 20 ∈ GT ∧ Cond.initialized RX4 ∈ GT := ⟨gt_in1 28 rfl rfl, gt_in1 29 rfl rfl, gt_in1 2 rfl rfl⟩
set_option maxRecDepth 100000 in
theorem nw_X11_27 : Cond.classLink RX11 27 RX5 ∈ GT ∧ Cond.instantiable RX5 6 ∈ GT ∧ Cond.initialized RX5 ∈ GT := ⟨gt_in1 169 rfl rfl, gt_in1 170 rfl rfl, gt_in1 4 rfl rfl⟩
set_option maxRecDepth 100000 in
theorem nw_X11_29 : Cond.classLink RX11 29 RX10 ∈ GT ∧ Cond.instantiable RX10 7 ∈ GT ∧ Cond.initialized RX10 ∈ GT := ⟨gt_in1 171 rfl rfl, gt_in1 172 rfl rfl, gt_in1 5 rfl rfl⟩
set_option maxRecDepth 100000 in
theorem nw_X11_41 : Cond.classLink RX11 41 RX0 ∈ GT ∧ Cond.instantiable RX0 14 ∈ GT ∧ Cond.initialized RX0 ∈ GT := ⟨gt_in2 12 rfl rfl, gt_in2 13 rfl rfl, gt_in1 7 rfl rfl⟩
set_option maxRecDepth 100000 in
theorem nw_X11_50 : Cond.classLink RX11 50 RX7 ∈ GT ∧ Cond.instantiable RX7 4 ∈ GT ∧ Cond.initialized RX7 ∈ GT := ⟨gt_in2 119 rfl rfl, gt_in2 120 rfl rfl, gt_in1 9 rfl rfl⟩
set_option maxRecDepth 100000 in
theorem nw_X11_57 : Cond.classLink RX11 57 RX8 ∈ GT ∧ Cond.instantiable RX8 4 ∈ GT ∧ Cond.initialized RX8 ∈ GT := ⟨gt_in2 146 rfl rfl, gt_in2 147 rfl rfl, gt_in1 10 rfl rfl⟩
set_option maxRecDepth 100000 in
theorem nw_X11_64 : Cond.classLink RX11 64 RX1 ∈ GT ∧ Cond.instantiable RX1 20 ∈ GT ∧ Cond.initialized RX1 ∈ GT := ⟨gt_in2 171 rfl rfl, gt_in2 172 rfl rfl, gt_in1 11 rfl rfl⟩
set_option maxRecDepth 100000 in
theorem nw_X11_77 : Cond.classLink RX11 77 RX6 ∈ GT ∧ Cond.instantiable RX6 7 ∈ GT ∧ Cond.initialized RX6 ∈ GT := ⟨gt_in3 3 rfl rfl, gt_in3 4 rfl rfl, gt_in1 12 rfl rfl⟩
set_option maxRecDepth 100000 in
theorem nw_X4_52 : Cond.classLink RX4 52 RX2 ∈ GT ∧ Cond.instantiable RX2 4 ∈ GT ∧ Cond.initialized RX2 ∈ GT := ⟨gt_in1 34 rfl rfl, gt_in1 35 rfl rfl, gt_in1 3 rfl rfl⟩
set_option maxRecDepth 100000 in
theorem nw_X5_15 : Cond.classLink RX5 15 RX3 ∈ GT ∧ Cond.instantiable RX3 5 ∈ GT ∧ Cond.initialized RX3 ∈ GT := ⟨gt_in1 209 rfl rfl, gt_in1 210 rfl rfl, gt_in1 6 rfl rfl⟩
set_option maxRecDepth 100000 in
theorem nw_X0_29 : Cond.classLink RX0 29 RX9 ∈ GT ∧ Cond.instantiable RX9 7 ∈ GT ∧ Cond.initialized RX9 ∈ GT := ⟨gt_in2 18 rfl rfl, gt_in2 19 rfl rfl, gt_in1 8 rfl rfl⟩
set_option maxRecDepth 100000 in
theorem nw_X1_9 : Cond.classLink RX1 9 RX7 ∈ GT ∧ Cond.instantiable RX7 4 ∈ GT ∧ Cond.initialized RX7 ∈ GT := ⟨gt_in2 177 rfl rfl, gt_in2 120 rfl rfl, gt_in1 9 rfl rfl⟩
set_option maxRecDepth 100000 in
theorem nw_X1_56 : Cond.classLink RX1 56 RX8 ∈ GT ∧ Cond.instantiable RX8 4 ∈ GT ∧ Cond.initialized RX8 ∈ GT := ⟨gt_in2 179 rfl rfl, gt_in2 147 rfl rfl, gt_in1 10 rfl rfl⟩
set_option maxRecDepth 100000 in
theorem nw_X6_26 : Cond.classLink RX6 26 RX9 ∈ GT ∧ Cond.instantiable RX9 7 ∈ GT ∧ Cond.initialized RX9 ∈ GT := ⟨gt_in3 9 rfl rfl, gt_in2 19 rfl rfl, gt_in1 8 rfl rfl⟩
set_option maxRecDepth 100000 in
theorem nw_X8_15 : Cond.classLink RX8 15 RX9 ∈ GT ∧ Cond.instantiable RX9 7 ∈ GT ∧ Cond.initialized RX9 ∈ GT := ⟨gt_in2 152 rfl rfl, gt_in2 19 rfl rfl, gt_in1 8 rfl rfl⟩
set_option maxRecDepth 100000 in
theorem nw_L_7 : Cond.classLink RL 7 RX11 ∈ GT ∧ Cond.instantiable RX11 10 ∈ GT ∧ Cond.initialized RX11 ∈ GT := ⟨gt_in1 20 rfl rfl, gt_in1 21 rfl rfl, gt_in1 1 rfl rfl⟩
set_option maxRecDepth 100000 in
theorem nw_L_10 : Cond.classLink RL 10 RX12 ∈ GT ∧ Cond.instantiable RX12 84 ∈ GT ∧ Cond.initialized RX12 ∈ GT := ⟨gt_in6 75 rfl rfl, gt_in6 76 rfl rfl, gt_in1 13 rfl rfl⟩
theorem dv_0 : ∀ j, j < 14 → defaultValue (tyX0 j) = w_dv 0 j := by decide +kernel
theorem dv_1 : ∀ j, j < 20 → defaultValue (tyX1 j) = w_dv 1 j := by decide +kernel
theorem dv_2 : ∀ j, j < 4 → defaultValue (tyX2 j) = w_dv 2 j := by decide +kernel
theorem dv_3 : ∀ j, j < 5 → defaultValue (tyX3 j) = w_dv 3 j := by decide +kernel
theorem dv_4 : ∀ j, j < 20 → defaultValue (tyX4 j) = w_dv 4 j := by decide +kernel
theorem dv_5 : ∀ j, j < 6 → defaultValue (tyX5 j) = w_dv 5 j := by decide +kernel
theorem dv_6 : ∀ j, j < 7 → defaultValue (tyX6 j) = w_dv 6 j := by decide +kernel
theorem dv_7 : ∀ j, j < 4 → defaultValue (tyX7 j) = w_dv 7 j := by decide +kernel
theorem dv_8 : ∀ j, j < 4 → defaultValue (tyX8 j) = w_dv 8 j := by decide +kernel
theorem dv_9 : ∀ j, j < 7 → defaultValue (tyX9 j) = w_dv 9 j := by decide +kernel
theorem dv_10 : ∀ j, j < 7 → defaultValue (tyX10 j) = w_dv 10 j := by decide +kernel
theorem dv_11 : ∀ j, j < 10 → defaultValue (tyX11 j) = w_dv 11 j := by decide +kernel
theorem dv_12 : ∀ j, j < 84 → defaultValue (tyX12 j) = w_dv 12 j := by decide +kernel
set_option maxRecDepth 100000 in
theorem cv_i_Ea : w_CI yX0_init cX0_init 2 1 := ⟨⟨gt_in2 16 rfl rfl, gt_in1 7 rfl rfl, ⟨by decide +kernel, by decide +kernel⟩, by decide +kernel⟩, gt_in2 15 rfl rfl, rfl⟩
set_option maxRecDepth 100000 in
theorem cv_i_Fi : w_CI yX1_init cX1_init 3 2 := ⟨⟨gt_in2 175 rfl rfl, gt_in1 11 rfl rfl, ⟨by decide +kernel, by decide +kernel⟩, by decide +kernel⟩, gt_in2 174 rfl rfl, rfl⟩
set_option maxRecDepth 100000 in
theorem cv_i_Fo : w_CI yX2_init cX2_init 1 0 := ⟨⟨gt_in1 38 rfl rfl, gt_in1 3 rfl rfl, ⟨by decide +kernel, by decide +kernel⟩, by decide +kernel⟩, gt_in1 37 rfl rfl, rfl⟩
set_option maxRecDepth 100000 in
theorem cv_i_FR : w_CI yX3_init cX3_init 2 1 := ⟨⟨gt_in1 213 rfl rfl, gt_in1 6 rfl rfl, ⟨by decide +kernel, by decide +kernel⟩, by decide +kernel⟩, gt_in1 212 rfl rfl, rfl⟩
set_option maxRecDepth 100000 in
theorem cv_i_La : w_CI yX4_init cX4_init 1 0 := ⟨⟨gt_in1 32 rfl rfl, gt_in1 2 rfl rfl, ⟨by decide +kernel, by decide +kernel⟩, by decide +kernel⟩, gt_in1 31 rfl rfl, rfl⟩
set_option maxRecDepth 100000 in
theorem cv_i_Re : w_CI yX5_init cX5_init 2 1 := ⟨⟨gt_in1 207 rfl rfl, gt_in1 4 rfl rfl, ⟨by decide +kernel, by decide +kernel⟩, by decide +kernel⟩, gt_in1 206 rfl rfl, rfl⟩
set_option maxRecDepth 100000 in
theorem cv_i_Rp : w_CI yX6_init cX6_init 2 1 := ⟨⟨gt_in3 7 rfl rfl, gt_in1 12 rfl rfl, ⟨by decide +kernel, by decide +kernel⟩, by decide +kernel⟩, gt_in3 6 rfl rfl, rfl⟩
set_option maxRecDepth 100000 in
theorem cv_i_Ro : w_CI yX7_init cX7_init 1 0 := ⟨⟨gt_in2 123 rfl rfl, gt_in1 9 rfl rfl, ⟨by decide +kernel, by decide +kernel⟩, by decide +kernel⟩, gt_in2 122 rfl rfl, rfl⟩
set_option maxRecDepth 100000 in
theorem cv_i_St : w_CI yX8_init cX8_init 2 1 := ⟨⟨gt_in2 150 rfl rfl, gt_in1 10 rfl rfl, ⟨by decide +kernel, by decide +kernel⟩, by decide +kernel⟩, gt_in2 149 rfl rfl, rfl⟩
set_option maxRecDepth 100000 in
theorem cv_i_Ta : w_CI yX9_init cX9_init 2 1 := ⟨⟨gt_in2 22 rfl rfl, gt_in1 8 rfl rfl, ⟨by decide +kernel, by decide +kernel⟩, by decide +kernel⟩, gt_in2 21 rfl rfl, rfl⟩
set_option maxRecDepth 100000 in
theorem cv_i_To : w_CI yX10_init cX10_init 2 1 := ⟨⟨gt_in1 175 rfl rfl, gt_in1 5 rfl rfl, ⟨by decide +kernel, by decide +kernel⟩, by decide +kernel⟩, gt_in1 174 rfl rfl, rfl⟩
set_option maxRecDepth 100000 in
theorem cv_i_Qu : w_CI yX11_init cX11_init 1 0 := ⟨⟨gt_in1 24 rfl rfl, gt_in1 1 rfl rfl, ⟨by decide +kernel, by decide +kernel⟩, by decide +kernel⟩, gt_in1 23 rfl rfl, rfl⟩
set_option maxRecDepth 100000 in
theorem cv_i_Mo : w_CI yX12_init cX12_init 1 0 := ⟨⟨gt_in6 79 rfl rfl, gt_in1 13 rfl rfl, ⟨by decide +kernel, by decide +kernel⟩, by decide +kernel⟩, gt_in6 78 rfl rfl, rfl⟩
def rm_Fo_init_16 : Room := { frames := 1, cells := 2, slots := 352, locals := 20 }
noncomputable def f_Fo_init_16 (s0 : SS) : OO :=
  os (zr s0 17) fun s1 =>
  os (zr s1 18) fun s2 =>
  some (0, s2)
set_option maxRecDepth 20000 in
theorem m_Fo_init_16 {l : Launch} {D : va_G} {cs : Nat → ClassId} {aS aV : Nat} {A : Nat → Prop} {ad : Nat → Nat} {out : Int × SS} {s0 : SS} (hs0 : rS s0) (hf : f_Fo_init_16 s0 = some out) : w_MC l D cs aS aV A yX2_init cX2_init 1 0 rm_Fo_init_16 ad 17 (nlE 14) [.ref (ad 16)] s0 (w_Pi ad 17 19 16 nlE out) := by
  refine w_MC_of (by decide +kernel) (by decide) hs0 (Nat.le_of_ble_eq_true rfl) (fun K h hr => ?_)
  refine r_lv (lv' := [(0, .ref (ad 16))]) rfl ?_
  unfold f_Fo_init_16 at hf
  refine r_rS h (fun hs0 => ?_)
  refine r_aload_n h dX2_init_0 rfl 0 rfl ?_
  refine r_objInit h dX2_init_1 ml_X2_3 oi_i oi_c (Nat.le_of_ble_eq_true rfl) (Nat.le_of_ble_eq_true rfl) ?_
  refine r_aload_n h dX2_init_4 rfl 0 rfl ?_
  refine r_sipush h dX2_init_5 (by decide) ?_
  refine r_newaI (N := 320) (ty := .int) (co := 14) (t0 := 1) h dX2_init_8 ac_int rfl rfl (fun _ _ => rfl) rfl (by decide) (by decide) rC_17 rN_17 (by decide) (by decide) (nlE_cl (by decide +kernel)) (Nat.le_of_ble_eq_true rfl) (Nat.le_of_ble_eq_true rfl) (fun ad1 hE1 => ?_)
  refine r_lv (lv' := [(0, .ref (ad1 16))]) (by rw [hE1 16 (by decide)]) ?_
  refine r_st (st0 := [.ref (ad1 17), .ref (ad1 16)]) (by rw [hE1 16 (by decide)]) ?_
  refine r_os hf (fun s1 hf => ?_)
  refine r_rS h (fun hs1 => ?_)
  refine p_X2_9 h dX2_init_10 (by decide) rC_16 ?_
  rw [nlE_nu (e := 14) (by decide +kernel)]
  refine r_aload_n h dX2_init_13 rfl 0 rfl ?_
  refine r_bipush h dX2_init_14 (by decide) ?_
  refine r_newaI (N := 32) (ty := .int) (co := 14) (t0 := 1) h dX2_init_16 ac_int rfl rfl (fun _ _ => rfl) rfl (by decide) (by decide) rC_18 rN_18 (by decide) (by decide) (nlE_cl (by decide +kernel)) (Nat.le_of_ble_eq_true rfl) (Nat.le_of_ble_eq_true rfl) (fun ad2 hE2 => ?_)
  refine r_lv (lv' := [(0, .ref (ad2 16))]) (by rw [hE2 16 (by decide)]) ?_
  refine r_st (st0 := [.ref (ad2 18), .ref (ad2 16)]) (by rw [hE2 16 (by decide)]) ?_
  refine r_os hf (fun s2 hf => ?_)
  refine r_rS h (fun hs2 => ?_)
  refine p_X2_15 h dX2_init_18 (by decide) rC_16 ?_
  rw [nlE_nu (e := 15) (by decide +kernel)]
  exact hr _ _ _ _ _ 0 _ dX2_init_21 ⟨fun j hj => by rw [hE2 j (by omega), hE1 j (by omega)], rfl, rfl, by cases hf; rfl, by cases hf; rfl⟩ trivial
def rm_Fo_init_19 : Room := { frames := 1, cells := 2, slots := 352, locals := 20 }
noncomputable def f_Fo_init_19 (s0 : SS) : OO :=
  os (zr s0 20) fun s1 =>
  os (zr s1 21) fun s2 =>
  some (0, s2)
set_option maxRecDepth 20000 in
theorem m_Fo_init_19 {l : Launch} {D : va_G} {cs : Nat → ClassId} {aS aV : Nat} {A : Nat → Prop} {ad : Nat → Nat} {out : Int × SS} {s0 : SS} (hs0 : rS s0) (hf : f_Fo_init_19 s0 = some out) : w_MC l D cs aS aV A yX2_init cX2_init 1 0 rm_Fo_init_19 ad 20 (nlE 17) [.ref (ad 19)] s0 (w_Pi ad 20 22 19 nlE out) := by
  refine w_MC_of (by decide +kernel) (by decide) hs0 (Nat.le_of_ble_eq_true rfl) (fun K h hr => ?_)
  refine r_lv (lv' := [(0, .ref (ad 19))]) rfl ?_
  unfold f_Fo_init_19 at hf
  refine r_rS h (fun hs0 => ?_)
  refine r_aload_n h dX2_init_0 rfl 0 rfl ?_
  refine r_objInit h dX2_init_1 ml_X2_3 oi_i oi_c (Nat.le_of_ble_eq_true rfl) (Nat.le_of_ble_eq_true rfl) ?_
  refine r_aload_n h dX2_init_4 rfl 0 rfl ?_
  refine r_sipush h dX2_init_5 (by decide) ?_
  refine r_newaI (N := 320) (ty := .int) (co := 14) (t0 := 1) h dX2_init_8 ac_int rfl rfl (fun _ _ => rfl) rfl (by decide) (by decide) rC_20 rN_20 (by decide) (by decide) (nlE_cl (by decide +kernel)) (Nat.le_of_ble_eq_true rfl) (Nat.le_of_ble_eq_true rfl) (fun ad1 hE1 => ?_)
  refine r_lv (lv' := [(0, .ref (ad1 19))]) (by rw [hE1 19 (by decide)]) ?_
  refine r_st (st0 := [.ref (ad1 20), .ref (ad1 19)]) (by rw [hE1 19 (by decide)]) ?_
  refine r_os hf (fun s1 hf => ?_)
  refine r_rS h (fun hs1 => ?_)
  refine p_X2_9 h dX2_init_10 (by decide) rC_19 ?_
  rw [nlE_nu (e := 17) (by decide +kernel)]
  refine r_aload_n h dX2_init_13 rfl 0 rfl ?_
  refine r_bipush h dX2_init_14 (by decide) ?_
  refine r_newaI (N := 32) (ty := .int) (co := 14) (t0 := 1) h dX2_init_16 ac_int rfl rfl (fun _ _ => rfl) rfl (by decide) (by decide) rC_21 rN_21 (by decide) (by decide) (nlE_cl (by decide +kernel)) (Nat.le_of_ble_eq_true rfl) (Nat.le_of_ble_eq_true rfl) (fun ad2 hE2 => ?_)
  refine r_lv (lv' := [(0, .ref (ad2 19))]) (by rw [hE2 19 (by decide)]) ?_
  refine r_st (st0 := [.ref (ad2 21), .ref (ad2 19)]) (by rw [hE2 19 (by decide)]) ?_
  refine r_os hf (fun s2 hf => ?_)
  refine r_rS h (fun hs2 => ?_)
  refine p_X2_15 h dX2_init_18 (by decide) rC_19 ?_
  rw [nlE_nu (e := 18) (by decide +kernel)]
  exact hr _ _ _ _ _ 0 _ dX2_init_21 ⟨fun j hj => by rw [hE2 j (by omega), hE1 j (by omega)], rfl, rfl, by cases hf; rfl, by cases hf; rfl⟩ trivial
def rm_La_init_2 : Room := { frames := 2, cells := 19, slots := 876, locals := 40 }
noncomputable def f_La_init_2 (s0 : SS) : OO :=
  os (zr s0 3) fun s1 =>
  os (zr s1 4) fun s2 =>
  os (zr s2 5) fun s3 =>
  os (zr s3 6) fun s4 =>
  os (zr s4 7) fun s5 =>
  os (zr s5 8) fun s6 =>
  os (zr s6 9) fun s7 =>
  os (zr s7 10) fun s8 =>
  os (zr s8 11) fun s9 =>
  os (zr s9 12) fun s10 =>
  os (zr s10 13) fun s11 =>
  os (zr s11 14) fun s12 =>
  os (zr s12 15) fun s13 =>
  os (zr s13 16) fun s14 =>
  ob (f_Fo_init_16 s14) fun r15 s15 =>
  os (zr s15 19) fun s16 =>
  ob (f_Fo_init_19 s16) fun r17 s17 =>
  some (0, s17)
set_option maxRecDepth 20000 in
theorem m_La_init_2 {l : Launch} {D : va_G} {cs : Nat → ClassId} {aS aV : Nat} {A : Nat → Prop} {ad : Nat → Nat} {out : Int × SS} {s0 : SS} (hs0 : rS s0) (hf : f_La_init_2 s0 = some out) : w_MC l D cs aS aV A yX4_init cX4_init 1 0 rm_La_init_2 ad 3 (nlE 1) [.ref (ad 2)] s0 (w_Pi ad 3 22 20 nlE out) := by
  refine w_MC_of (by decide +kernel) (by decide) hs0 (Nat.le_of_ble_eq_true rfl) (fun K h hr => ?_)
  refine r_lv (lv' := [(0, .ref (ad 2))]) rfl ?_
  unfold f_La_init_2 at hf
  refine r_rS h (fun hs0 => ?_)
  refine r_aload_n h dX4_init_0 rfl 0 rfl ?_
  refine r_objInit h dX4_init_1 ml_X4_3 oi_i oi_c (Nat.le_of_ble_eq_true rfl) (Nat.le_of_ble_eq_true rfl) ?_
  refine r_aload_n h dX4_init_4 rfl 0 rfl ?_
  refine r_bipush h dX4_init_5 (by decide) ?_
  refine r_newaJ (N := 8) h dX4_init_7 ac_long rfl rC_3 rN_3 (by decide) (by decide) (nlE_cl (by decide +kernel)) (Nat.le_of_ble_eq_true rfl) (Nat.le_of_ble_eq_true rfl) (fun ad1 hE1 => ?_)
  refine r_lv (lv' := [(0, .ref (ad1 2))]) (by rw [hE1 2 (by decide)]) ?_
  refine r_st (st0 := [.ref (ad1 3), .ref (ad1 2)]) (by rw [hE1 2 (by decide)]) ?_
  refine r_os hf (fun s1 hf => ?_)
  refine r_rS h (fun hs1 => ?_)
  refine p_X4_9 h dX4_init_9 (by decide) rC_2 ?_
  rw [nlE_nu (e := 1) (by decide +kernel)]
  refine r_aload_n h dX4_init_12 rfl 0 rfl ?_
  refine r_bipush h dX4_init_13 (by decide) ?_
  refine r_newaI (N := 8) (ty := .int) (co := 14) (t0 := 1) h dX4_init_15 ac_int rfl rfl (fun _ _ => rfl) rfl (by decide) (by decide) rC_4 rN_4 (by decide) (by decide) (nlE_cl (by decide +kernel)) (Nat.le_of_ble_eq_true rfl) (Nat.le_of_ble_eq_true rfl) (fun ad2 hE2 => ?_)
  refine r_lv (lv' := [(0, .ref (ad2 2))]) (by rw [hE2 2 (by decide)]) ?_
  refine r_st (st0 := [.ref (ad2 4), .ref (ad2 2)]) (by rw [hE2 2 (by decide)]) ?_
  refine r_os hf (fun s2 hf => ?_)
  refine r_rS h (fun hs2 => ?_)
  refine p_X4_15 h dX4_init_17 (by decide) rC_2 ?_
  rw [nlE_nu (e := 2) (by decide +kernel)]
  refine r_aload_n h dX4_init_20 rfl 0 rfl ?_
  refine r_bipush h dX4_init_21 (by decide) ?_
  refine r_newaI (N := 8) (ty := .int) (co := 14) (t0 := 1) h dX4_init_23 ac_int rfl rfl (fun _ _ => rfl) rfl (by decide) (by decide) rC_5 rN_5 (by decide) (by decide) (nlE_cl (by decide +kernel)) (Nat.le_of_ble_eq_true rfl) (Nat.le_of_ble_eq_true rfl) (fun ad3 hE3 => ?_)
  refine r_lv (lv' := [(0, .ref (ad3 2))]) (by rw [hE3 2 (by decide)]) ?_
  refine r_st (st0 := [.ref (ad3 5), .ref (ad3 2)]) (by rw [hE3 2 (by decide)]) ?_
  refine r_os hf (fun s3 hf => ?_)
  refine r_rS h (fun hs3 => ?_)
  refine p_X4_19 h dX4_init_25 (by decide) rC_2 ?_
  rw [nlE_nu (e := 3) (by decide +kernel)]
  refine r_aload_n h dX4_init_28 rfl 0 rfl ?_
  refine r_bipush h dX4_init_29 (by decide) ?_
  refine r_newaI (N := 14) (ty := .int) (co := 14) (t0 := 1) h dX4_init_31 ac_int rfl rfl (fun _ _ => rfl) rfl (by decide) (by decide) rC_6 rN_6 (by decide) (by decide) (nlE_cl (by decide +kernel)) (Nat.le_of_ble_eq_true rfl) (Nat.le_of_ble_eq_true rfl) (fun ad4 hE4 => ?_)
  refine r_lv (lv' := [(0, .ref (ad4 2))]) (by rw [hE4 2 (by decide)]) ?_
  refine r_st (st0 := [.ref (ad4 6), .ref (ad4 2)]) (by rw [hE4 2 (by decide)]) ?_
  refine r_os hf (fun s4 hf => ?_)
  refine r_rS h (fun hs4 => ?_)
  refine p_X4_22 h dX4_init_33 (by decide) rC_2 ?_
  rw [nlE_nu (e := 4) (by decide +kernel)]
  refine r_aload_n h dX4_init_36 rfl 0 rfl ?_
  refine r_bipush h dX4_init_37 (by decide) ?_
  refine r_newaI (N := 14) (ty := .int) (co := 14) (t0 := 1) h dX4_init_39 ac_int rfl rfl (fun _ _ => rfl) rfl (by decide) (by decide) rC_7 rN_7 (by decide) (by decide) (nlE_cl (by decide +kernel)) (Nat.le_of_ble_eq_true rfl) (Nat.le_of_ble_eq_true rfl) (fun ad5 hE5 => ?_)
  refine r_lv (lv' := [(0, .ref (ad5 2))]) (by rw [hE5 2 (by decide)]) ?_
  refine r_st (st0 := [.ref (ad5 7), .ref (ad5 2)]) (by rw [hE5 2 (by decide)]) ?_
  refine r_os hf (fun s5 hf => ?_)
  refine r_rS h (fun hs5 => ?_)
  refine p_X4_25 h dX4_init_41 (by decide) rC_2 ?_
  rw [nlE_nu (e := 5) (by decide +kernel)]
  refine r_aload_n h dX4_init_44 rfl 0 rfl ?_
  refine r_bipush h dX4_init_45 (by decide) ?_
  refine r_newaI (N := 14) (ty := .int) (co := 14) (t0 := 1) h dX4_init_47 ac_int rfl rfl (fun _ _ => rfl) rfl (by decide) (by decide) rC_8 rN_8 (by decide) (by decide) (nlE_cl (by decide +kernel)) (Nat.le_of_ble_eq_true rfl) (Nat.le_of_ble_eq_true rfl) (fun ad6 hE6 => ?_)
  refine r_lv (lv' := [(0, .ref (ad6 2))]) (by rw [hE6 2 (by decide)]) ?_
  refine r_st (st0 := [.ref (ad6 8), .ref (ad6 2)]) (by rw [hE6 2 (by decide)]) ?_
  refine r_os hf (fun s6 hf => ?_)
  refine r_rS h (fun hs6 => ?_)
  refine p_X4_28 h dX4_init_49 (by decide) rC_2 ?_
  rw [nlE_nu (e := 6) (by decide +kernel)]
  refine r_aload_n h dX4_init_52 rfl 0 rfl ?_
  refine r_bipush h dX4_init_53 (by decide) ?_
  refine r_newaI (N := 14) (ty := .int) (co := 14) (t0 := 1) h dX4_init_55 ac_int rfl rfl (fun _ _ => rfl) rfl (by decide) (by decide) rC_9 rN_9 (by decide) (by decide) (nlE_cl (by decide +kernel)) (Nat.le_of_ble_eq_true rfl) (Nat.le_of_ble_eq_true rfl) (fun ad7 hE7 => ?_)
  refine r_lv (lv' := [(0, .ref (ad7 2))]) (by rw [hE7 2 (by decide)]) ?_
  refine r_st (st0 := [.ref (ad7 9), .ref (ad7 2)]) (by rw [hE7 2 (by decide)]) ?_
  refine r_os hf (fun s7 hf => ?_)
  refine r_rS h (fun hs7 => ?_)
  refine p_X4_31 h dX4_init_57 (by decide) rC_2 ?_
  rw [nlE_nu (e := 7) (by decide +kernel)]
  refine r_aload_n h dX4_init_60 rfl 0 rfl ?_
  refine r_bipush h dX4_init_61 (by decide) ?_
  refine r_newaJ (N := 6) h dX4_init_63 ac_long rfl rC_10 rN_10 (by decide) (by decide) (nlE_cl (by decide +kernel)) (Nat.le_of_ble_eq_true rfl) (Nat.le_of_ble_eq_true rfl) (fun ad8 hE8 => ?_)
  refine r_lv (lv' := [(0, .ref (ad8 2))]) (by rw [hE8 2 (by decide)]) ?_
  refine r_st (st0 := [.ref (ad8 10), .ref (ad8 2)]) (by rw [hE8 2 (by decide)]) ?_
  refine r_os hf (fun s8 hf => ?_)
  refine r_rS h (fun hs8 => ?_)
  refine p_X4_34 h dX4_init_65 (by decide) rC_2 ?_
  rw [nlE_nu (e := 8) (by decide +kernel)]
  refine r_aload_n h dX4_init_68 rfl 0 rfl ?_
  refine r_bipush h dX4_init_69 (by decide) ?_
  refine r_newaI (N := 12) (ty := .int) (co := 14) (t0 := 1) h dX4_init_71 ac_int rfl rfl (fun _ _ => rfl) rfl (by decide) (by decide) rC_11 rN_11 (by decide) (by decide) (nlE_cl (by decide +kernel)) (Nat.le_of_ble_eq_true rfl) (Nat.le_of_ble_eq_true rfl) (fun ad9 hE9 => ?_)
  refine r_lv (lv' := [(0, .ref (ad9 2))]) (by rw [hE9 2 (by decide)]) ?_
  refine r_st (st0 := [.ref (ad9 11), .ref (ad9 2)]) (by rw [hE9 2 (by decide)]) ?_
  refine r_os hf (fun s9 hf => ?_)
  refine r_rS h (fun hs9 => ?_)
  refine p_X4_37 h dX4_init_73 (by decide) rC_2 ?_
  rw [nlE_nu (e := 9) (by decide +kernel)]
  refine r_aload_n h dX4_init_76 rfl 0 rfl ?_
  refine r_bipush h dX4_init_77 (by decide) ?_
  refine r_newaJ (N := 6) h dX4_init_79 ac_long rfl rC_12 rN_12 (by decide) (by decide) (nlE_cl (by decide +kernel)) (Nat.le_of_ble_eq_true rfl) (Nat.le_of_ble_eq_true rfl) (fun ad10 hE10 => ?_)
  refine r_lv (lv' := [(0, .ref (ad10 2))]) (by rw [hE10 2 (by decide)]) ?_
  refine r_st (st0 := [.ref (ad10 12), .ref (ad10 2)]) (by rw [hE10 2 (by decide)]) ?_
  refine r_os hf (fun s10 hf => ?_)
  refine r_rS h (fun hs10 => ?_)
  refine p_X4_40 h dX4_init_81 (by decide) rC_2 ?_
  rw [nlE_nu (e := 10) (by decide +kernel)]
  refine r_aload_n h dX4_init_84 rfl 0 rfl ?_
  refine r_bipush h dX4_init_85 (by decide) ?_
  refine r_newaI (N := 6) (ty := .int) (co := 14) (t0 := 1) h dX4_init_87 ac_int rfl rfl (fun _ _ => rfl) rfl (by decide) (by decide) rC_13 rN_13 (by decide) (by decide) (nlE_cl (by decide +kernel)) (Nat.le_of_ble_eq_true rfl) (Nat.le_of_ble_eq_true rfl) (fun ad11 hE11 => ?_)
  refine r_lv (lv' := [(0, .ref (ad11 2))]) (by rw [hE11 2 (by decide)]) ?_
  refine r_st (st0 := [.ref (ad11 13), .ref (ad11 2)]) (by rw [hE11 2 (by decide)]) ?_
  refine r_os hf (fun s11 hf => ?_)
  refine r_rS h (fun hs11 => ?_)
  refine p_X4_43 h dX4_init_89 (by decide) rC_2 ?_
  rw [nlE_nu (e := 11) (by decide +kernel)]
  refine r_aload_n h dX4_init_92 rfl 0 rfl ?_
  refine r_bipush h dX4_init_93 (by decide) ?_
  refine r_newaI (N := 6) (ty := .int) (co := 14) (t0 := 1) h dX4_init_95 ac_int rfl rfl (fun _ _ => rfl) rfl (by decide) (by decide) rC_14 rN_14 (by decide) (by decide) (nlE_cl (by decide +kernel)) (Nat.le_of_ble_eq_true rfl) (Nat.le_of_ble_eq_true rfl) (fun ad12 hE12 => ?_)
  refine r_lv (lv' := [(0, .ref (ad12 2))]) (by rw [hE12 2 (by decide)]) ?_
  refine r_st (st0 := [.ref (ad12 14), .ref (ad12 2)]) (by rw [hE12 2 (by decide)]) ?_
  refine r_os hf (fun s12 hf => ?_)
  refine r_rS h (fun hs12 => ?_)
  refine p_X4_46 h dX4_init_97 (by decide) rC_2 ?_
  rw [nlE_nu (e := 12) (by decide +kernel)]
  refine r_aload_n h dX4_init_100 rfl 0 rfl ?_
  refine r_bipush h dX4_init_101 (by decide) ?_
  refine r_newaI (N := 48) (ty := .int) (co := 14) (t0 := 1) h dX4_init_103 ac_int rfl rfl (fun _ _ => rfl) rfl (by decide) (by decide) rC_15 rN_15 (by decide) (by decide) (nlE_cl (by decide +kernel)) (Nat.le_of_ble_eq_true rfl) (Nat.le_of_ble_eq_true rfl) (fun ad13 hE13 => ?_)
  refine r_lv (lv' := [(0, .ref (ad13 2))]) (by rw [hE13 2 (by decide)]) ?_
  refine r_st (st0 := [.ref (ad13 15), .ref (ad13 2)]) (by rw [hE13 2 (by decide)]) ?_
  refine r_os hf (fun s13 hf => ?_)
  refine r_rS h (fun hs13 => ?_)
  refine p_X4_49 h dX4_init_105 (by decide) rC_2 ?_
  rw [nlE_nu (e := 13) (by decide +kernel)]
  refine r_aload_n h dX4_init_108 rfl 0 rfl ?_
  refine r_new (T := TX2) (N := 4) (co := 2) (Cn := RX2) h dX4_init_109 nw_X4_52.1 nw_X4_52.2.1 nw_X4_52.2.2 inG2 tyX2 tyX2_ok rfl (by decide) rC_16 rN_16 dv_2 (nlE_no (by decide +kernel)) (nlE_cl (by decide +kernel)) (Nat.le_of_ble_eq_true rfl) (Nat.le_of_ble_eq_true rfl) (fun ad14 hE14 => ?_)
  refine r_lv (lv' := [(0, .ref (ad14 2))]) (by rw [hE14 2 (by decide)]) ?_
  refine r_st (st0 := [.ref (ad14 16), .ref (ad14 2)]) (by rw [hE14 2 (by decide)]) ?_
  refine r_os hf (fun s14 hf => ?_)
  refine r_rS h (fun hs14 => ?_)
  refine r_dup h dX4_init_112 rfl ?_
  obtain ⟨r15, s15, hq15, hf⟩ := ob_some hf
  refine r_callIN h [] dX4_init_113 (fun hs => m_Fo_init_16 hs hq15) (fun _ w => w.2.1) cv_i_Fo rfl ⟨Nat.le_of_ble_eq_true rfl, Nat.le_of_ble_eq_true rfl⟩ ⟨Nat.le_of_ble_eq_true rfl, Nat.le_of_ble_eq_true rfl⟩ (Nat.le_of_ble_eq_true rfl) rfl (fun ad15 n' nl' r' σ' hpo hs15 => ?_)
  obtain ⟨hE15, rfl, rfl, rfl, rfl⟩ := hpo
  refine r_lv (lv' := [(0, .ref (ad15 2))]) (by rw [hE15 2 (by decide)]) ?_
  refine r_st (st0 := [.ref (ad15 16), .ref (ad15 2)]) (by rw [hE15 2 (by decide), hE15 16 (by decide)]) ?_
  refine p_X4_55 h dX4_init_116 (by decide) rC_2 ?_
  rw [nlE_nu (e := 16) (by decide +kernel)]
  refine r_aload_n h dX4_init_119 rfl 0 rfl ?_
  refine r_new (T := TX2) (N := 4) (co := 2) (Cn := RX2) h dX4_init_120 nw_X4_52.1 nw_X4_52.2.1 nw_X4_52.2.2 inG2 tyX2 tyX2_ok rfl (by decide) rC_19 rN_19 dv_2 (nlE_no (by decide +kernel)) (nlE_cl (by decide +kernel)) (Nat.le_of_ble_eq_true rfl) (Nat.le_of_ble_eq_true rfl) (fun ad16 hE16 => ?_)
  refine r_lv (lv' := [(0, .ref (ad16 2))]) (by rw [hE16 2 (by decide)]) ?_
  refine r_st (st0 := [.ref (ad16 19), .ref (ad16 2)]) (by rw [hE16 2 (by decide)]) ?_
  refine r_os hf (fun s16 hf => ?_)
  refine r_rS h (fun hs16 => ?_)
  refine r_dup h dX4_init_123 rfl ?_
  obtain ⟨r17, s17, hq17, hf⟩ := ob_some hf
  refine r_callIN h [] dX4_init_124 (fun hs => m_Fo_init_19 hs hq17) (fun _ w => w.2.1) cv_i_Fo rfl ⟨Nat.le_of_ble_eq_true rfl, Nat.le_of_ble_eq_true rfl⟩ ⟨Nat.le_of_ble_eq_true rfl, Nat.le_of_ble_eq_true rfl⟩ (Nat.le_of_ble_eq_true rfl) rfl (fun ad17 n' nl' r' σ' hpo hs17 => ?_)
  obtain ⟨hE17, rfl, rfl, rfl, rfl⟩ := hpo
  refine r_lv (lv' := [(0, .ref (ad17 2))]) (by rw [hE17 2 (by decide)]) ?_
  refine r_st (st0 := [.ref (ad17 19), .ref (ad17 2)]) (by rw [hE17 2 (by decide), hE17 19 (by decide)]) ?_
  refine p_X4_59 h dX4_init_127 (by decide) rC_2 ?_
  rw [nlE_nu (e := 19) (by decide +kernel)]
  exact hr _ _ _ _ _ 0 _ dX4_init_130 ⟨fun j hj => by rw [hE17 j (by omega), hE16 j (by omega), hE15 j (by omega), hE14 j (by omega), hE13 j (by omega), hE12 j (by omega), hE11 j (by omega), hE10 j (by omega), hE9 j (by omega), hE8 j (by omega), hE7 j (by omega), hE6 j (by omega), hE5 j (by omega), hE4 j (by omega), hE3 j (by omega), hE2 j (by omega), hE1 j (by omega)], rfl, rfl, by cases hf; rfl, by cases hf; rfl⟩ trivial
def rm_Fo_init_36 : Room := { frames := 1, cells := 2, slots := 352, locals := 20 }
noncomputable def f_Fo_init_36 (s0 : SS) : OO :=
  os (zr s0 37) fun s1 =>
  os (zr s1 38) fun s2 =>
  some (0, s2)
set_option maxRecDepth 20000 in
theorem m_Fo_init_36 {l : Launch} {D : va_G} {cs : Nat → ClassId} {aS aV : Nat} {A : Nat → Prop} {ad : Nat → Nat} {out : Int × SS} {s0 : SS} (hs0 : rS s0) (hf : f_Fo_init_36 s0 = some out) : w_MC l D cs aS aV A yX2_init cX2_init 1 0 rm_Fo_init_36 ad 37 (nlE 34) [.ref (ad 36)] s0 (w_Pi ad 37 39 36 nlE out) := by
  refine w_MC_of (by decide +kernel) (by decide) hs0 (Nat.le_of_ble_eq_true rfl) (fun K h hr => ?_)
  refine r_lv (lv' := [(0, .ref (ad 36))]) rfl ?_
  unfold f_Fo_init_36 at hf
  refine r_rS h (fun hs0 => ?_)
  refine r_aload_n h dX2_init_0 rfl 0 rfl ?_
  refine r_objInit h dX2_init_1 ml_X2_3 oi_i oi_c (Nat.le_of_ble_eq_true rfl) (Nat.le_of_ble_eq_true rfl) ?_
  refine r_aload_n h dX2_init_4 rfl 0 rfl ?_
  refine r_sipush h dX2_init_5 (by decide) ?_
  refine r_newaI (N := 320) (ty := .int) (co := 14) (t0 := 1) h dX2_init_8 ac_int rfl rfl (fun _ _ => rfl) rfl (by decide) (by decide) rC_37 rN_37 (by decide) (by decide) (nlE_cl (by decide +kernel)) (Nat.le_of_ble_eq_true rfl) (Nat.le_of_ble_eq_true rfl) (fun ad1 hE1 => ?_)
  refine r_lv (lv' := [(0, .ref (ad1 36))]) (by rw [hE1 36 (by decide)]) ?_
  refine r_st (st0 := [.ref (ad1 37), .ref (ad1 36)]) (by rw [hE1 36 (by decide)]) ?_
  refine r_os hf (fun s1 hf => ?_)
  refine r_rS h (fun hs1 => ?_)
  refine p_X2_9 h dX2_init_10 (by decide) rC_36 ?_
  rw [nlE_nu (e := 34) (by decide +kernel)]
  refine r_aload_n h dX2_init_13 rfl 0 rfl ?_
  refine r_bipush h dX2_init_14 (by decide) ?_
  refine r_newaI (N := 32) (ty := .int) (co := 14) (t0 := 1) h dX2_init_16 ac_int rfl rfl (fun _ _ => rfl) rfl (by decide) (by decide) rC_38 rN_38 (by decide) (by decide) (nlE_cl (by decide +kernel)) (Nat.le_of_ble_eq_true rfl) (Nat.le_of_ble_eq_true rfl) (fun ad2 hE2 => ?_)
  refine r_lv (lv' := [(0, .ref (ad2 36))]) (by rw [hE2 36 (by decide)]) ?_
  refine r_st (st0 := [.ref (ad2 38), .ref (ad2 36)]) (by rw [hE2 36 (by decide)]) ?_
  refine r_os hf (fun s2 hf => ?_)
  refine r_rS h (fun hs2 => ?_)
  refine p_X2_15 h dX2_init_18 (by decide) rC_36 ?_
  rw [nlE_nu (e := 35) (by decide +kernel)]
  exact hr _ _ _ _ _ 0 _ dX2_init_21 ⟨fun j hj => by rw [hE2 j (by omega), hE1 j (by omega)], rfl, rfl, by cases hf; rfl, by cases hf; rfl⟩ trivial
def rm_Fo_init_39 : Room := { frames := 1, cells := 2, slots := 352, locals := 20 }
noncomputable def f_Fo_init_39 (s0 : SS) : OO :=
  os (zr s0 40) fun s1 =>
  os (zr s1 41) fun s2 =>
  some (0, s2)
set_option maxRecDepth 20000 in
theorem m_Fo_init_39 {l : Launch} {D : va_G} {cs : Nat → ClassId} {aS aV : Nat} {A : Nat → Prop} {ad : Nat → Nat} {out : Int × SS} {s0 : SS} (hs0 : rS s0) (hf : f_Fo_init_39 s0 = some out) : w_MC l D cs aS aV A yX2_init cX2_init 1 0 rm_Fo_init_39 ad 40 (nlE 37) [.ref (ad 39)] s0 (w_Pi ad 40 42 39 nlE out) := by
  refine w_MC_of (by decide +kernel) (by decide) hs0 (Nat.le_of_ble_eq_true rfl) (fun K h hr => ?_)
  refine r_lv (lv' := [(0, .ref (ad 39))]) rfl ?_
  unfold f_Fo_init_39 at hf
  refine r_rS h (fun hs0 => ?_)
  refine r_aload_n h dX2_init_0 rfl 0 rfl ?_
  refine r_objInit h dX2_init_1 ml_X2_3 oi_i oi_c (Nat.le_of_ble_eq_true rfl) (Nat.le_of_ble_eq_true rfl) ?_
  refine r_aload_n h dX2_init_4 rfl 0 rfl ?_
  refine r_sipush h dX2_init_5 (by decide) ?_
  refine r_newaI (N := 320) (ty := .int) (co := 14) (t0 := 1) h dX2_init_8 ac_int rfl rfl (fun _ _ => rfl) rfl (by decide) (by decide) rC_40 rN_40 (by decide) (by decide) (nlE_cl (by decide +kernel)) (Nat.le_of_ble_eq_true rfl) (Nat.le_of_ble_eq_true rfl) (fun ad1 hE1 => ?_)
  refine r_lv (lv' := [(0, .ref (ad1 39))]) (by rw [hE1 39 (by decide)]) ?_
  refine r_st (st0 := [.ref (ad1 40), .ref (ad1 39)]) (by rw [hE1 39 (by decide)]) ?_
  refine r_os hf (fun s1 hf => ?_)
  refine r_rS h (fun hs1 => ?_)
  refine p_X2_9 h dX2_init_10 (by decide) rC_39 ?_
  rw [nlE_nu (e := 37) (by decide +kernel)]
  refine r_aload_n h dX2_init_13 rfl 0 rfl ?_
  refine r_bipush h dX2_init_14 (by decide) ?_
  refine r_newaI (N := 32) (ty := .int) (co := 14) (t0 := 1) h dX2_init_16 ac_int rfl rfl (fun _ _ => rfl) rfl (by decide) (by decide) rC_41 rN_41 (by decide) (by decide) (nlE_cl (by decide +kernel)) (Nat.le_of_ble_eq_true rfl) (Nat.le_of_ble_eq_true rfl) (fun ad2 hE2 => ?_)
  refine r_lv (lv' := [(0, .ref (ad2 39))]) (by rw [hE2 39 (by decide)]) ?_
  refine r_st (st0 := [.ref (ad2 41), .ref (ad2 39)]) (by rw [hE2 39 (by decide)]) ?_
  refine r_os hf (fun s2 hf => ?_)
  refine r_rS h (fun hs2 => ?_)
  refine p_X2_15 h dX2_init_18 (by decide) rC_39 ?_
  rw [nlE_nu (e := 38) (by decide +kernel)]
  exact hr _ _ _ _ _ 0 _ dX2_init_21 ⟨fun j hj => by rw [hE2 j (by omega), hE1 j (by omega)], rfl, rfl, by cases hf; rfl, by cases hf; rfl⟩ trivial
def rm_La_init_22 : Room := { frames := 2, cells := 19, slots := 876, locals := 40 }
noncomputable def f_La_init_22 (s0 : SS) : OO :=
  os (zr s0 23) fun s1 =>
  os (zr s1 24) fun s2 =>
  os (zr s2 25) fun s3 =>
  os (zr s3 26) fun s4 =>
  os (zr s4 27) fun s5 =>
  os (zr s5 28) fun s6 =>
  os (zr s6 29) fun s7 =>
  os (zr s7 30) fun s8 =>
  os (zr s8 31) fun s9 =>
  os (zr s9 32) fun s10 =>
  os (zr s10 33) fun s11 =>
  os (zr s11 34) fun s12 =>
  os (zr s12 35) fun s13 =>
  os (zr s13 36) fun s14 =>
  ob (f_Fo_init_36 s14) fun r15 s15 =>
  os (zr s15 39) fun s16 =>
  ob (f_Fo_init_39 s16) fun r17 s17 =>
  some (0, s17)
set_option maxRecDepth 20000 in
theorem m_La_init_22 {l : Launch} {D : va_G} {cs : Nat → ClassId} {aS aV : Nat} {A : Nat → Prop} {ad : Nat → Nat} {out : Int × SS} {s0 : SS} (hs0 : rS s0) (hf : f_La_init_22 s0 = some out) : w_MC l D cs aS aV A yX4_init cX4_init 1 0 rm_La_init_22 ad 23 (nlE 21) [.ref (ad 22)] s0 (w_Pi ad 23 42 40 nlE out) := by
  refine w_MC_of (by decide +kernel) (by decide) hs0 (Nat.le_of_ble_eq_true rfl) (fun K h hr => ?_)
  refine r_lv (lv' := [(0, .ref (ad 22))]) rfl ?_
  unfold f_La_init_22 at hf
  refine r_rS h (fun hs0 => ?_)
  refine r_aload_n h dX4_init_0 rfl 0 rfl ?_
  refine r_objInit h dX4_init_1 ml_X4_3 oi_i oi_c (Nat.le_of_ble_eq_true rfl) (Nat.le_of_ble_eq_true rfl) ?_
  refine r_aload_n h dX4_init_4 rfl 0 rfl ?_
  refine r_bipush h dX4_init_5 (by decide) ?_
  refine r_newaJ (N := 8) h dX4_init_7 ac_long rfl rC_23 rN_23 (by decide) (by decide) (nlE_cl (by decide +kernel)) (Nat.le_of_ble_eq_true rfl) (Nat.le_of_ble_eq_true rfl) (fun ad1 hE1 => ?_)
  refine r_lv (lv' := [(0, .ref (ad1 22))]) (by rw [hE1 22 (by decide)]) ?_
  refine r_st (st0 := [.ref (ad1 23), .ref (ad1 22)]) (by rw [hE1 22 (by decide)]) ?_
  refine r_os hf (fun s1 hf => ?_)
  refine r_rS h (fun hs1 => ?_)
  refine p_X4_9 h dX4_init_9 (by decide) rC_22 ?_
  rw [nlE_nu (e := 21) (by decide +kernel)]
  refine r_aload_n h dX4_init_12 rfl 0 rfl ?_
  refine r_bipush h dX4_init_13 (by decide) ?_
  refine r_newaI (N := 8) (ty := .int) (co := 14) (t0 := 1) h dX4_init_15 ac_int rfl rfl (fun _ _ => rfl) rfl (by decide) (by decide) rC_24 rN_24 (by decide) (by decide) (nlE_cl (by decide +kernel)) (Nat.le_of_ble_eq_true rfl) (Nat.le_of_ble_eq_true rfl) (fun ad2 hE2 => ?_)
  refine r_lv (lv' := [(0, .ref (ad2 22))]) (by rw [hE2 22 (by decide)]) ?_
  refine r_st (st0 := [.ref (ad2 24), .ref (ad2 22)]) (by rw [hE2 22 (by decide)]) ?_
  refine r_os hf (fun s2 hf => ?_)
  refine r_rS h (fun hs2 => ?_)
  refine p_X4_15 h dX4_init_17 (by decide) rC_22 ?_
  rw [nlE_nu (e := 22) (by decide +kernel)]
  refine r_aload_n h dX4_init_20 rfl 0 rfl ?_
  refine r_bipush h dX4_init_21 (by decide) ?_
  refine r_newaI (N := 8) (ty := .int) (co := 14) (t0 := 1) h dX4_init_23 ac_int rfl rfl (fun _ _ => rfl) rfl (by decide) (by decide) rC_25 rN_25 (by decide) (by decide) (nlE_cl (by decide +kernel)) (Nat.le_of_ble_eq_true rfl) (Nat.le_of_ble_eq_true rfl) (fun ad3 hE3 => ?_)
  refine r_lv (lv' := [(0, .ref (ad3 22))]) (by rw [hE3 22 (by decide)]) ?_
  refine r_st (st0 := [.ref (ad3 25), .ref (ad3 22)]) (by rw [hE3 22 (by decide)]) ?_
  refine r_os hf (fun s3 hf => ?_)
  refine r_rS h (fun hs3 => ?_)
  refine p_X4_19 h dX4_init_25 (by decide) rC_22 ?_
  rw [nlE_nu (e := 23) (by decide +kernel)]
  refine r_aload_n h dX4_init_28 rfl 0 rfl ?_
  refine r_bipush h dX4_init_29 (by decide) ?_
  refine r_newaI (N := 14) (ty := .int) (co := 14) (t0 := 1) h dX4_init_31 ac_int rfl rfl (fun _ _ => rfl) rfl (by decide) (by decide) rC_26 rN_26 (by decide) (by decide) (nlE_cl (by decide +kernel)) (Nat.le_of_ble_eq_true rfl) (Nat.le_of_ble_eq_true rfl) (fun ad4 hE4 => ?_)
  refine r_lv (lv' := [(0, .ref (ad4 22))]) (by rw [hE4 22 (by decide)]) ?_
  refine r_st (st0 := [.ref (ad4 26), .ref (ad4 22)]) (by rw [hE4 22 (by decide)]) ?_
  refine r_os hf (fun s4 hf => ?_)
  refine r_rS h (fun hs4 => ?_)
  refine p_X4_22 h dX4_init_33 (by decide) rC_22 ?_
  rw [nlE_nu (e := 24) (by decide +kernel)]
  refine r_aload_n h dX4_init_36 rfl 0 rfl ?_
  refine r_bipush h dX4_init_37 (by decide) ?_
  refine r_newaI (N := 14) (ty := .int) (co := 14) (t0 := 1) h dX4_init_39 ac_int rfl rfl (fun _ _ => rfl) rfl (by decide) (by decide) rC_27 rN_27 (by decide) (by decide) (nlE_cl (by decide +kernel)) (Nat.le_of_ble_eq_true rfl) (Nat.le_of_ble_eq_true rfl) (fun ad5 hE5 => ?_)
  refine r_lv (lv' := [(0, .ref (ad5 22))]) (by rw [hE5 22 (by decide)]) ?_
  refine r_st (st0 := [.ref (ad5 27), .ref (ad5 22)]) (by rw [hE5 22 (by decide)]) ?_
  refine r_os hf (fun s5 hf => ?_)
  refine r_rS h (fun hs5 => ?_)
  refine p_X4_25 h dX4_init_41 (by decide) rC_22 ?_
  rw [nlE_nu (e := 25) (by decide +kernel)]
  refine r_aload_n h dX4_init_44 rfl 0 rfl ?_
  refine r_bipush h dX4_init_45 (by decide) ?_
  refine r_newaI (N := 14) (ty := .int) (co := 14) (t0 := 1) h dX4_init_47 ac_int rfl rfl (fun _ _ => rfl) rfl (by decide) (by decide) rC_28 rN_28 (by decide) (by decide) (nlE_cl (by decide +kernel)) (Nat.le_of_ble_eq_true rfl) (Nat.le_of_ble_eq_true rfl) (fun ad6 hE6 => ?_)
  refine r_lv (lv' := [(0, .ref (ad6 22))]) (by rw [hE6 22 (by decide)]) ?_
  refine r_st (st0 := [.ref (ad6 28), .ref (ad6 22)]) (by rw [hE6 22 (by decide)]) ?_
  refine r_os hf (fun s6 hf => ?_)
  refine r_rS h (fun hs6 => ?_)
  refine p_X4_28 h dX4_init_49 (by decide) rC_22 ?_
  rw [nlE_nu (e := 26) (by decide +kernel)]
  refine r_aload_n h dX4_init_52 rfl 0 rfl ?_
  refine r_bipush h dX4_init_53 (by decide) ?_
  refine r_newaI (N := 14) (ty := .int) (co := 14) (t0 := 1) h dX4_init_55 ac_int rfl rfl (fun _ _ => rfl) rfl (by decide) (by decide) rC_29 rN_29 (by decide) (by decide) (nlE_cl (by decide +kernel)) (Nat.le_of_ble_eq_true rfl) (Nat.le_of_ble_eq_true rfl) (fun ad7 hE7 => ?_)
  refine r_lv (lv' := [(0, .ref (ad7 22))]) (by rw [hE7 22 (by decide)]) ?_
  refine r_st (st0 := [.ref (ad7 29), .ref (ad7 22)]) (by rw [hE7 22 (by decide)]) ?_
  refine r_os hf (fun s7 hf => ?_)
  refine r_rS h (fun hs7 => ?_)
  refine p_X4_31 h dX4_init_57 (by decide) rC_22 ?_
  rw [nlE_nu (e := 27) (by decide +kernel)]
  refine r_aload_n h dX4_init_60 rfl 0 rfl ?_
  refine r_bipush h dX4_init_61 (by decide) ?_
  refine r_newaJ (N := 6) h dX4_init_63 ac_long rfl rC_30 rN_30 (by decide) (by decide) (nlE_cl (by decide +kernel)) (Nat.le_of_ble_eq_true rfl) (Nat.le_of_ble_eq_true rfl) (fun ad8 hE8 => ?_)
  refine r_lv (lv' := [(0, .ref (ad8 22))]) (by rw [hE8 22 (by decide)]) ?_
  refine r_st (st0 := [.ref (ad8 30), .ref (ad8 22)]) (by rw [hE8 22 (by decide)]) ?_
  refine r_os hf (fun s8 hf => ?_)
  refine r_rS h (fun hs8 => ?_)
  refine p_X4_34 h dX4_init_65 (by decide) rC_22 ?_
  rw [nlE_nu (e := 28) (by decide +kernel)]
  refine r_aload_n h dX4_init_68 rfl 0 rfl ?_
  refine r_bipush h dX4_init_69 (by decide) ?_
  refine r_newaI (N := 12) (ty := .int) (co := 14) (t0 := 1) h dX4_init_71 ac_int rfl rfl (fun _ _ => rfl) rfl (by decide) (by decide) rC_31 rN_31 (by decide) (by decide) (nlE_cl (by decide +kernel)) (Nat.le_of_ble_eq_true rfl) (Nat.le_of_ble_eq_true rfl) (fun ad9 hE9 => ?_)
  refine r_lv (lv' := [(0, .ref (ad9 22))]) (by rw [hE9 22 (by decide)]) ?_
  refine r_st (st0 := [.ref (ad9 31), .ref (ad9 22)]) (by rw [hE9 22 (by decide)]) ?_
  refine r_os hf (fun s9 hf => ?_)
  refine r_rS h (fun hs9 => ?_)
  refine p_X4_37 h dX4_init_73 (by decide) rC_22 ?_
  rw [nlE_nu (e := 29) (by decide +kernel)]
  refine r_aload_n h dX4_init_76 rfl 0 rfl ?_
  refine r_bipush h dX4_init_77 (by decide) ?_
  refine r_newaJ (N := 6) h dX4_init_79 ac_long rfl rC_32 rN_32 (by decide) (by decide) (nlE_cl (by decide +kernel)) (Nat.le_of_ble_eq_true rfl) (Nat.le_of_ble_eq_true rfl) (fun ad10 hE10 => ?_)
  refine r_lv (lv' := [(0, .ref (ad10 22))]) (by rw [hE10 22 (by decide)]) ?_
  refine r_st (st0 := [.ref (ad10 32), .ref (ad10 22)]) (by rw [hE10 22 (by decide)]) ?_
  refine r_os hf (fun s10 hf => ?_)
  refine r_rS h (fun hs10 => ?_)
  refine p_X4_40 h dX4_init_81 (by decide) rC_22 ?_
  rw [nlE_nu (e := 30) (by decide +kernel)]
  refine r_aload_n h dX4_init_84 rfl 0 rfl ?_
  refine r_bipush h dX4_init_85 (by decide) ?_
  refine r_newaI (N := 6) (ty := .int) (co := 14) (t0 := 1) h dX4_init_87 ac_int rfl rfl (fun _ _ => rfl) rfl (by decide) (by decide) rC_33 rN_33 (by decide) (by decide) (nlE_cl (by decide +kernel)) (Nat.le_of_ble_eq_true rfl) (Nat.le_of_ble_eq_true rfl) (fun ad11 hE11 => ?_)
  refine r_lv (lv' := [(0, .ref (ad11 22))]) (by rw [hE11 22 (by decide)]) ?_
  refine r_st (st0 := [.ref (ad11 33), .ref (ad11 22)]) (by rw [hE11 22 (by decide)]) ?_
  refine r_os hf (fun s11 hf => ?_)
  refine r_rS h (fun hs11 => ?_)
  refine p_X4_43 h dX4_init_89 (by decide) rC_22 ?_
  rw [nlE_nu (e := 31) (by decide +kernel)]
  refine r_aload_n h dX4_init_92 rfl 0 rfl ?_
  refine r_bipush h dX4_init_93 (by decide) ?_
  refine r_newaI (N := 6) (ty := .int) (co := 14) (t0 := 1) h dX4_init_95 ac_int rfl rfl (fun _ _ => rfl) rfl (by decide) (by decide) rC_34 rN_34 (by decide) (by decide) (nlE_cl (by decide +kernel)) (Nat.le_of_ble_eq_true rfl) (Nat.le_of_ble_eq_true rfl) (fun ad12 hE12 => ?_)
  refine r_lv (lv' := [(0, .ref (ad12 22))]) (by rw [hE12 22 (by decide)]) ?_
  refine r_st (st0 := [.ref (ad12 34), .ref (ad12 22)]) (by rw [hE12 22 (by decide)]) ?_
  refine r_os hf (fun s12 hf => ?_)
  refine r_rS h (fun hs12 => ?_)
  refine p_X4_46 h dX4_init_97 (by decide) rC_22 ?_
  rw [nlE_nu (e := 32) (by decide +kernel)]
  refine r_aload_n h dX4_init_100 rfl 0 rfl ?_
  refine r_bipush h dX4_init_101 (by decide) ?_
  refine r_newaI (N := 48) (ty := .int) (co := 14) (t0 := 1) h dX4_init_103 ac_int rfl rfl (fun _ _ => rfl) rfl (by decide) (by decide) rC_35 rN_35 (by decide) (by decide) (nlE_cl (by decide +kernel)) (Nat.le_of_ble_eq_true rfl) (Nat.le_of_ble_eq_true rfl) (fun ad13 hE13 => ?_)
  refine r_lv (lv' := [(0, .ref (ad13 22))]) (by rw [hE13 22 (by decide)]) ?_
  refine r_st (st0 := [.ref (ad13 35), .ref (ad13 22)]) (by rw [hE13 22 (by decide)]) ?_
  refine r_os hf (fun s13 hf => ?_)
  refine r_rS h (fun hs13 => ?_)
  refine p_X4_49 h dX4_init_105 (by decide) rC_22 ?_
  rw [nlE_nu (e := 33) (by decide +kernel)]
  refine r_aload_n h dX4_init_108 rfl 0 rfl ?_
  refine r_new (T := TX2) (N := 4) (co := 2) (Cn := RX2) h dX4_init_109 nw_X4_52.1 nw_X4_52.2.1 nw_X4_52.2.2 inG2 tyX2 tyX2_ok rfl (by decide) rC_36 rN_36 dv_2 (nlE_no (by decide +kernel)) (nlE_cl (by decide +kernel)) (Nat.le_of_ble_eq_true rfl) (Nat.le_of_ble_eq_true rfl) (fun ad14 hE14 => ?_)
  refine r_lv (lv' := [(0, .ref (ad14 22))]) (by rw [hE14 22 (by decide)]) ?_
  refine r_st (st0 := [.ref (ad14 36), .ref (ad14 22)]) (by rw [hE14 22 (by decide)]) ?_
  refine r_os hf (fun s14 hf => ?_)
  refine r_rS h (fun hs14 => ?_)
  refine r_dup h dX4_init_112 rfl ?_
  obtain ⟨r15, s15, hq15, hf⟩ := ob_some hf
  refine r_callIN h [] dX4_init_113 (fun hs => m_Fo_init_36 hs hq15) (fun _ w => w.2.1) cv_i_Fo rfl ⟨Nat.le_of_ble_eq_true rfl, Nat.le_of_ble_eq_true rfl⟩ ⟨Nat.le_of_ble_eq_true rfl, Nat.le_of_ble_eq_true rfl⟩ (Nat.le_of_ble_eq_true rfl) rfl (fun ad15 n' nl' r' σ' hpo hs15 => ?_)
  obtain ⟨hE15, rfl, rfl, rfl, rfl⟩ := hpo
  refine r_lv (lv' := [(0, .ref (ad15 22))]) (by rw [hE15 22 (by decide)]) ?_
  refine r_st (st0 := [.ref (ad15 36), .ref (ad15 22)]) (by rw [hE15 22 (by decide), hE15 36 (by decide)]) ?_
  refine p_X4_55 h dX4_init_116 (by decide) rC_22 ?_
  rw [nlE_nu (e := 36) (by decide +kernel)]
  refine r_aload_n h dX4_init_119 rfl 0 rfl ?_
  refine r_new (T := TX2) (N := 4) (co := 2) (Cn := RX2) h dX4_init_120 nw_X4_52.1 nw_X4_52.2.1 nw_X4_52.2.2 inG2 tyX2 tyX2_ok rfl (by decide) rC_39 rN_39 dv_2 (nlE_no (by decide +kernel)) (nlE_cl (by decide +kernel)) (Nat.le_of_ble_eq_true rfl) (Nat.le_of_ble_eq_true rfl) (fun ad16 hE16 => ?_)
  refine r_lv (lv' := [(0, .ref (ad16 22))]) (by rw [hE16 22 (by decide)]) ?_
  refine r_st (st0 := [.ref (ad16 39), .ref (ad16 22)]) (by rw [hE16 22 (by decide)]) ?_
  refine r_os hf (fun s16 hf => ?_)
  refine r_rS h (fun hs16 => ?_)
  refine r_dup h dX4_init_123 rfl ?_
  obtain ⟨r17, s17, hq17, hf⟩ := ob_some hf
  refine r_callIN h [] dX4_init_124 (fun hs => m_Fo_init_39 hs hq17) (fun _ w => w.2.1) cv_i_Fo rfl ⟨Nat.le_of_ble_eq_true rfl, Nat.le_of_ble_eq_true rfl⟩ ⟨Nat.le_of_ble_eq_true rfl, Nat.le_of_ble_eq_true rfl⟩ (Nat.le_of_ble_eq_true rfl) rfl (fun ad17 n' nl' r' σ' hpo hs17 => ?_)
  obtain ⟨hE17, rfl, rfl, rfl, rfl⟩ := hpo
  refine r_lv (lv' := [(0, .ref (ad17 22))]) (by rw [hE17 22 (by decide)]) ?_
  refine r_st (st0 := [.ref (ad17 39), .ref (ad17 22)]) (by rw [hE17 22 (by decide), hE17 39 (by decide)]) ?_
  refine p_X4_59 h dX4_init_127 (by decide) rC_22 ?_
  rw [nlE_nu (e := 39) (by decide +kernel)]
  exact hr _ _ _ _ _ 0 _ dX4_init_130 ⟨fun j hj => by rw [hE17 j (by omega), hE16 j (by omega), hE15 j (by omega), hE14 j (by omega), hE13 j (by omega), hE12 j (by omega), hE11 j (by omega), hE10 j (by omega), hE9 j (by omega), hE8 j (by omega), hE7 j (by omega), hE6 j (by omega), hE5 j (by omega), hE4 j (by omega), hE3 j (by omega), hE2 j (by omega), hE1 j (by omega)], rfl, rfl, by cases hf; rfl, by cases hf; rfl⟩ trivial
def rm_To_init_43 : Room := { frames := 1, cells := 0, slots := 0, locals := 20 }
noncomputable def f_To_init_43 (s0 : SS) : OO :=
  some (0, s0)
set_option maxRecDepth 20000 in
theorem m_To_init_43 {l : Launch} {D : va_G} {cs : Nat → ClassId} {aS aV : Nat} {A : Nat → Prop} {ad : Nat → Nat} {out : Int × SS} {s0 : SS} (hs0 : rS s0) (hf : f_To_init_43 s0 = some out) : w_MC l D cs aS aV A yX10_init cX10_init 2 0 rm_To_init_43 ad 44 (nlE 41) [.ref (ad 43), .ref (ad 1)] s0 (w_Pi ad 44 44 42 nlE out) := by
  refine w_MC_of (by decide +kernel) (by decide) hs0 (Nat.le_of_ble_eq_true rfl) (fun K h hr => ?_)
  refine r_lv (lv' := [(0, .ref (ad 43)), (1, .ref (ad 1))]) rfl ?_
  unfold f_To_init_43 at hf
  refine r_rS h (fun hs0 => ?_)
  refine r_aload_n h dX10_init_0 rfl 0 rfl ?_
  refine r_objInit h dX10_init_1 ml_X10_3 oi_i oi_c (Nat.le_of_ble_eq_true rfl) (Nat.le_of_ble_eq_true rfl) ?_
  refine r_aload_n h dX10_init_4 rfl 0 rfl ?_
  refine r_aload_n h dX10_init_5 rfl 1 rfl ?_
  refine p_X10_9 h dX10_init_6 (by decide) rC_43 ?_
  rw [nlE_nu (e := 41) (by decide +kernel)]
  exact hr _ _ _ _ _ 0 _ dX10_init_9 ⟨fun j hj => rfl, rfl, rfl, by cases hf; rfl, by cases hf; rfl⟩ trivial
def rm_FR_init_44 : Room := { frames := 1, cells := 1, slots := 60, locals := 20 }
noncomputable def f_FR_init_44 (s0 : SS) : OO :=
  os (zr s0 45) fun s1 =>
  some (0, s1)
set_option maxRecDepth 20000 in
theorem m_FR_init_44 {l : Launch} {D : va_G} {cs : Nat → ClassId} {aS aV : Nat} {A : Nat → Prop} {ad : Nat → Nat} {out : Int × SS} {s0 : SS} (hs0 : rS s0) (hf : f_FR_init_44 s0 = some out) : w_MC l D cs aS aV A yX3_init cX3_init 2 0 rm_FR_init_44 ad 45 (nlE 43) [.ref (ad 44), .ref (ad 43)] s0 (w_Pi ad 45 46 45 nlE out) := by
  refine w_MC_of (by decide +kernel) (by decide) hs0 (Nat.le_of_ble_eq_true rfl) (fun K h hr => ?_)
  refine r_lv (lv' := [(0, .ref (ad 44)), (1, .ref (ad 43))]) rfl ?_
  unfold f_FR_init_44 at hf
  refine r_rS h (fun hs0 => ?_)
  refine r_aload_n h dX3_init_0 rfl 0 rfl ?_
  refine r_objInit h dX3_init_1 ml_X3_3 oi_i oi_c (Nat.le_of_ble_eq_true rfl) (Nat.le_of_ble_eq_true rfl) ?_
  refine r_aload_n h dX3_init_4 rfl 0 rfl ?_
  refine r_bipush h dX3_init_5 (by decide) ?_
  refine r_newaI (N := 60) (ty := .int) (co := 14) (t0 := 1) h dX3_init_7 ac_int rfl rfl (fun _ _ => rfl) rfl (by decide) (by decide) rC_45 rN_45 (by decide) (by decide) (nlE_cl (by decide +kernel)) (Nat.le_of_ble_eq_true rfl) (Nat.le_of_ble_eq_true rfl) (fun ad1 hE1 => ?_)
  refine r_lv (lv' := [(0, .ref (ad1 44)), (1, .ref (ad1 43))]) (by rw [hE1 43 (by decide), hE1 44 (by decide)]) ?_
  refine r_st (st0 := [.ref (ad1 45), .ref (ad1 44)]) (by rw [hE1 44 (by decide)]) ?_
  refine r_os hf (fun s1 hf => ?_)
  refine r_rS h (fun hs1 => ?_)
  refine p_X3_9 h dX3_init_9 (by decide) rC_44 ?_
  rw [nlE_nu (e := 43) (by decide +kernel)]
  refine r_aload_n h dX3_init_12 rfl 0 rfl ?_
  refine r_aload_n h dX3_init_13 rfl 1 rfl ?_
  refine p_X3_15 h dX3_init_14 (by decide) rC_44 ?_
  rw [nlE_nu (e := 44) (by decide +kernel)]
  exact hr _ _ _ _ _ 0 _ dX3_init_17 ⟨fun j hj => by rw [hE1 j (by omega)], rfl, rfl, by cases hf; rfl, by cases hf; rfl⟩ trivial
def rm_Re_init_42 : Room := { frames := 2, cells := 2, slots := 65, locals := 41 }
noncomputable def f_Re_init_42 (s0 : SS) : OO :=
  os (zr s0 44) fun s1 =>
  ob (f_FR_init_44 s1) fun r2 s2 =>
  os (si s2 42 2 0) fun s3 =>
  os (si s3 42 3 (-1)) fun s4 =>
  some (0, s4)
set_option maxRecDepth 20000 in
theorem m_Re_init_42 {l : Launch} {D : va_G} {cs : Nat → ClassId} {aS aV : Nat} {A : Nat → Prop} {ad : Nat → Nat} {out : Int × SS} {s0 : SS} (hs0 : rS s0) (hf : f_Re_init_42 s0 = some out) : w_MC l D cs aS aV A yX5_init cX5_init 2 0 rm_Re_init_42 ad 44 (nlE 42) [.ref (ad 42), .ref (ad 43)] s0 (w_Pi ad 44 46 46 nlE out) := by
  refine w_MC_of (by decide +kernel) (by decide) hs0 (Nat.le_of_ble_eq_true rfl) (fun K h hr => ?_)
  refine r_lv (lv' := [(0, .ref (ad 42)), (1, .ref (ad 43))]) rfl ?_
  unfold f_Re_init_42 at hf
  refine r_rS h (fun hs0 => ?_)
  refine r_aload_n h dX5_init_0 rfl 0 rfl ?_
  refine r_objInit h dX5_init_1 ml_X5_3 oi_i oi_c (Nat.le_of_ble_eq_true rfl) (Nat.le_of_ble_eq_true rfl) ?_
  refine r_aload_n h dX5_init_4 rfl 0 rfl ?_
  refine r_aload_n h dX5_init_5 rfl 1 rfl ?_
  refine p_X5_9 h dX5_init_6 (by decide) rC_42 ?_
  rw [nlE_nu (e := 42) (by decide +kernel)]
  refine r_aload_n h dX5_init_9 rfl 0 rfl ?_
  refine r_new (T := TX3) (N := 5) (co := 3) (Cn := RX3) h dX5_init_10 nw_X5_15.1 nw_X5_15.2.1 nw_X5_15.2.2 inG3 tyX3 tyX3_ok rfl (by decide) rC_44 rN_44 dv_3 (nlE_no (by decide +kernel)) (nlE_cl (by decide +kernel)) (Nat.le_of_ble_eq_true rfl) (Nat.le_of_ble_eq_true rfl) (fun ad1 hE1 => ?_)
  refine r_lv (lv' := [(0, .ref (ad1 42)), (1, .ref (ad1 43))]) (by rw [hE1 42 (by decide), hE1 43 (by decide)]) ?_
  refine r_st (st0 := [.ref (ad1 44), .ref (ad1 42)]) (by rw [hE1 42 (by decide)]) ?_
  refine r_os hf (fun s1 hf => ?_)
  refine r_rS h (fun hs1 => ?_)
  refine r_dup h dX5_init_13 rfl ?_
  refine r_aload_n h dX5_init_14 rfl 1 rfl ?_
  obtain ⟨r2, s2, hq2, hf⟩ := ob_some hf
  refine r_callI h [.ref (ad1 43)] dX5_init_15 (fun hs => m_FR_init_44 hs hq2) ml_X5_17 cv_i_FR rfl ⟨Nat.le_of_ble_eq_true rfl, Nat.le_of_ble_eq_true rfl⟩ ⟨Nat.le_of_ble_eq_true rfl, Nat.le_of_ble_eq_true rfl⟩ (Nat.le_of_ble_eq_true rfl) rfl (fun ad2 n' nl' r' σ' hpo hs2 => ?_)
  obtain ⟨hE2, rfl, rfl, rfl, rfl⟩ := hpo
  refine r_lv (lv' := [(0, .ref (ad2 42)), (1, .ref (ad2 43))]) (by rw [hE2 42 (by decide), hE2 43 (by decide)]) ?_
  refine r_st (st0 := [.ref (ad2 44), .ref (ad2 42)]) (by rw [hE2 42 (by decide), hE2 44 (by decide)]) ?_
  refine p_X5_20 h dX5_init_18 (by decide) rC_42 ?_
  rw [nlE_nu (e := 45) (by decide +kernel)]
  refine r_aload_n h dX5_init_21 rfl 0 rfl ?_
  refine r_iconst h dX5_init_22 ?_
  refine p_X5_24 h dX5_init_23 (by decide) rC_42 (rIc rfl) ?_
  refine r_os hf (fun s3 hf => ?_)
  refine r_rS h (fun hs3 => ?_)
  refine r_aload_n h dX5_init_26 rfl 0 rfl ?_
  refine r_iconst h dX5_init_27 ?_
  refine p_X5_28 h dX5_init_28 (by decide) rC_42 (rIc rfl) ?_
  refine r_os hf (fun s4 hf => ?_)
  refine r_rS h (fun hs4 => ?_)
  exact hr _ _ _ _ _ 0 _ dX5_init_31 ⟨fun j hj => by rw [hE2 j (by omega), hE1 j (by omega)], rfl, rfl, by cases hf; rfl, by cases hf; rfl⟩ trivial
def rm_Ta_init_51 : Room := { frames := 1, cells := 2, slots := 26, locals := 20 }
noncomputable def f_Ta_init_51 (s0 : SS) : OO :=
  os (zr s0 52) fun s1 =>
  os (zr s1 53) fun s2 =>
  some (0, s2)
set_option maxRecDepth 20000 in
theorem m_Ta_init_51 {l : Launch} {D : va_G} {cs : Nat → ClassId} {aS aV : Nat} {A : Nat → Prop} {ad : Nat → Nat} {out : Int × SS} {s0 : SS} (hs0 : rS s0) (hf : f_Ta_init_51 s0 = some out) : w_MC l D cs aS aV A yX9_init cX9_init 2 0 rm_Ta_init_51 ad 52 (nlE 52) [.ref (ad 51), .ref (ad 2)] s0 (w_Pi ad 52 54 55 nlE out) := by
  refine w_MC_of (by decide +kernel) (by decide) hs0 (Nat.le_of_ble_eq_true rfl) (fun K h hr => ?_)
  refine r_lv (lv' := [(0, .ref (ad 51)), (1, .ref (ad 2))]) rfl ?_
  unfold f_Ta_init_51 at hf
  refine r_rS h (fun hs0 => ?_)
  refine r_aload_n h dX9_init_0 rfl 0 rfl ?_
  refine r_objInit h dX9_init_1 ml_X9_3 oi_i oi_c (Nat.le_of_ble_eq_true rfl) (Nat.le_of_ble_eq_true rfl) ?_
  refine r_aload_n h dX9_init_4 rfl 0 rfl ?_
  refine r_bipush h dX9_init_5 (by decide) ?_
  refine r_newaI (N := 6) (ty := .int) (co := 14) (t0 := 1) h dX9_init_7 ac_int rfl rfl (fun _ _ => rfl) rfl (by decide) (by decide) rC_52 rN_52 (by decide) (by decide) (nlE_cl (by decide +kernel)) (Nat.le_of_ble_eq_true rfl) (Nat.le_of_ble_eq_true rfl) (fun ad1 hE1 => ?_)
  refine r_lv (lv' := [(0, .ref (ad1 51)), (1, .ref (ad1 2))]) (by rw [hE1 2 (by decide), hE1 51 (by decide)]) ?_
  refine r_st (st0 := [.ref (ad1 52), .ref (ad1 51)]) (by rw [hE1 51 (by decide)]) ?_
  refine r_os hf (fun s1 hf => ?_)
  refine r_rS h (fun hs1 => ?_)
  refine p_X9_9 h dX9_init_9 (by decide) rC_51 ?_
  rw [nlE_nu (e := 52) (by decide +kernel)]
  refine r_aload_n h dX9_init_12 rfl 0 rfl ?_
  refine r_bipush h dX9_init_13 (by decide) ?_
  refine r_newaI (N := 20) (ty := .int) (co := 14) (t0 := 1) h dX9_init_15 ac_int rfl rfl (fun _ _ => rfl) rfl (by decide) (by decide) rC_53 rN_53 (by decide) (by decide) (nlE_cl (by decide +kernel)) (Nat.le_of_ble_eq_true rfl) (Nat.le_of_ble_eq_true rfl) (fun ad2 hE2 => ?_)
  refine r_lv (lv' := [(0, .ref (ad2 51)), (1, .ref (ad2 2))]) (by rw [hE2 2 (by decide), hE2 51 (by decide)]) ?_
  refine r_st (st0 := [.ref (ad2 53), .ref (ad2 51)]) (by rw [hE2 51 (by decide)]) ?_
  refine r_os hf (fun s2 hf => ?_)
  refine r_rS h (fun hs2 => ?_)
  refine p_X9_15 h dX9_init_17 (by decide) rC_51 ?_
  rw [nlE_nu (e := 53) (by decide +kernel)]
  refine r_aload_n h dX9_init_20 rfl 0 rfl ?_
  refine r_aload_n h dX9_init_21 rfl 1 rfl ?_
  refine p_X9_18 h dX9_init_22 (by decide) rC_51 ?_
  rw [nlE_nu (e := 54) (by decide +kernel)]
  exact hr _ _ _ _ _ 0 _ dX9_init_25 ⟨fun j hj => by rw [hE2 j (by omega), hE1 j (by omega)], rfl, rfl, by cases hf; rfl, by cases hf; rfl⟩ trivial
theorem wh_54_56 : w_WH 54 (nlE 56) := nlE_WH (by decide +kernel) (by decide +kernel)
def rm_Ea_init_46 : Room := { frames := 4, cells := 7, slots := 1852, locals := 87 }
noncomputable def f_Ea_init_46 (s0 : SS) : OO :=
  os (zr s0 47) fun s1 =>
  os (zr s1 48) fun s2 =>
  os (zr s2 49) fun s3 =>
  os (zr s3 50) fun s4 =>
  os (zr s4 51) fun s5 =>
  ob (f_Ta_init_51 s5) fun r6 s6 =>
  ob (f_Ea_beginAnew s6) fun r7 s7 =>
  some (0, s7)
set_option maxRecDepth 20000 in
theorem m_Ea_init_46 {l : Launch} {D : va_G} {cs : Nat → ClassId} {aS aV : Nat} {A : Nat → Prop} {ad : Nat → Nat} {out : Int × SS} {s0 : SS} (hs0 : rS s0) (hf : f_Ea_init_46 s0 = some out) : w_MC l D cs aS aV A yX0_init cX0_init 2 0 rm_Ea_init_46 ad 47 (nlE 47) [.ref (ad 46), .ref (ad 2)] s0 (w_Pi ad 47 54 56 nlE out) := by
  refine w_MC_of (by decide +kernel) (by decide) hs0 (Nat.le_of_ble_eq_true rfl) (fun K h hr => ?_)
  refine r_lv (lv' := [(0, .ref (ad 46)), (1, .ref (ad 2))]) rfl ?_
  unfold f_Ea_init_46 at hf
  refine r_rS h (fun hs0 => ?_)
  refine r_aload_n h dX0_init_0 rfl 0 rfl ?_
  refine r_objInit h dX0_init_1 ml_X0_3 oi_i oi_c (Nat.le_of_ble_eq_true rfl) (Nat.le_of_ble_eq_true rfl) ?_
  refine r_aload_n h dX0_init_4 rfl 0 rfl ?_
  refine r_bipush h dX0_init_5 (by decide) ?_
  refine r_newaI (N := 12) (ty := .int) (co := 14) (t0 := 1) h dX0_init_7 ac_int rfl rfl (fun _ _ => rfl) rfl (by decide) (by decide) rC_47 rN_47 (by decide) (by decide) (nlE_cl (by decide +kernel)) (Nat.le_of_ble_eq_true rfl) (Nat.le_of_ble_eq_true rfl) (fun ad1 hE1 => ?_)
  refine r_lv (lv' := [(0, .ref (ad1 46)), (1, .ref (ad1 2))]) (by rw [hE1 2 (by decide), hE1 46 (by decide)]) ?_
  refine r_st (st0 := [.ref (ad1 47), .ref (ad1 46)]) (by rw [hE1 46 (by decide)]) ?_
  refine r_os hf (fun s1 hf => ?_)
  refine r_rS h (fun hs1 => ?_)
  refine p_X0_9 h dX0_init_9 (by decide) rC_46 ?_
  rw [nlE_nu (e := 47) (by decide +kernel)]
  refine r_aload_n h dX0_init_12 rfl 0 rfl ?_
  refine r_sipush h dX0_init_13 (by decide) ?_
  refine r_newaI (N := 1681) (ty := .int) (co := 14) (t0 := 1) h dX0_init_16 ac_int rfl rfl (fun _ _ => rfl) rfl (by decide) (by decide) rC_48 rN_48 (by decide) (by decide) (nlE_cl (by decide +kernel)) (Nat.le_of_ble_eq_true rfl) (Nat.le_of_ble_eq_true rfl) (fun ad2 hE2 => ?_)
  refine r_lv (lv' := [(0, .ref (ad2 46)), (1, .ref (ad2 2))]) (by rw [hE2 2 (by decide), hE2 46 (by decide)]) ?_
  refine r_st (st0 := [.ref (ad2 48), .ref (ad2 46)]) (by rw [hE2 46 (by decide)]) ?_
  refine r_os hf (fun s2 hf => ?_)
  refine r_rS h (fun hs2 => ?_)
  refine p_X0_15 h dX0_init_18 (by decide) rC_46 ?_
  rw [nlE_nu (e := 48) (by decide +kernel)]
  refine r_aload_n h dX0_init_21 rfl 0 rfl ?_
  refine r_bipush h dX0_init_22 (by decide) ?_
  refine r_newaI (N := 123) (ty := .int) (co := 14) (t0 := 1) h dX0_init_24 ac_int rfl rfl (fun _ _ => rfl) rfl (by decide) (by decide) rC_49 rN_49 (by decide) (by decide) (nlE_cl (by decide +kernel)) (Nat.le_of_ble_eq_true rfl) (Nat.le_of_ble_eq_true rfl) (fun ad3 hE3 => ?_)
  refine r_lv (lv' := [(0, .ref (ad3 46)), (1, .ref (ad3 2))]) (by rw [hE3 2 (by decide), hE3 46 (by decide)]) ?_
  refine r_st (st0 := [.ref (ad3 49), .ref (ad3 46)]) (by rw [hE3 46 (by decide)]) ?_
  refine r_os hf (fun s3 hf => ?_)
  refine r_rS h (fun hs3 => ?_)
  refine p_X0_18 h dX0_init_26 (by decide) rC_46 ?_
  rw [nlE_nu (e := 49) (by decide +kernel)]
  refine r_aload_n h dX0_init_29 rfl 0 rfl ?_
  refine r_iconst h dX0_init_30 ?_
  refine r_newaI (N := 3) (ty := .boolean) (co := 16) (t0 := 3) h dX0_init_31 ac_boolean rfl rfl (fun _ _ => rfl) rfl (by decide) (by decide) rC_50 rN_50 (by decide) (by decide) (nlE_cl (by decide +kernel)) (Nat.le_of_ble_eq_true rfl) (Nat.le_of_ble_eq_true rfl) (fun ad4 hE4 => ?_)
  refine r_lv (lv' := [(0, .ref (ad4 46)), (1, .ref (ad4 2))]) (by rw [hE4 2 (by decide), hE4 46 (by decide)]) ?_
  refine r_st (st0 := [.ref (ad4 50), .ref (ad4 46)]) (by rw [hE4 46 (by decide)]) ?_
  refine r_os hf (fun s4 hf => ?_)
  refine r_rS h (fun hs4 => ?_)
  refine p_X0_21 h dX0_init_33 (by decide) rC_46 ?_
  rw [nlE_nu (e := 50) (by decide +kernel)]
  refine r_aload_n h dX0_init_36 rfl 0 rfl ?_
  refine r_aload_n h dX0_init_37 rfl 1 rfl ?_
  refine p_X0_25 h dX0_init_38 (by decide) rC_46 ?_
  rw [nlE_nu (e := 51) (by decide +kernel)]
  refine r_aload_n h dX0_init_41 rfl 0 rfl ?_
  refine r_new (T := TX9) (N := 7) (co := 9) (Cn := RX9) h dX0_init_42 nw_X0_29.1 nw_X0_29.2.1 nw_X0_29.2.2 inG9 tyX9 tyX9_ok rfl (by decide) rC_51 rN_51 dv_9 (nlE_no (by decide +kernel)) (nlE_cl (by decide +kernel)) (Nat.le_of_ble_eq_true rfl) (Nat.le_of_ble_eq_true rfl) (fun ad5 hE5 => ?_)
  refine r_lv (lv' := [(0, .ref (ad5 46)), (1, .ref (ad5 2))]) (by rw [hE5 2 (by decide), hE5 46 (by decide)]) ?_
  refine r_st (st0 := [.ref (ad5 51), .ref (ad5 46)]) (by rw [hE5 46 (by decide)]) ?_
  refine r_os hf (fun s5 hf => ?_)
  refine r_rS h (fun hs5 => ?_)
  refine r_dup h dX0_init_45 rfl ?_
  refine r_aload_n h dX0_init_46 rfl 1 rfl ?_
  obtain ⟨r6, s6, hq6, hf⟩ := ob_some hf
  refine r_callI h [.ref (ad5 2)] dX0_init_47 (fun hs => m_Ta_init_51 hs hq6) ml_X0_31 cv_i_Ta rfl ⟨Nat.le_of_ble_eq_true rfl, Nat.le_of_ble_eq_true rfl⟩ ⟨Nat.le_of_ble_eq_true rfl, Nat.le_of_ble_eq_true rfl⟩ (Nat.le_of_ble_eq_true rfl) rfl (fun ad6 n' nl' r' σ' hpo hs6 => ?_)
  obtain ⟨hE6, rfl, rfl, rfl, rfl⟩ := hpo
  refine r_lv (lv' := [(0, .ref (ad6 46)), (1, .ref (ad6 2))]) (by rw [hE6 2 (by decide), hE6 46 (by decide)]) ?_
  refine r_st (st0 := [.ref (ad6 51), .ref (ad6 46)]) (by rw [hE6 46 (by decide), hE6 51 (by decide)]) ?_
  refine p_X0_34 h dX0_init_50 (by decide) rC_46 ?_
  rw [nlE_nu (e := 55) (by decide +kernel)]
  refine r_aload_n h dX0_init_53 rfl 0 rfl ?_
  obtain ⟨r7, s7, hq7, hf⟩ := ob_some hf
  refine r_callV0 h [] dX0_init_54 (fun hs => m_Ea_beginAnew wh_54_56 (by decide) hs hq7) ml_X0_38 cv_Ea_beginAnew rfl (co := 0) rfl (by decide) (by decide) rC_46 ⟨rfl, rfl⟩ ⟨Nat.le_of_ble_eq_true rfl, Nat.le_of_ble_eq_true rfl⟩ ⟨Nat.le_of_ble_eq_true rfl, Nat.le_of_ble_eq_true rfl⟩ (Nat.le_of_ble_eq_true rfl) rfl (fun _ hs7 => ?_)
  exact hr _ _ _ _ _ 0 _ dX0_init_57 ⟨fun j hj => by rw [hE6 j (by omega), hE5 j (by omega), hE4 j (by omega), hE3 j (by omega), hE2 j (by omega), hE1 j (by omega)], rfl, rfl, by cases hf; rfl, by cases hf; rfl⟩ trivial
def rm_Ro_init_54 : Room := { frames := 1, cells := 2, slots := 24, locals := 20 }
noncomputable def f_Ro_init_54 (s0 : SS) : OO :=
  os (zr s0 55) fun s1 =>
  os (zr s1 56) fun s2 =>
  os (si s2 54 2 0) fun s3 =>
  os (si s3 54 3 (-1)) fun s4 =>
  some (0, s4)
set_option maxRecDepth 20000 in
theorem m_Ro_init_54 {l : Launch} {D : va_G} {cs : Nat → ClassId} {aS aV : Nat} {A : Nat → Prop} {ad : Nat → Nat} {out : Int × SS} {s0 : SS} (hs0 : rS s0) (hf : f_Ro_init_54 s0 = some out) : w_MC l D cs aS aV A yX7_init cX7_init 1 0 rm_Ro_init_54 ad 55 (nlE 57) [.ref (ad 54)] s0 (w_Pi ad 55 57 59 nlE out) := by
  refine w_MC_of (by decide +kernel) (by decide) hs0 (Nat.le_of_ble_eq_true rfl) (fun K h hr => ?_)
  refine r_lv (lv' := [(0, .ref (ad 54))]) rfl ?_
  unfold f_Ro_init_54 at hf
  refine r_rS h (fun hs0 => ?_)
  refine r_aload_n h dX7_init_0 rfl 0 rfl ?_
  refine r_objInit h dX7_init_1 ml_X7_3 oi_i oi_c (Nat.le_of_ble_eq_true rfl) (Nat.le_of_ble_eq_true rfl) ?_
  refine r_aload_n h dX7_init_4 rfl 0 rfl ?_
  refine r_bipush h dX7_init_5 (by decide) ?_
  refine r_newaI (N := 12) (ty := .int) (co := 14) (t0 := 1) h dX7_init_7 ac_int rfl rfl (fun _ _ => rfl) rfl (by decide) (by decide) rC_55 rN_55 (by decide) (by decide) (nlE_cl (by decide +kernel)) (Nat.le_of_ble_eq_true rfl) (Nat.le_of_ble_eq_true rfl) (fun ad1 hE1 => ?_)
  refine r_lv (lv' := [(0, .ref (ad1 54))]) (by rw [hE1 54 (by decide)]) ?_
  refine r_st (st0 := [.ref (ad1 55), .ref (ad1 54)]) (by rw [hE1 54 (by decide)]) ?_
  refine r_os hf (fun s1 hf => ?_)
  refine r_rS h (fun hs1 => ?_)
  refine p_X7_9 h dX7_init_9 (by decide) rC_54 ?_
  rw [nlE_nu (e := 57) (by decide +kernel)]
  refine r_aload_n h dX7_init_12 rfl 0 rfl ?_
  refine r_bipush h dX7_init_13 (by decide) ?_
  refine r_newaI (N := 12) (ty := .int) (co := 14) (t0 := 1) h dX7_init_15 ac_int rfl rfl (fun _ _ => rfl) rfl (by decide) (by decide) rC_56 rN_56 (by decide) (by decide) (nlE_cl (by decide +kernel)) (Nat.le_of_ble_eq_true rfl) (Nat.le_of_ble_eq_true rfl) (fun ad2 hE2 => ?_)
  refine r_lv (lv' := [(0, .ref (ad2 54))]) (by rw [hE2 54 (by decide)]) ?_
  refine r_st (st0 := [.ref (ad2 56), .ref (ad2 54)]) (by rw [hE2 54 (by decide)]) ?_
  refine r_os hf (fun s2 hf => ?_)
  refine r_rS h (fun hs2 => ?_)
  refine p_X7_15 h dX7_init_17 (by decide) rC_54 ?_
  rw [nlE_nu (e := 58) (by decide +kernel)]
  refine r_aload_n h dX7_init_20 rfl 0 rfl ?_
  refine r_iconst h dX7_init_21 ?_
  refine p_X7_18 h dX7_init_22 (by decide) rC_54 (rIc rfl) ?_
  refine r_os hf (fun s3 hf => ?_)
  refine r_rS h (fun hs3 => ?_)
  refine r_aload_n h dX7_init_25 rfl 0 rfl ?_
  refine r_iconst h dX7_init_26 ?_
  refine p_X7_22 h dX7_init_27 (by decide) rC_54 (rIc rfl) ?_
  refine r_os hf (fun s4 hf => ?_)
  refine r_rS h (fun hs4 => ?_)
  exact hr _ _ _ _ _ 0 _ dX7_init_30 ⟨fun j hj => by rw [hE2 j (by omega), hE1 j (by omega)], rfl, rfl, by cases hf; rfl, by cases hf; rfl⟩ trivial
def rm_Ta_init_58 : Room := { frames := 1, cells := 2, slots := 26, locals := 20 }
noncomputable def f_Ta_init_58 (s0 : SS) : OO :=
  os (zr s0 59) fun s1 =>
  os (zr s1 60) fun s2 =>
  some (0, s2)
set_option maxRecDepth 20000 in
theorem m_Ta_init_58 {l : Launch} {D : va_G} {cs : Nat → ClassId} {aS aV : Nat} {A : Nat → Prop} {ad : Nat → Nat} {out : Int × SS} {s0 : SS} (hs0 : rS s0) (hf : f_Ta_init_58 s0 = some out) : w_MC l D cs aS aV A yX9_init cX9_init 2 0 rm_Ta_init_58 ad 59 (nlE 61) [.ref (ad 58), .ref (ad 2)] s0 (w_Pi ad 59 61 64 nlE out) := by
  refine w_MC_of (by decide +kernel) (by decide) hs0 (Nat.le_of_ble_eq_true rfl) (fun K h hr => ?_)
  refine r_lv (lv' := [(0, .ref (ad 58)), (1, .ref (ad 2))]) rfl ?_
  unfold f_Ta_init_58 at hf
  refine r_rS h (fun hs0 => ?_)
  refine r_aload_n h dX9_init_0 rfl 0 rfl ?_
  refine r_objInit h dX9_init_1 ml_X9_3 oi_i oi_c (Nat.le_of_ble_eq_true rfl) (Nat.le_of_ble_eq_true rfl) ?_
  refine r_aload_n h dX9_init_4 rfl 0 rfl ?_
  refine r_bipush h dX9_init_5 (by decide) ?_
  refine r_newaI (N := 6) (ty := .int) (co := 14) (t0 := 1) h dX9_init_7 ac_int rfl rfl (fun _ _ => rfl) rfl (by decide) (by decide) rC_59 rN_59 (by decide) (by decide) (nlE_cl (by decide +kernel)) (Nat.le_of_ble_eq_true rfl) (Nat.le_of_ble_eq_true rfl) (fun ad1 hE1 => ?_)
  refine r_lv (lv' := [(0, .ref (ad1 58)), (1, .ref (ad1 2))]) (by rw [hE1 2 (by decide), hE1 58 (by decide)]) ?_
  refine r_st (st0 := [.ref (ad1 59), .ref (ad1 58)]) (by rw [hE1 58 (by decide)]) ?_
  refine r_os hf (fun s1 hf => ?_)
  refine r_rS h (fun hs1 => ?_)
  refine p_X9_9 h dX9_init_9 (by decide) rC_58 ?_
  rw [nlE_nu (e := 61) (by decide +kernel)]
  refine r_aload_n h dX9_init_12 rfl 0 rfl ?_
  refine r_bipush h dX9_init_13 (by decide) ?_
  refine r_newaI (N := 20) (ty := .int) (co := 14) (t0 := 1) h dX9_init_15 ac_int rfl rfl (fun _ _ => rfl) rfl (by decide) (by decide) rC_60 rN_60 (by decide) (by decide) (nlE_cl (by decide +kernel)) (Nat.le_of_ble_eq_true rfl) (Nat.le_of_ble_eq_true rfl) (fun ad2 hE2 => ?_)
  refine r_lv (lv' := [(0, .ref (ad2 58)), (1, .ref (ad2 2))]) (by rw [hE2 2 (by decide), hE2 58 (by decide)]) ?_
  refine r_st (st0 := [.ref (ad2 60), .ref (ad2 58)]) (by rw [hE2 58 (by decide)]) ?_
  refine r_os hf (fun s2 hf => ?_)
  refine r_rS h (fun hs2 => ?_)
  refine p_X9_15 h dX9_init_17 (by decide) rC_58 ?_
  rw [nlE_nu (e := 62) (by decide +kernel)]
  refine r_aload_n h dX9_init_20 rfl 0 rfl ?_
  refine r_aload_n h dX9_init_21 rfl 1 rfl ?_
  refine p_X9_18 h dX9_init_22 (by decide) rC_58 ?_
  rw [nlE_nu (e := 63) (by decide +kernel)]
  exact hr _ _ _ _ _ 0 _ dX9_init_25 ⟨fun j hj => by rw [hE2 j (by omega), hE1 j (by omega)], rfl, rfl, by cases hf; rfl, by cases hf; rfl⟩ trivial
def rm_St_init_57 : Room := { frames := 2, cells := 3, slots := 33, locals := 41 }
noncomputable def f_St_init_57 (s0 : SS) : OO :=
  os (zr s0 58) fun s1 =>
  ob (f_Ta_init_58 s1) fun r2 s2 =>
  some (0, s2)
set_option maxRecDepth 20000 in
theorem m_St_init_57 {l : Launch} {D : va_G} {cs : Nat → ClassId} {aS aV : Nat} {A : Nat → Prop} {ad : Nat → Nat} {out : Int × SS} {s0 : SS} (hs0 : rS s0) (hf : f_St_init_57 s0 = some out) : w_MC l D cs aS aV A yX8_init cX8_init 2 0 rm_St_init_57 ad 58 (nlE 60) [.ref (ad 57), .ref (ad 2)] s0 (w_Pi ad 58 61 65 nlE out) := by
  refine w_MC_of (by decide +kernel) (by decide) hs0 (Nat.le_of_ble_eq_true rfl) (fun K h hr => ?_)
  refine r_lv (lv' := [(0, .ref (ad 57)), (1, .ref (ad 2))]) rfl ?_
  unfold f_St_init_57 at hf
  refine r_rS h (fun hs0 => ?_)
  refine r_aload_n h dX8_init_0 rfl 0 rfl ?_
  refine r_objInit h dX8_init_1 ml_X8_3 oi_i oi_c (Nat.le_of_ble_eq_true rfl) (Nat.le_of_ble_eq_true rfl) ?_
  refine r_aload_n h dX8_init_4 rfl 0 rfl ?_
  refine r_aload_n h dX8_init_5 rfl 1 rfl ?_
  refine p_X8_9 h dX8_init_6 (by decide) rC_57 ?_
  rw [nlE_nu (e := 60) (by decide +kernel)]
  refine r_aload_n h dX8_init_9 rfl 0 rfl ?_
  refine r_new (T := TX9) (N := 7) (co := 9) (Cn := RX9) h dX8_init_10 nw_X8_15.1 nw_X8_15.2.1 nw_X8_15.2.2 inG9 tyX9 tyX9_ok rfl (by decide) rC_58 rN_58 dv_9 (nlE_no (by decide +kernel)) (nlE_cl (by decide +kernel)) (Nat.le_of_ble_eq_true rfl) (Nat.le_of_ble_eq_true rfl) (fun ad1 hE1 => ?_)
  refine r_lv (lv' := [(0, .ref (ad1 57)), (1, .ref (ad1 2))]) (by rw [hE1 2 (by decide), hE1 57 (by decide)]) ?_
  refine r_st (st0 := [.ref (ad1 58), .ref (ad1 57)]) (by rw [hE1 57 (by decide)]) ?_
  refine r_os hf (fun s1 hf => ?_)
  refine r_rS h (fun hs1 => ?_)
  refine r_dup h dX8_init_13 rfl ?_
  refine r_aload_n h dX8_init_14 rfl 1 rfl ?_
  obtain ⟨r2, s2, hq2, hf⟩ := ob_some hf
  refine r_callI h [.ref (ad1 2)] dX8_init_15 (fun hs => m_Ta_init_58 hs hq2) ml_X8_17 cv_i_Ta rfl ⟨Nat.le_of_ble_eq_true rfl, Nat.le_of_ble_eq_true rfl⟩ ⟨Nat.le_of_ble_eq_true rfl, Nat.le_of_ble_eq_true rfl⟩ (Nat.le_of_ble_eq_true rfl) rfl (fun ad2 n' nl' r' σ' hpo hs2 => ?_)
  obtain ⟨hE2, rfl, rfl, rfl, rfl⟩ := hpo
  refine r_lv (lv' := [(0, .ref (ad2 57)), (1, .ref (ad2 2))]) (by rw [hE2 2 (by decide), hE2 57 (by decide)]) ?_
  refine r_st (st0 := [.ref (ad2 58), .ref (ad2 57)]) (by rw [hE2 57 (by decide), hE2 58 (by decide)]) ?_
  refine p_X8_20 h dX8_init_18 (by decide) rC_57 ?_
  rw [nlE_nu (e := 64) (by decide +kernel)]
  exact hr _ _ _ _ _ 0 _ dX8_init_21 ⟨fun j hj => by rw [hE2 j (by omega), hE1 j (by omega)], rfl, rfl, by cases hf; rfl, by cases hf; rfl⟩ trivial
def rm_Ro_init_62 : Room := { frames := 1, cells := 2, slots := 24, locals := 20 }
noncomputable def f_Ro_init_62 (s0 : SS) : OO :=
  os (zr s0 63) fun s1 =>
  os (zr s1 64) fun s2 =>
  os (si s2 62 2 0) fun s3 =>
  os (si s3 62 3 (-1)) fun s4 =>
  some (0, s4)
set_option maxRecDepth 20000 in
theorem m_Ro_init_62 {l : Launch} {D : va_G} {cs : Nat → ClassId} {aS aV : Nat} {A : Nat → Prop} {ad : Nat → Nat} {out : Int × SS} {s0 : SS} (hs0 : rS s0) (hf : f_Ro_init_62 s0 = some out) : w_MC l D cs aS aV A yX7_init cX7_init 1 0 rm_Ro_init_62 ad 63 (nlE 66) [.ref (ad 62)] s0 (w_Pi ad 63 65 68 nlE out) := by
  refine w_MC_of (by decide +kernel) (by decide) hs0 (Nat.le_of_ble_eq_true rfl) (fun K h hr => ?_)
  refine r_lv (lv' := [(0, .ref (ad 62))]) rfl ?_
  unfold f_Ro_init_62 at hf
  refine r_rS h (fun hs0 => ?_)
  refine r_aload_n h dX7_init_0 rfl 0 rfl ?_
  refine r_objInit h dX7_init_1 ml_X7_3 oi_i oi_c (Nat.le_of_ble_eq_true rfl) (Nat.le_of_ble_eq_true rfl) ?_
  refine r_aload_n h dX7_init_4 rfl 0 rfl ?_
  refine r_bipush h dX7_init_5 (by decide) ?_
  refine r_newaI (N := 12) (ty := .int) (co := 14) (t0 := 1) h dX7_init_7 ac_int rfl rfl (fun _ _ => rfl) rfl (by decide) (by decide) rC_63 rN_63 (by decide) (by decide) (nlE_cl (by decide +kernel)) (Nat.le_of_ble_eq_true rfl) (Nat.le_of_ble_eq_true rfl) (fun ad1 hE1 => ?_)
  refine r_lv (lv' := [(0, .ref (ad1 62))]) (by rw [hE1 62 (by decide)]) ?_
  refine r_st (st0 := [.ref (ad1 63), .ref (ad1 62)]) (by rw [hE1 62 (by decide)]) ?_
  refine r_os hf (fun s1 hf => ?_)
  refine r_rS h (fun hs1 => ?_)
  refine p_X7_9 h dX7_init_9 (by decide) rC_62 ?_
  rw [nlE_nu (e := 66) (by decide +kernel)]
  refine r_aload_n h dX7_init_12 rfl 0 rfl ?_
  refine r_bipush h dX7_init_13 (by decide) ?_
  refine r_newaI (N := 12) (ty := .int) (co := 14) (t0 := 1) h dX7_init_15 ac_int rfl rfl (fun _ _ => rfl) rfl (by decide) (by decide) rC_64 rN_64 (by decide) (by decide) (nlE_cl (by decide +kernel)) (Nat.le_of_ble_eq_true rfl) (Nat.le_of_ble_eq_true rfl) (fun ad2 hE2 => ?_)
  refine r_lv (lv' := [(0, .ref (ad2 62))]) (by rw [hE2 62 (by decide)]) ?_
  refine r_st (st0 := [.ref (ad2 64), .ref (ad2 62)]) (by rw [hE2 62 (by decide)]) ?_
  refine r_os hf (fun s2 hf => ?_)
  refine r_rS h (fun hs2 => ?_)
  refine p_X7_15 h dX7_init_17 (by decide) rC_62 ?_
  rw [nlE_nu (e := 67) (by decide +kernel)]
  refine r_aload_n h dX7_init_20 rfl 0 rfl ?_
  refine r_iconst h dX7_init_21 ?_
  refine p_X7_18 h dX7_init_22 (by decide) rC_62 (rIc rfl) ?_
  refine r_os hf (fun s3 hf => ?_)
  refine r_rS h (fun hs3 => ?_)
  refine r_aload_n h dX7_init_25 rfl 0 rfl ?_
  refine r_iconst h dX7_init_26 ?_
  refine p_X7_22 h dX7_init_27 (by decide) rC_62 (rIc rfl) ?_
  refine r_os hf (fun s4 hf => ?_)
  refine r_rS h (fun hs4 => ?_)
  exact hr _ _ _ _ _ 0 _ dX7_init_30 ⟨fun j hj => by rw [hE2 j (by omega), hE1 j (by omega)], rfl, rfl, by cases hf; rfl, by cases hf; rfl⟩ trivial
def rm_Ta_init_76 : Room := { frames := 1, cells := 2, slots := 26, locals := 20 }
noncomputable def f_Ta_init_76 (s0 : SS) : OO :=
  os (zr s0 77) fun s1 =>
  os (zr s1 78) fun s2 =>
  some (0, s2)
set_option maxRecDepth 20000 in
theorem m_Ta_init_76 {l : Launch} {D : va_G} {cs : Nat → ClassId} {aS aV : Nat} {A : Nat → Prop} {ad : Nat → Nat} {out : Int × SS} {s0 : SS} (hs0 : rS s0) (hf : f_Ta_init_76 s0 = some out) : w_MC l D cs aS aV A yX9_init cX9_init 2 0 rm_Ta_init_76 ad 77 (nlE 82) [.ref (ad 76), .ref (ad 2)] s0 (w_Pi ad 77 79 85 nlE out) := by
  refine w_MC_of (by decide +kernel) (by decide) hs0 (Nat.le_of_ble_eq_true rfl) (fun K h hr => ?_)
  refine r_lv (lv' := [(0, .ref (ad 76)), (1, .ref (ad 2))]) rfl ?_
  unfold f_Ta_init_76 at hf
  refine r_rS h (fun hs0 => ?_)
  refine r_aload_n h dX9_init_0 rfl 0 rfl ?_
  refine r_objInit h dX9_init_1 ml_X9_3 oi_i oi_c (Nat.le_of_ble_eq_true rfl) (Nat.le_of_ble_eq_true rfl) ?_
  refine r_aload_n h dX9_init_4 rfl 0 rfl ?_
  refine r_bipush h dX9_init_5 (by decide) ?_
  refine r_newaI (N := 6) (ty := .int) (co := 14) (t0 := 1) h dX9_init_7 ac_int rfl rfl (fun _ _ => rfl) rfl (by decide) (by decide) rC_77 rN_77 (by decide) (by decide) (nlE_cl (by decide +kernel)) (Nat.le_of_ble_eq_true rfl) (Nat.le_of_ble_eq_true rfl) (fun ad1 hE1 => ?_)
  refine r_lv (lv' := [(0, .ref (ad1 76)), (1, .ref (ad1 2))]) (by rw [hE1 2 (by decide), hE1 76 (by decide)]) ?_
  refine r_st (st0 := [.ref (ad1 77), .ref (ad1 76)]) (by rw [hE1 76 (by decide)]) ?_
  refine r_os hf (fun s1 hf => ?_)
  refine r_rS h (fun hs1 => ?_)
  refine p_X9_9 h dX9_init_9 (by decide) rC_76 ?_
  rw [nlE_nu (e := 82) (by decide +kernel)]
  refine r_aload_n h dX9_init_12 rfl 0 rfl ?_
  refine r_bipush h dX9_init_13 (by decide) ?_
  refine r_newaI (N := 20) (ty := .int) (co := 14) (t0 := 1) h dX9_init_15 ac_int rfl rfl (fun _ _ => rfl) rfl (by decide) (by decide) rC_78 rN_78 (by decide) (by decide) (nlE_cl (by decide +kernel)) (Nat.le_of_ble_eq_true rfl) (Nat.le_of_ble_eq_true rfl) (fun ad2 hE2 => ?_)
  refine r_lv (lv' := [(0, .ref (ad2 76)), (1, .ref (ad2 2))]) (by rw [hE2 2 (by decide), hE2 76 (by decide)]) ?_
  refine r_st (st0 := [.ref (ad2 78), .ref (ad2 76)]) (by rw [hE2 76 (by decide)]) ?_
  refine r_os hf (fun s2 hf => ?_)
  refine r_rS h (fun hs2 => ?_)
  refine p_X9_15 h dX9_init_17 (by decide) rC_76 ?_
  rw [nlE_nu (e := 83) (by decide +kernel)]
  refine r_aload_n h dX9_init_20 rfl 0 rfl ?_
  refine r_aload_n h dX9_init_21 rfl 1 rfl ?_
  refine p_X9_18 h dX9_init_22 (by decide) rC_76 ?_
  rw [nlE_nu (e := 84) (by decide +kernel)]
  exact hr _ _ _ _ _ 0 _ dX9_init_25 ⟨fun j hj => by rw [hE2 j (by omega), hE1 j (by omega)], rfl, rfl, by cases hf; rfl, by cases hf; rfl⟩ trivial
def rm_St_init_75 : Room := { frames := 2, cells := 3, slots := 33, locals := 41 }
noncomputable def f_St_init_75 (s0 : SS) : OO :=
  os (zr s0 76) fun s1 =>
  ob (f_Ta_init_76 s1) fun r2 s2 =>
  some (0, s2)
set_option maxRecDepth 20000 in
theorem m_St_init_75 {l : Launch} {D : va_G} {cs : Nat → ClassId} {aS aV : Nat} {A : Nat → Prop} {ad : Nat → Nat} {out : Int × SS} {s0 : SS} (hs0 : rS s0) (hf : f_St_init_75 s0 = some out) : w_MC l D cs aS aV A yX8_init cX8_init 2 0 rm_St_init_75 ad 76 (nlE 81) [.ref (ad 75), .ref (ad 2)] s0 (w_Pi ad 76 79 86 nlE out) := by
  refine w_MC_of (by decide +kernel) (by decide) hs0 (Nat.le_of_ble_eq_true rfl) (fun K h hr => ?_)
  refine r_lv (lv' := [(0, .ref (ad 75)), (1, .ref (ad 2))]) rfl ?_
  unfold f_St_init_75 at hf
  refine r_rS h (fun hs0 => ?_)
  refine r_aload_n h dX8_init_0 rfl 0 rfl ?_
  refine r_objInit h dX8_init_1 ml_X8_3 oi_i oi_c (Nat.le_of_ble_eq_true rfl) (Nat.le_of_ble_eq_true rfl) ?_
  refine r_aload_n h dX8_init_4 rfl 0 rfl ?_
  refine r_aload_n h dX8_init_5 rfl 1 rfl ?_
  refine p_X8_9 h dX8_init_6 (by decide) rC_75 ?_
  rw [nlE_nu (e := 81) (by decide +kernel)]
  refine r_aload_n h dX8_init_9 rfl 0 rfl ?_
  refine r_new (T := TX9) (N := 7) (co := 9) (Cn := RX9) h dX8_init_10 nw_X8_15.1 nw_X8_15.2.1 nw_X8_15.2.2 inG9 tyX9 tyX9_ok rfl (by decide) rC_76 rN_76 dv_9 (nlE_no (by decide +kernel)) (nlE_cl (by decide +kernel)) (Nat.le_of_ble_eq_true rfl) (Nat.le_of_ble_eq_true rfl) (fun ad1 hE1 => ?_)
  refine r_lv (lv' := [(0, .ref (ad1 75)), (1, .ref (ad1 2))]) (by rw [hE1 2 (by decide), hE1 75 (by decide)]) ?_
  refine r_st (st0 := [.ref (ad1 76), .ref (ad1 75)]) (by rw [hE1 75 (by decide)]) ?_
  refine r_os hf (fun s1 hf => ?_)
  refine r_rS h (fun hs1 => ?_)
  refine r_dup h dX8_init_13 rfl ?_
  refine r_aload_n h dX8_init_14 rfl 1 rfl ?_
  obtain ⟨r2, s2, hq2, hf⟩ := ob_some hf
  refine r_callI h [.ref (ad1 2)] dX8_init_15 (fun hs => m_Ta_init_76 hs hq2) ml_X8_17 cv_i_Ta rfl ⟨Nat.le_of_ble_eq_true rfl, Nat.le_of_ble_eq_true rfl⟩ ⟨Nat.le_of_ble_eq_true rfl, Nat.le_of_ble_eq_true rfl⟩ (Nat.le_of_ble_eq_true rfl) rfl (fun ad2 n' nl' r' σ' hpo hs2 => ?_)
  obtain ⟨hE2, rfl, rfl, rfl, rfl⟩ := hpo
  refine r_lv (lv' := [(0, .ref (ad2 75)), (1, .ref (ad2 2))]) (by rw [hE2 2 (by decide), hE2 75 (by decide)]) ?_
  refine r_st (st0 := [.ref (ad2 76), .ref (ad2 75)]) (by rw [hE2 75 (by decide), hE2 76 (by decide)]) ?_
  refine p_X8_20 h dX8_init_18 (by decide) rC_75 ?_
  rw [nlE_nu (e := 85) (by decide +kernel)]
  exact hr _ _ _ _ _ 0 _ dX8_init_21 ⟨fun j hj => by rw [hE2 j (by omega), hE1 j (by omega)], rfl, rfl, by cases hf; rfl, by cases hf; rfl⟩ trivial
def rm_Fi_init_61 : Room := { frames := 3, cells := 17, slots := 569, locals := 62 }
noncomputable def f_Fi_init_61 (s0 : SS) : OO :=
  os (zr s0 62) fun s1 =>
  ob (f_Ro_init_62 s1) fun r2 s2 =>
  os (zr s2 65) fun s3 =>
  os (zr s3 66) fun s4 =>
  os (zr s4 67) fun s5 =>
  os (zr s5 68) fun s6 =>
  os (zr s6 69) fun s7 =>
  os (zr s7 70) fun s8 =>
  os (zr s8 71) fun s9 =>
  os (zr s9 72) fun s10 =>
  os (zr s10 73) fun s11 =>
  os (zr s11 74) fun s12 =>
  os (zr s12 75) fun s13 =>
  ob (f_St_init_75 s13) fun r14 s14 =>
  some (0, s14)
set_option maxRecDepth 20000 in
theorem m_Fi_init_61 {l : Launch} {D : va_G} {cs : Nat → ClassId} {aS aV : Nat} {A : Nat → Prop} {ad : Nat → Nat} {out : Int × SS} {s0 : SS} (hs0 : rS s0) (hf : f_Fi_init_61 s0 = some out) : w_MC l D cs aS aV A yX1_init cX1_init 3 0 rm_Fi_init_61 ad 62 (nlE 66) [.ref (ad 61), .ref (ad 2), .ref (ad 47)] s0 (w_Pi ad 62 79 87 nlE out) := by
  refine w_MC_of (by decide +kernel) (by decide) hs0 (Nat.le_of_ble_eq_true rfl) (fun K h hr => ?_)
  refine r_lv (lv' := [(0, .ref (ad 61)), (1, .ref (ad 2)), (2, .ref (ad 47))]) rfl ?_
  unfold f_Fi_init_61 at hf
  refine r_rS h (fun hs0 => ?_)
  refine r_aload_n h dX1_init_0 rfl 0 rfl ?_
  refine r_objInit h dX1_init_1 ml_X1_3 oi_i oi_c (Nat.le_of_ble_eq_true rfl) (Nat.le_of_ble_eq_true rfl) ?_
  refine r_aload_n h dX1_init_4 rfl 0 rfl ?_
  refine r_new (T := TX7) (N := 4) (co := 7) (Cn := RX7) h dX1_init_5 nw_X1_9.1 nw_X1_9.2.1 nw_X1_9.2.2 inG7 tyX7 tyX7_ok rfl (by decide) rC_62 rN_62 dv_7 (nlE_no (by decide +kernel)) (nlE_cl (by decide +kernel)) (Nat.le_of_ble_eq_true rfl) (Nat.le_of_ble_eq_true rfl) (fun ad1 hE1 => ?_)
  refine r_lv (lv' := [(0, .ref (ad1 61)), (1, .ref (ad1 2)), (2, .ref (ad1 47))]) (by rw [hE1 2 (by decide), hE1 47 (by decide), hE1 61 (by decide)]) ?_
  refine r_st (st0 := [.ref (ad1 62), .ref (ad1 61)]) (by rw [hE1 61 (by decide)]) ?_
  refine r_os hf (fun s1 hf => ?_)
  refine r_rS h (fun hs1 => ?_)
  refine r_dup h dX1_init_8 rfl ?_
  obtain ⟨r2, s2, hq2, hf⟩ := ob_some hf
  refine r_callI h [] dX1_init_9 (fun hs => m_Ro_init_62 hs hq2) ml_X1_11 cv_i_Ro rfl ⟨Nat.le_of_ble_eq_true rfl, Nat.le_of_ble_eq_true rfl⟩ ⟨Nat.le_of_ble_eq_true rfl, Nat.le_of_ble_eq_true rfl⟩ (Nat.le_of_ble_eq_true rfl) rfl (fun ad2 n' nl' r' σ' hpo hs2 => ?_)
  obtain ⟨hE2, rfl, rfl, rfl, rfl⟩ := hpo
  refine r_lv (lv' := [(0, .ref (ad2 61)), (1, .ref (ad2 2)), (2, .ref (ad2 47))]) (by rw [hE2 2 (by decide), hE2 47 (by decide), hE2 61 (by decide)]) ?_
  refine r_st (st0 := [.ref (ad2 62), .ref (ad2 61)]) (by rw [hE2 61 (by decide), hE2 62 (by decide)]) ?_
  refine p_X1_12 h dX1_init_12 (by decide) rC_61 ?_
  rw [nlE_nu (e := 68) (by decide +kernel)]
  refine r_aload_n h dX1_init_15 rfl 0 rfl ?_
  refine r_bipush h dX1_init_16 (by decide) ?_
  refine r_newaI (N := 12) (ty := .int) (co := 14) (t0 := 1) h dX1_init_18 ac_int rfl rfl (fun _ _ => rfl) rfl (by decide) (by decide) rC_65 rN_65 (by decide) (by decide) (nlE_cl (by decide +kernel)) (Nat.le_of_ble_eq_true rfl) (Nat.le_of_ble_eq_true rfl) (fun ad3 hE3 => ?_)
  refine r_lv (lv' := [(0, .ref (ad3 61)), (1, .ref (ad3 2)), (2, .ref (ad3 47))]) (by rw [hE3 2 (by decide), hE3 47 (by decide), hE3 61 (by decide)]) ?_
  refine r_st (st0 := [.ref (ad3 65), .ref (ad3 61)]) (by rw [hE3 61 (by decide)]) ?_
  refine r_os hf (fun s3 hf => ?_)
  refine r_rS h (fun hs3 => ?_)
  refine p_X1_18 h dX1_init_20 (by decide) rC_61 ?_
  rw [nlE_nu (e := 69) (by decide +kernel)]
  refine r_aload_n h dX1_init_23 rfl 0 rfl ?_
  refine r_bipush h dX1_init_24 (by decide) ?_
  refine r_newaI (N := 8) (ty := .int) (co := 14) (t0 := 1) h dX1_init_26 ac_int rfl rfl (fun _ _ => rfl) rfl (by decide) (by decide) rC_66 rN_66 (by decide) (by decide) (nlE_cl (by decide +kernel)) (Nat.le_of_ble_eq_true rfl) (Nat.le_of_ble_eq_true rfl) (fun ad4 hE4 => ?_)
  refine r_lv (lv' := [(0, .ref (ad4 61)), (1, .ref (ad4 2)), (2, .ref (ad4 47))]) (by rw [hE4 2 (by decide), hE4 47 (by decide), hE4 61 (by decide)]) ?_
  refine r_st (st0 := [.ref (ad4 66), .ref (ad4 61)]) (by rw [hE4 61 (by decide)]) ?_
  refine r_os hf (fun s4 hf => ?_)
  refine r_rS h (fun hs4 => ?_)
  refine p_X1_22 h dX1_init_28 (by decide) rC_61 ?_
  rw [nlE_nu (e := 70) (by decide +kernel)]
  refine r_aload_n h dX1_init_31 rfl 0 rfl ?_
  refine r_sipush h dX1_init_32 (by decide) ?_
  refine r_newaI (N := 180) (ty := .int) (co := 14) (t0 := 1) h dX1_init_35 ac_int rfl rfl (fun _ _ => rfl) rfl (by decide) (by decide) rC_67 rN_67 (by decide) (by decide) (nlE_cl (by decide +kernel)) (Nat.le_of_ble_eq_true rfl) (Nat.le_of_ble_eq_true rfl) (fun ad5 hE5 => ?_)
  refine r_lv (lv' := [(0, .ref (ad5 61)), (1, .ref (ad5 2)), (2, .ref (ad5 47))]) (by rw [hE5 2 (by decide), hE5 47 (by decide), hE5 61 (by decide)]) ?_
  refine r_st (st0 := [.ref (ad5 67), .ref (ad5 61)]) (by rw [hE5 61 (by decide)]) ?_
  refine r_os hf (fun s5 hf => ?_)
  refine r_rS h (fun hs5 => ?_)
  refine p_X1_25 h dX1_init_37 (by decide) rC_61 ?_
  rw [nlE_nu (e := 71) (by decide +kernel)]
  refine r_aload_n h dX1_init_40 rfl 0 rfl ?_
  refine r_sipush h dX1_init_41 (by decide) ?_
  refine r_newaI (N := 180) (ty := .int) (co := 14) (t0 := 1) h dX1_init_44 ac_int rfl rfl (fun _ _ => rfl) rfl (by decide) (by decide) rC_68 rN_68 (by decide) (by decide) (nlE_cl (by decide +kernel)) (Nat.le_of_ble_eq_true rfl) (Nat.le_of_ble_eq_true rfl) (fun ad6 hE6 => ?_)
  refine r_lv (lv' := [(0, .ref (ad6 61)), (1, .ref (ad6 2)), (2, .ref (ad6 47))]) (by rw [hE6 2 (by decide), hE6 47 (by decide), hE6 61 (by decide)]) ?_
  refine r_st (st0 := [.ref (ad6 68), .ref (ad6 61)]) (by rw [hE6 61 (by decide)]) ?_
  refine r_os hf (fun s6 hf => ?_)
  refine r_rS h (fun hs6 => ?_)
  refine p_X1_28 h dX1_init_46 (by decide) rC_61 ?_
  rw [nlE_nu (e := 72) (by decide +kernel)]
  refine r_aload_n h dX1_init_49 rfl 0 rfl ?_
  refine r_bipush h dX1_init_50 (by decide) ?_
  refine r_newaI (N := 12) (ty := .int) (co := 14) (t0 := 1) h dX1_init_52 ac_int rfl rfl (fun _ _ => rfl) rfl (by decide) (by decide) rC_69 rN_69 (by decide) (by decide) (nlE_cl (by decide +kernel)) (Nat.le_of_ble_eq_true rfl) (Nat.le_of_ble_eq_true rfl) (fun ad7 hE7 => ?_)
  refine r_lv (lv' := [(0, .ref (ad7 61)), (1, .ref (ad7 2)), (2, .ref (ad7 47))]) (by rw [hE7 2 (by decide), hE7 47 (by decide), hE7 61 (by decide)]) ?_
  refine r_st (st0 := [.ref (ad7 69), .ref (ad7 61)]) (by rw [hE7 61 (by decide)]) ?_
  refine r_os hf (fun s7 hf => ?_)
  refine r_rS h (fun hs7 => ?_)
  refine p_X1_31 h dX1_init_54 (by decide) rC_61 ?_
  rw [nlE_nu (e := 73) (by decide +kernel)]
  refine r_aload_n h dX1_init_57 rfl 0 rfl ?_
  refine r_iconst h dX1_init_58 ?_
  refine r_newaI (N := 4) (ty := .int) (co := 14) (t0 := 1) h dX1_init_59 ac_int rfl rfl (fun _ _ => rfl) rfl (by decide) (by decide) rC_70 rN_70 (by decide) (by decide) (nlE_cl (by decide +kernel)) (Nat.le_of_ble_eq_true rfl) (Nat.le_of_ble_eq_true rfl) (fun ad8 hE8 => ?_)
  refine r_lv (lv' := [(0, .ref (ad8 61)), (1, .ref (ad8 2)), (2, .ref (ad8 47))]) (by rw [hE8 2 (by decide), hE8 47 (by decide), hE8 61 (by decide)]) ?_
  refine r_st (st0 := [.ref (ad8 70), .ref (ad8 61)]) (by rw [hE8 61 (by decide)]) ?_
  refine r_os hf (fun s8 hf => ?_)
  refine r_rS h (fun hs8 => ?_)
  refine p_X1_34 h dX1_init_61 (by decide) rC_61 ?_
  rw [nlE_nu (e := 74) (by decide +kernel)]
  refine r_aload_n h dX1_init_64 rfl 0 rfl ?_
  refine r_iconst h dX1_init_65 ?_
  refine r_newaI (N := 4) (ty := .int) (co := 14) (t0 := 1) h dX1_init_66 ac_int rfl rfl (fun _ _ => rfl) rfl (by decide) (by decide) rC_71 rN_71 (by decide) (by decide) (nlE_cl (by decide +kernel)) (Nat.le_of_ble_eq_true rfl) (Nat.le_of_ble_eq_true rfl) (fun ad9 hE9 => ?_)
  refine r_lv (lv' := [(0, .ref (ad9 61)), (1, .ref (ad9 2)), (2, .ref (ad9 47))]) (by rw [hE9 2 (by decide), hE9 47 (by decide), hE9 61 (by decide)]) ?_
  refine r_st (st0 := [.ref (ad9 71), .ref (ad9 61)]) (by rw [hE9 61 (by decide)]) ?_
  refine r_os hf (fun s9 hf => ?_)
  refine r_rS h (fun hs9 => ?_)
  refine p_X1_37 h dX1_init_68 (by decide) rC_61 ?_
  rw [nlE_nu (e := 75) (by decide +kernel)]
  refine r_aload_n h dX1_init_71 rfl 0 rfl ?_
  refine r_iconst h dX1_init_72 ?_
  refine r_newaI (N := 4) (ty := .int) (co := 14) (t0 := 1) h dX1_init_73 ac_int rfl rfl (fun _ _ => rfl) rfl (by decide) (by decide) rC_72 rN_72 (by decide) (by decide) (nlE_cl (by decide +kernel)) (Nat.le_of_ble_eq_true rfl) (Nat.le_of_ble_eq_true rfl) (fun ad10 hE10 => ?_)
  refine r_lv (lv' := [(0, .ref (ad10 61)), (1, .ref (ad10 2)), (2, .ref (ad10 47))]) (by rw [hE10 2 (by decide), hE10 47 (by decide), hE10 61 (by decide)]) ?_
  refine r_st (st0 := [.ref (ad10 72), .ref (ad10 61)]) (by rw [hE10 61 (by decide)]) ?_
  refine r_os hf (fun s10 hf => ?_)
  refine r_rS h (fun hs10 => ?_)
  refine p_X1_40 h dX1_init_75 (by decide) rC_61 ?_
  rw [nlE_nu (e := 76) (by decide +kernel)]
  refine r_aload_n h dX1_init_78 rfl 0 rfl ?_
  refine r_iconst h dX1_init_79 ?_
  refine r_newaI (N := 4) (ty := .int) (co := 14) (t0 := 1) h dX1_init_80 ac_int rfl rfl (fun _ _ => rfl) rfl (by decide) (by decide) rC_73 rN_73 (by decide) (by decide) (nlE_cl (by decide +kernel)) (Nat.le_of_ble_eq_true rfl) (Nat.le_of_ble_eq_true rfl) (fun ad11 hE11 => ?_)
  refine r_lv (lv' := [(0, .ref (ad11 61)), (1, .ref (ad11 2)), (2, .ref (ad11 47))]) (by rw [hE11 2 (by decide), hE11 47 (by decide), hE11 61 (by decide)]) ?_
  refine r_st (st0 := [.ref (ad11 73), .ref (ad11 61)]) (by rw [hE11 61 (by decide)]) ?_
  refine r_os hf (fun s11 hf => ?_)
  refine r_rS h (fun hs11 => ?_)
  refine p_X1_43 h dX1_init_82 (by decide) rC_61 ?_
  rw [nlE_nu (e := 77) (by decide +kernel)]
  refine r_aload_n h dX1_init_85 rfl 0 rfl ?_
  refine r_bipush h dX1_init_86 (by decide) ?_
  refine r_newaI (N := 96) (ty := .int) (co := 14) (t0 := 1) h dX1_init_88 ac_int rfl rfl (fun _ _ => rfl) rfl (by decide) (by decide) rC_74 rN_74 (by decide) (by decide) (nlE_cl (by decide +kernel)) (Nat.le_of_ble_eq_true rfl) (Nat.le_of_ble_eq_true rfl) (fun ad12 hE12 => ?_)
  refine r_lv (lv' := [(0, .ref (ad12 61)), (1, .ref (ad12 2)), (2, .ref (ad12 47))]) (by rw [hE12 2 (by decide), hE12 47 (by decide), hE12 61 (by decide)]) ?_
  refine r_st (st0 := [.ref (ad12 74), .ref (ad12 61)]) (by rw [hE12 61 (by decide)]) ?_
  refine r_os hf (fun s12 hf => ?_)
  refine r_rS h (fun hs12 => ?_)
  refine p_X1_46 h dX1_init_90 (by decide) rC_61 ?_
  rw [nlE_nu (e := 78) (by decide +kernel)]
  refine r_aload_n h dX1_init_93 rfl 0 rfl ?_
  refine r_aload_n h dX1_init_94 rfl 1 rfl ?_
  refine p_X1_49 h dX1_init_95 (by decide) rC_61 ?_
  rw [nlE_nu (e := 79) (by decide +kernel)]
  refine r_aload_n h dX1_init_98 rfl 0 rfl ?_
  refine r_aload_n h dX1_init_99 rfl 2 rfl ?_
  refine p_X1_53 h dX1_init_100 (by decide) rC_61 ?_
  rw [nlE_nu (e := 80) (by decide +kernel)]
  refine r_aload_n h dX1_init_103 rfl 0 rfl ?_
  refine r_new (T := TX8) (N := 4) (co := 8) (Cn := RX8) h dX1_init_104 nw_X1_56.1 nw_X1_56.2.1 nw_X1_56.2.2 inG8 tyX8 tyX8_ok rfl (by decide) rC_75 rN_75 dv_8 (nlE_no (by decide +kernel)) (nlE_cl (by decide +kernel)) (Nat.le_of_ble_eq_true rfl) (Nat.le_of_ble_eq_true rfl) (fun ad13 hE13 => ?_)
  refine r_lv (lv' := [(0, .ref (ad13 61)), (1, .ref (ad13 2)), (2, .ref (ad13 47))]) (by rw [hE13 2 (by decide), hE13 47 (by decide), hE13 61 (by decide)]) ?_
  refine r_st (st0 := [.ref (ad13 75), .ref (ad13 61)]) (by rw [hE13 61 (by decide)]) ?_
  refine r_os hf (fun s13 hf => ?_)
  refine r_rS h (fun hs13 => ?_)
  refine r_dup h dX1_init_107 rfl ?_
  refine r_aload_n h dX1_init_108 rfl 1 rfl ?_
  obtain ⟨r14, s14, hq14, hf⟩ := ob_some hf
  refine r_callI h [.ref (ad13 2)] dX1_init_109 (fun hs => m_St_init_75 hs hq14) ml_X1_58 cv_i_St rfl ⟨Nat.le_of_ble_eq_true rfl, Nat.le_of_ble_eq_true rfl⟩ ⟨Nat.le_of_ble_eq_true rfl, Nat.le_of_ble_eq_true rfl⟩ (Nat.le_of_ble_eq_true rfl) rfl (fun ad14 n' nl' r' σ' hpo hs14 => ?_)
  obtain ⟨hE14, rfl, rfl, rfl, rfl⟩ := hpo
  refine r_lv (lv' := [(0, .ref (ad14 61)), (1, .ref (ad14 2)), (2, .ref (ad14 47))]) (by rw [hE14 2 (by decide), hE14 47 (by decide), hE14 61 (by decide)]) ?_
  refine r_st (st0 := [.ref (ad14 75), .ref (ad14 61)]) (by rw [hE14 61 (by decide), hE14 75 (by decide)]) ?_
  refine p_X1_61 h dX1_init_112 (by decide) rC_61 ?_
  rw [nlE_nu (e := 86) (by decide +kernel)]
  exact hr _ _ _ _ _ 0 _ dX1_init_115 ⟨fun j hj => by rw [hE14 j (by omega), hE13 j (by omega), hE12 j (by omega), hE11 j (by omega), hE10 j (by omega), hE9 j (by omega), hE8 j (by omega), hE7 j (by omega), hE6 j (by omega), hE5 j (by omega), hE4 j (by omega), hE3 j (by omega), hE2 j (by omega), hE1 j (by omega)], rfl, rfl, by cases hf; rfl, by cases hf; rfl⟩ trivial
def rm_Ta_init_83 : Room := { frames := 1, cells := 2, slots := 26, locals := 20 }
noncomputable def f_Ta_init_83 (s0 : SS) : OO :=
  os (zr s0 84) fun s1 =>
  os (zr s1 85) fun s2 =>
  some (0, s2)
set_option maxRecDepth 20000 in
theorem m_Ta_init_83 {l : Launch} {D : va_G} {cs : Nat → ClassId} {aS aV : Nat} {A : Nat → Prop} {ad : Nat → Nat} {out : Int × SS} {s0 : SS} (hs0 : rS s0) (hf : f_Ta_init_83 s0 = some out) : w_MC l D cs aS aV A yX9_init cX9_init 2 0 rm_Ta_init_83 ad 84 (nlE 92) [.ref (ad 83), .ref (ad 2)] s0 (w_Pi ad 84 86 95 nlE out) := by
  refine w_MC_of (by decide +kernel) (by decide) hs0 (Nat.le_of_ble_eq_true rfl) (fun K h hr => ?_)
  refine r_lv (lv' := [(0, .ref (ad 83)), (1, .ref (ad 2))]) rfl ?_
  unfold f_Ta_init_83 at hf
  refine r_rS h (fun hs0 => ?_)
  refine r_aload_n h dX9_init_0 rfl 0 rfl ?_
  refine r_objInit h dX9_init_1 ml_X9_3 oi_i oi_c (Nat.le_of_ble_eq_true rfl) (Nat.le_of_ble_eq_true rfl) ?_
  refine r_aload_n h dX9_init_4 rfl 0 rfl ?_
  refine r_bipush h dX9_init_5 (by decide) ?_
  refine r_newaI (N := 6) (ty := .int) (co := 14) (t0 := 1) h dX9_init_7 ac_int rfl rfl (fun _ _ => rfl) rfl (by decide) (by decide) rC_84 rN_84 (by decide) (by decide) (nlE_cl (by decide +kernel)) (Nat.le_of_ble_eq_true rfl) (Nat.le_of_ble_eq_true rfl) (fun ad1 hE1 => ?_)
  refine r_lv (lv' := [(0, .ref (ad1 83)), (1, .ref (ad1 2))]) (by rw [hE1 2 (by decide), hE1 83 (by decide)]) ?_
  refine r_st (st0 := [.ref (ad1 84), .ref (ad1 83)]) (by rw [hE1 83 (by decide)]) ?_
  refine r_os hf (fun s1 hf => ?_)
  refine r_rS h (fun hs1 => ?_)
  refine p_X9_9 h dX9_init_9 (by decide) rC_83 ?_
  rw [nlE_nu (e := 92) (by decide +kernel)]
  refine r_aload_n h dX9_init_12 rfl 0 rfl ?_
  refine r_bipush h dX9_init_13 (by decide) ?_
  refine r_newaI (N := 20) (ty := .int) (co := 14) (t0 := 1) h dX9_init_15 ac_int rfl rfl (fun _ _ => rfl) rfl (by decide) (by decide) rC_85 rN_85 (by decide) (by decide) (nlE_cl (by decide +kernel)) (Nat.le_of_ble_eq_true rfl) (Nat.le_of_ble_eq_true rfl) (fun ad2 hE2 => ?_)
  refine r_lv (lv' := [(0, .ref (ad2 83)), (1, .ref (ad2 2))]) (by rw [hE2 2 (by decide), hE2 83 (by decide)]) ?_
  refine r_st (st0 := [.ref (ad2 85), .ref (ad2 83)]) (by rw [hE2 83 (by decide)]) ?_
  refine r_os hf (fun s2 hf => ?_)
  refine r_rS h (fun hs2 => ?_)
  refine p_X9_15 h dX9_init_17 (by decide) rC_83 ?_
  rw [nlE_nu (e := 93) (by decide +kernel)]
  refine r_aload_n h dX9_init_20 rfl 0 rfl ?_
  refine r_aload_n h dX9_init_21 rfl 1 rfl ?_
  refine p_X9_18 h dX9_init_22 (by decide) rC_83 ?_
  rw [nlE_nu (e := 94) (by decide +kernel)]
  exact hr _ _ _ _ _ 0 _ dX9_init_25 ⟨fun j hj => by rw [hE2 j (by omega), hE1 j (by omega)], rfl, rfl, by cases hf; rfl, by cases hf; rfl⟩ trivial
def rm_Rp_init_79 : Room := { frames := 2, cells := 6, slots := 123, locals := 41 }
noncomputable def f_Rp_init_79 (s0 : SS) : OO :=
  os (zr s0 80) fun s1 =>
  os (zr s1 81) fun s2 =>
  os (zr s2 82) fun s3 =>
  os (zr s3 83) fun s4 =>
  ob (f_Ta_init_83 s4) fun r5 s5 =>
  some (0, s5)
set_option maxRecDepth 20000 in
theorem m_Rp_init_79 {l : Launch} {D : va_G} {cs : Nat → ClassId} {aS aV : Nat} {A : Nat → Prop} {ad : Nat → Nat} {out : Int × SS} {s0 : SS} (hs0 : rS s0) (hf : f_Rp_init_79 s0 = some out) : w_MC l D cs aS aV A yX6_init cX6_init 2 0 rm_Rp_init_79 ad 80 (nlE 88) [.ref (ad 79), .ref (ad 2)] s0 (w_Pi ad 80 86 96 nlE out) := by
  refine w_MC_of (by decide +kernel) (by decide) hs0 (Nat.le_of_ble_eq_true rfl) (fun K h hr => ?_)
  refine r_lv (lv' := [(0, .ref (ad 79)), (1, .ref (ad 2))]) rfl ?_
  unfold f_Rp_init_79 at hf
  refine r_rS h (fun hs0 => ?_)
  refine r_aload_n h dX6_init_0 rfl 0 rfl ?_
  refine r_objInit h dX6_init_1 ml_X6_3 oi_i oi_c (Nat.le_of_ble_eq_true rfl) (Nat.le_of_ble_eq_true rfl) ?_
  refine r_aload_n h dX6_init_4 rfl 0 rfl ?_
  refine r_bipush h dX6_init_5 (by decide) ?_
  refine r_newaI (N := 30) (ty := .int) (co := 14) (t0 := 1) h dX6_init_7 ac_int rfl rfl (fun _ _ => rfl) rfl (by decide) (by decide) rC_80 rN_80 (by decide) (by decide) (nlE_cl (by decide +kernel)) (Nat.le_of_ble_eq_true rfl) (Nat.le_of_ble_eq_true rfl) (fun ad1 hE1 => ?_)
  refine r_lv (lv' := [(0, .ref (ad1 79)), (1, .ref (ad1 2))]) (by rw [hE1 2 (by decide), hE1 79 (by decide)]) ?_
  refine r_st (st0 := [.ref (ad1 80), .ref (ad1 79)]) (by rw [hE1 79 (by decide)]) ?_
  refine r_os hf (fun s1 hf => ?_)
  refine r_rS h (fun hs1 => ?_)
  refine p_X6_9 h dX6_init_9 (by decide) rC_79 ?_
  rw [nlE_nu (e := 88) (by decide +kernel)]
  refine r_aload_n h dX6_init_12 rfl 0 rfl ?_
  refine r_bipush h dX6_init_13 (by decide) ?_
  refine r_newaI (N := 30) (ty := .int) (co := 14) (t0 := 1) h dX6_init_15 ac_int rfl rfl (fun _ _ => rfl) rfl (by decide) (by decide) rC_81 rN_81 (by decide) (by decide) (nlE_cl (by decide +kernel)) (Nat.le_of_ble_eq_true rfl) (Nat.le_of_ble_eq_true rfl) (fun ad2 hE2 => ?_)
  refine r_lv (lv' := [(0, .ref (ad2 79)), (1, .ref (ad2 2))]) (by rw [hE2 2 (by decide), hE2 79 (by decide)]) ?_
  refine r_st (st0 := [.ref (ad2 81), .ref (ad2 79)]) (by rw [hE2 79 (by decide)]) ?_
  refine r_os hf (fun s2 hf => ?_)
  refine r_rS h (fun hs2 => ?_)
  refine p_X6_15 h dX6_init_17 (by decide) rC_79 ?_
  rw [nlE_nu (e := 89) (by decide +kernel)]
  refine r_aload_n h dX6_init_20 rfl 0 rfl ?_
  refine r_bipush h dX6_init_21 (by decide) ?_
  refine r_newaJ (N := 30) h dX6_init_23 ac_long rfl rC_82 rN_82 (by decide) (by decide) (nlE_cl (by decide +kernel)) (Nat.le_of_ble_eq_true rfl) (Nat.le_of_ble_eq_true rfl) (fun ad3 hE3 => ?_)
  refine r_lv (lv' := [(0, .ref (ad3 79)), (1, .ref (ad3 2))]) (by rw [hE3 2 (by decide), hE3 79 (by decide)]) ?_
  refine r_st (st0 := [.ref (ad3 82), .ref (ad3 79)]) (by rw [hE3 79 (by decide)]) ?_
  refine r_os hf (fun s3 hf => ?_)
  refine r_rS h (fun hs3 => ?_)
  refine p_X6_18 h dX6_init_25 (by decide) rC_79 ?_
  rw [nlE_nu (e := 90) (by decide +kernel)]
  refine r_aload_n h dX6_init_28 rfl 0 rfl ?_
  refine r_aload_n h dX6_init_29 rfl 1 rfl ?_
  refine p_X6_22 h dX6_init_30 (by decide) rC_79 ?_
  rw [nlE_nu (e := 91) (by decide +kernel)]
  refine r_aload_n h dX6_init_33 rfl 0 rfl ?_
  refine r_new (T := TX9) (N := 7) (co := 9) (Cn := RX9) h dX6_init_34 nw_X6_26.1 nw_X6_26.2.1 nw_X6_26.2.2 inG9 tyX9 tyX9_ok rfl (by decide) rC_83 rN_83 dv_9 (nlE_no (by decide +kernel)) (nlE_cl (by decide +kernel)) (Nat.le_of_ble_eq_true rfl) (Nat.le_of_ble_eq_true rfl) (fun ad4 hE4 => ?_)
  refine r_lv (lv' := [(0, .ref (ad4 79)), (1, .ref (ad4 2))]) (by rw [hE4 2 (by decide), hE4 79 (by decide)]) ?_
  refine r_st (st0 := [.ref (ad4 83), .ref (ad4 79)]) (by rw [hE4 79 (by decide)]) ?_
  refine r_os hf (fun s4 hf => ?_)
  refine r_rS h (fun hs4 => ?_)
  refine r_dup h dX6_init_37 rfl ?_
  refine r_aload_n h dX6_init_38 rfl 1 rfl ?_
  obtain ⟨r5, s5, hq5, hf⟩ := ob_some hf
  refine r_callI h [.ref (ad4 2)] dX6_init_39 (fun hs => m_Ta_init_83 hs hq5) ml_X6_28 cv_i_Ta rfl ⟨Nat.le_of_ble_eq_true rfl, Nat.le_of_ble_eq_true rfl⟩ ⟨Nat.le_of_ble_eq_true rfl, Nat.le_of_ble_eq_true rfl⟩ (Nat.le_of_ble_eq_true rfl) rfl (fun ad5 n' nl' r' σ' hpo hs5 => ?_)
  obtain ⟨hE5, rfl, rfl, rfl, rfl⟩ := hpo
  refine r_lv (lv' := [(0, .ref (ad5 79)), (1, .ref (ad5 2))]) (by rw [hE5 2 (by decide), hE5 79 (by decide)]) ?_
  refine r_st (st0 := [.ref (ad5 83), .ref (ad5 79)]) (by rw [hE5 79 (by decide), hE5 83 (by decide)]) ?_
  refine p_X6_31 h dX6_init_42 (by decide) rC_79 ?_
  rw [nlE_nu (e := 95) (by decide +kernel)]
  exact hr _ _ _ _ _ 0 _ dX6_init_45 ⟨fun j hj => by rw [hE5 j (by omega), hE4 j (by omega), hE3 j (by omega), hE2 j (by omega), hE1 j (by omega)], rfl, rfl, by cases hf; rfl, by cases hf; rfl⟩ trivial
def rm_Qu_init_0 : Room := { frames := 5, cells := 85, slots := 6120, locals := 108 }
noncomputable def f_Qu_init_0 (s0 : SS) : OO :=
  os (zr s0 1) fun s1 =>
  os (si s1 0 1 0) fun s2 =>
  os (zr s2 2) fun s3 =>
  ob (f_La_init_2 s3) fun r4 s4 =>
  os (zr s4 22) fun s5 =>
  ob (f_La_init_22 s5) fun r6 s6 =>
  os (zr s6 42) fun s7 =>
  os (zr s7 43) fun s8 =>
  ob (f_To_init_43 s8) fun r9 s9 =>
  ob (f_Re_init_42 s9) fun r10 s10 =>
  os (zr s10 46) fun s11 =>
  ob (f_Ea_init_46 s11) fun r12 s12 =>
  os (zr s12 54) fun s13 =>
  ob (f_Ro_init_54 s13) fun r14 s14 =>
  os (zr s14 57) fun s15 =>
  ob (f_St_init_57 s15) fun r16 s16 =>
  os (zr s16 61) fun s17 =>
  ob (f_Fi_init_61 s17) fun r18 s18 =>
  os (zr s18 79) fun s19 =>
  ob (f_Rp_init_79 s19) fun r20 s20 =>
  some (0, s20)
set_option maxRecDepth 20000 in
theorem m_Qu_init_0 {l : Launch} {D : va_G} {cs : Nat → ClassId} {aS aV : Nat} {A : Nat → Prop} {ad : Nat → Nat} {out : Int × SS} {s0 : SS} (hs0 : rS s0) (hf : f_Qu_init_0 s0 = some out) : w_MC l D cs aS aV A yX11_init cX11_init 1 0 rm_Qu_init_0 ad 1 (nlE 0) [.ref (ad 0)] s0 (w_Pi ad 1 86 97 nlE out) := by
  refine w_MC_of (by decide +kernel) (by decide) hs0 (Nat.le_of_ble_eq_true rfl) (fun K h hr => ?_)
  refine r_lv (lv' := [(0, .ref (ad 0))]) rfl ?_
  unfold f_Qu_init_0 at hf
  refine r_rS h (fun hs0 => ?_)
  refine r_aload_n h dX11_init_0 rfl 0 rfl ?_
  refine r_objInit h dX11_init_1 ml_X11_3 oi_i oi_c (Nat.le_of_ble_eq_true rfl) (Nat.le_of_ble_eq_true rfl) ?_
  refine r_aload_n h dX11_init_4 rfl 0 rfl ?_
  refine r_sipush h dX11_init_5 (by decide) ?_
  refine r_newaI (N := 1600) (ty := .byte) (co := 13) (t0 := 0) h dX11_init_8 ac_byte rfl rfl (fun _ _ => rfl) rfl (by decide) (by decide) rC_1 rN_1 (by decide) (by decide) (nlE_cl (by decide +kernel)) (Nat.le_of_ble_eq_true rfl) (Nat.le_of_ble_eq_true rfl) (fun ad1 hE1 => ?_)
  refine r_lv (lv' := [(0, .ref (ad1 0))]) (by rw [hE1 0 (by decide)]) ?_
  refine r_st (st0 := [.ref (ad1 1), .ref (ad1 0)]) (by rw [hE1 0 (by decide)]) ?_
  refine r_os hf (fun s1 hf => ?_)
  refine r_rS h (fun hs1 => ?_)
  refine p_X11_9 h dX11_init_10 (by decide) rC_0 ?_
  rw [nlE_nu (e := 0) (by decide +kernel)]
  refine r_aload_n h dX11_init_13 rfl 0 rfl ?_
  refine r_iconst h dX11_init_14 ?_
  refine p_X11_13 h dX11_init_15 (by decide) rC_0 (rIc rfl) ?_
  refine r_os hf (fun s2 hf => ?_)
  refine r_rS h (fun hs2 => ?_)
  refine r_aload_n h dX11_init_18 rfl 0 rfl ?_
  refine r_new (T := TX4) (N := 20) (co := 4) (Cn := RX4) h dX11_init_19 nw_X11_17.1 nw_X11_17.2.1 nw_X11_17.2.2 inG4 tyX4 tyX4_ok rfl (by decide) rC_2 rN_2 dv_4 (nlE_no (by decide +kernel)) (nlE_cl (by decide +kernel)) (Nat.le_of_ble_eq_true rfl) (Nat.le_of_ble_eq_true rfl) (fun ad2 hE2 => ?_)
  refine r_lv (lv' := [(0, .ref (ad2 0))]) (by rw [hE2 0 (by decide)]) ?_
  refine r_st (st0 := [.ref (ad2 2), .ref (ad2 0)]) (by rw [hE2 0 (by decide)]) ?_
  refine r_os hf (fun s3 hf => ?_)
  refine r_rS h (fun hs3 => ?_)
  refine r_dup h dX11_init_22 rfl ?_
  obtain ⟨r4, s4, hq4, hf⟩ := ob_some hf
  refine r_callIN h [] dX11_init_23 (fun hs => m_La_init_2 hs hq4) (fun _ w => w.1) cv_i_La rfl ⟨Nat.le_of_ble_eq_true rfl, Nat.le_of_ble_eq_true rfl⟩ ⟨Nat.le_of_ble_eq_true rfl, Nat.le_of_ble_eq_true rfl⟩ (Nat.le_of_ble_eq_true rfl) rfl (fun ad3 n' nl' r' σ' hpo hs4 => ?_)
  obtain ⟨hE3, rfl, rfl, rfl, rfl⟩ := hpo
  refine r_lv (lv' := [(0, .ref (ad3 0))]) (by rw [hE3 0 (by decide)]) ?_
  refine r_st (st0 := [.ref (ad3 2), .ref (ad3 0)]) (by rw [hE3 0 (by decide), hE3 2 (by decide)]) ?_
  refine p_X11_20 h dX11_init_26 (by decide) rC_0 ?_
  rw [nlE_nu (e := 20) (by decide +kernel)]
  refine r_aload_n h dX11_init_29 rfl 0 rfl ?_
  refine r_new (T := TX4) (N := 20) (co := 4) (Cn := RX4) h dX11_init_30 nw_X11_17.1 nw_X11_17.2.1 nw_X11_17.2.2 inG4 tyX4 tyX4_ok rfl (by decide) rC_22 rN_22 dv_4 (nlE_no (by decide +kernel)) (nlE_cl (by decide +kernel)) (Nat.le_of_ble_eq_true rfl) (Nat.le_of_ble_eq_true rfl) (fun ad4 hE4 => ?_)
  refine r_lv (lv' := [(0, .ref (ad4 0))]) (by rw [hE4 0 (by decide)]) ?_
  refine r_st (st0 := [.ref (ad4 22), .ref (ad4 0)]) (by rw [hE4 0 (by decide)]) ?_
  refine r_os hf (fun s5 hf => ?_)
  refine r_rS h (fun hs5 => ?_)
  refine r_dup h dX11_init_33 rfl ?_
  obtain ⟨r6, s6, hq6, hf⟩ := ob_some hf
  refine r_callIN h [] dX11_init_34 (fun hs => m_La_init_22 hs hq6) (fun _ w => w.1) cv_i_La rfl ⟨Nat.le_of_ble_eq_true rfl, Nat.le_of_ble_eq_true rfl⟩ ⟨Nat.le_of_ble_eq_true rfl, Nat.le_of_ble_eq_true rfl⟩ (Nat.le_of_ble_eq_true rfl) rfl (fun ad5 n' nl' r' σ' hpo hs6 => ?_)
  obtain ⟨hE5, rfl, rfl, rfl, rfl⟩ := hpo
  refine r_lv (lv' := [(0, .ref (ad5 0))]) (by rw [hE5 0 (by decide)]) ?_
  refine r_st (st0 := [.ref (ad5 22), .ref (ad5 0)]) (by rw [hE5 0 (by decide), hE5 22 (by decide)]) ?_
  refine p_X11_24 h dX11_init_37 (by decide) rC_0 ?_
  rw [nlE_nu (e := 40) (by decide +kernel)]
  refine r_aload_n h dX11_init_40 rfl 0 rfl ?_
  refine r_new (T := TX5) (N := 6) (co := 5) (Cn := RX5) h dX11_init_41 nw_X11_27.1 nw_X11_27.2.1 nw_X11_27.2.2 inG5 tyX5 tyX5_ok rfl (by decide) rC_42 rN_42 dv_5 (nlE_no (by decide +kernel)) (nlE_cl (by decide +kernel)) (Nat.le_of_ble_eq_true rfl) (Nat.le_of_ble_eq_true rfl) (fun ad6 hE6 => ?_)
  refine r_lv (lv' := [(0, .ref (ad6 0))]) (by rw [hE6 0 (by decide)]) ?_
  refine r_st (st0 := [.ref (ad6 42), .ref (ad6 0)]) (by rw [hE6 0 (by decide)]) ?_
  refine r_os hf (fun s7 hf => ?_)
  refine r_rS h (fun hs7 => ?_)
  refine r_dup h dX11_init_44 rfl ?_
  refine r_new (T := TX10) (N := 7) (co := 10) (Cn := RX10) h dX11_init_45 nw_X11_29.1 nw_X11_29.2.1 nw_X11_29.2.2 inG10 tyX10 tyX10_ok rfl (by decide) rC_43 rN_43 dv_10 (nlE_no (by decide +kernel)) (nlE_cl (by decide +kernel)) (Nat.le_of_ble_eq_true rfl) (Nat.le_of_ble_eq_true rfl) (fun ad7 hE7 => ?_)
  refine r_lv (lv' := [(0, .ref (ad7 0))]) (by rw [hE7 0 (by decide)]) ?_
  refine r_st (st0 := [.ref (ad7 43), .ref (ad7 42), .ref (ad7 42), .ref (ad7 0)]) (by rw [hE7 0 (by decide), hE7 42 (by decide)]) ?_
  refine r_os hf (fun s8 hf => ?_)
  refine r_rS h (fun hs8 => ?_)
  refine r_dup h dX11_init_48 rfl ?_
  refine r_aload_n h dX11_init_49 rfl 0 rfl ?_
  refine g_X11_9 h dX11_init_50 (by decide) rC_0 (by decide +kernel) ?_
  obtain ⟨r9, s9, hq9, hf⟩ := ob_some hf
  refine r_callI h [.ref (ad7 1)] dX11_init_53 (fun hs => m_To_init_43 hs hq9) ml_X11_31 cv_i_To rfl ⟨Nat.le_of_ble_eq_true rfl, Nat.le_of_ble_eq_true rfl⟩ ⟨Nat.le_of_ble_eq_true rfl, Nat.le_of_ble_eq_true rfl⟩ (Nat.le_of_ble_eq_true rfl) rfl (fun ad8 n' nl' r' σ' hpo hs9 => ?_)
  obtain ⟨hE8, rfl, rfl, rfl, rfl⟩ := hpo
  refine r_lv (lv' := [(0, .ref (ad8 0))]) (by rw [hE8 0 (by decide)]) ?_
  refine r_st (st0 := [.ref (ad8 43), .ref (ad8 42), .ref (ad8 42), .ref (ad8 0)]) (by rw [hE8 0 (by decide), hE8 42 (by decide), hE8 43 (by decide)]) ?_
  obtain ⟨r10, s10, hq10, hf⟩ := ob_some hf
  refine r_callI h [.ref (ad8 43)] dX11_init_56 (fun hs => m_Re_init_42 hs hq10) ml_X11_34 cv_i_Re rfl ⟨Nat.le_of_ble_eq_true rfl, Nat.le_of_ble_eq_true rfl⟩ ⟨Nat.le_of_ble_eq_true rfl, Nat.le_of_ble_eq_true rfl⟩ (Nat.le_of_ble_eq_true rfl) rfl (fun ad9 n' nl' r' σ' hpo hs10 => ?_)
  obtain ⟨hE9, rfl, rfl, rfl, rfl⟩ := hpo
  refine r_lv (lv' := [(0, .ref (ad9 0))]) (by rw [hE9 0 (by decide)]) ?_
  refine r_st (st0 := [.ref (ad9 42), .ref (ad9 0)]) (by rw [hE9 0 (by decide), hE9 42 (by decide)]) ?_
  refine p_X11_37 h dX11_init_59 (by decide) rC_0 ?_
  rw [nlE_nu (e := 46) (by decide +kernel)]
  refine r_aload_n h dX11_init_62 rfl 0 rfl ?_
  refine r_new (T := TX0) (N := 14) (co := 0) (Cn := RX0) h dX11_init_63 nw_X11_41.1 nw_X11_41.2.1 nw_X11_41.2.2 inG0 tyX0 tyX0_ok rfl (by decide) rC_46 rN_46 dv_0 (nlE_no (by decide +kernel)) (nlE_cl (by decide +kernel)) (Nat.le_of_ble_eq_true rfl) (Nat.le_of_ble_eq_true rfl) (fun ad10 hE10 => ?_)
  refine r_lv (lv' := [(0, .ref (ad10 0))]) (by rw [hE10 0 (by decide)]) ?_
  refine r_st (st0 := [.ref (ad10 46), .ref (ad10 0)]) (by rw [hE10 0 (by decide)]) ?_
  refine r_os hf (fun s11 hf => ?_)
  refine r_rS h (fun hs11 => ?_)
  refine r_dup h dX11_init_66 rfl ?_
  refine r_aload_n h dX11_init_67 rfl 0 rfl ?_
  refine g_X11_20 h dX11_init_68 (by decide) rC_0 (by decide +kernel) ?_
  obtain ⟨r12, s12, hq12, hf⟩ := ob_some hf
  refine r_callI h [.ref (ad10 2)] dX11_init_71 (fun hs => m_Ea_init_46 hs hq12) ml_X11_43 cv_i_Ea rfl ⟨Nat.le_of_ble_eq_true rfl, Nat.le_of_ble_eq_true rfl⟩ ⟨Nat.le_of_ble_eq_true rfl, Nat.le_of_ble_eq_true rfl⟩ (Nat.le_of_ble_eq_true rfl) rfl (fun ad11 n' nl' r' σ' hpo hs12 => ?_)
  obtain ⟨hE11, rfl, rfl, rfl, rfl⟩ := hpo
  refine r_lv (lv' := [(0, .ref (ad11 0))]) (by rw [hE11 0 (by decide)]) ?_
  refine r_st (st0 := [.ref (ad11 46), .ref (ad11 0)]) (by rw [hE11 0 (by decide), hE11 46 (by decide)]) ?_
  refine p_X11_46 h dX11_init_74 (by decide) rC_0 ?_
  rw [nlE_nu (e := 56) (by decide +kernel)]
  refine r_aload_n h dX11_init_77 rfl 0 rfl ?_
  refine r_new (T := TX7) (N := 4) (co := 7) (Cn := RX7) h dX11_init_78 nw_X11_50.1 nw_X11_50.2.1 nw_X11_50.2.2 inG7 tyX7 tyX7_ok rfl (by decide) rC_54 rN_54 dv_7 (nlE_no (by decide +kernel)) (nlE_cl (by decide +kernel)) (Nat.le_of_ble_eq_true rfl) (Nat.le_of_ble_eq_true rfl) (fun ad12 hE12 => ?_)
  refine r_lv (lv' := [(0, .ref (ad12 0))]) (by rw [hE12 0 (by decide)]) ?_
  refine r_st (st0 := [.ref (ad12 54), .ref (ad12 0)]) (by rw [hE12 0 (by decide)]) ?_
  refine r_os hf (fun s13 hf => ?_)
  refine r_rS h (fun hs13 => ?_)
  refine r_dup h dX11_init_81 rfl ?_
  obtain ⟨r14, s14, hq14, hf⟩ := ob_some hf
  refine r_callI h [] dX11_init_82 (fun hs => m_Ro_init_54 hs hq14) ml_X11_52 cv_i_Ro rfl ⟨Nat.le_of_ble_eq_true rfl, Nat.le_of_ble_eq_true rfl⟩ ⟨Nat.le_of_ble_eq_true rfl, Nat.le_of_ble_eq_true rfl⟩ (Nat.le_of_ble_eq_true rfl) rfl (fun ad13 n' nl' r' σ' hpo hs14 => ?_)
  obtain ⟨hE13, rfl, rfl, rfl, rfl⟩ := hpo
  refine r_lv (lv' := [(0, .ref (ad13 0))]) (by rw [hE13 0 (by decide)]) ?_
  refine r_st (st0 := [.ref (ad13 54), .ref (ad13 0)]) (by rw [hE13 0 (by decide), hE13 54 (by decide)]) ?_
  refine p_X11_53 h dX11_init_85 (by decide) rC_0 ?_
  rw [nlE_nu (e := 59) (by decide +kernel)]
  refine r_aload_n h dX11_init_88 rfl 0 rfl ?_
  refine r_new (T := TX8) (N := 4) (co := 8) (Cn := RX8) h dX11_init_89 nw_X11_57.1 nw_X11_57.2.1 nw_X11_57.2.2 inG8 tyX8 tyX8_ok rfl (by decide) rC_57 rN_57 dv_8 (nlE_no (by decide +kernel)) (nlE_cl (by decide +kernel)) (Nat.le_of_ble_eq_true rfl) (Nat.le_of_ble_eq_true rfl) (fun ad14 hE14 => ?_)
  refine r_lv (lv' := [(0, .ref (ad14 0))]) (by rw [hE14 0 (by decide)]) ?_
  refine r_st (st0 := [.ref (ad14 57), .ref (ad14 0)]) (by rw [hE14 0 (by decide)]) ?_
  refine r_os hf (fun s15 hf => ?_)
  refine r_rS h (fun hs15 => ?_)
  refine r_dup h dX11_init_92 rfl ?_
  refine r_aload_n h dX11_init_93 rfl 0 rfl ?_
  refine g_X11_20 h dX11_init_94 (by decide) rC_0 (by decide +kernel) ?_
  obtain ⟨r16, s16, hq16, hf⟩ := ob_some hf
  refine r_callI h [.ref (ad14 2)] dX11_init_97 (fun hs => m_St_init_57 hs hq16) ml_X11_59 cv_i_St rfl ⟨Nat.le_of_ble_eq_true rfl, Nat.le_of_ble_eq_true rfl⟩ ⟨Nat.le_of_ble_eq_true rfl, Nat.le_of_ble_eq_true rfl⟩ (Nat.le_of_ble_eq_true rfl) rfl (fun ad15 n' nl' r' σ' hpo hs16 => ?_)
  obtain ⟨hE15, rfl, rfl, rfl, rfl⟩ := hpo
  refine r_lv (lv' := [(0, .ref (ad15 0))]) (by rw [hE15 0 (by decide)]) ?_
  refine r_st (st0 := [.ref (ad15 57), .ref (ad15 0)]) (by rw [hE15 0 (by decide), hE15 57 (by decide)]) ?_
  refine p_X11_60 h dX11_init_100 (by decide) rC_0 ?_
  rw [nlE_nu (e := 65) (by decide +kernel)]
  refine r_aload_n h dX11_init_103 rfl 0 rfl ?_
  refine r_new (T := TX1) (N := 20) (co := 1) (Cn := RX1) h dX11_init_104 nw_X11_64.1 nw_X11_64.2.1 nw_X11_64.2.2 inG1 tyX1 tyX1_ok rfl (by decide) rC_61 rN_61 dv_1 (nlE_no (by decide +kernel)) (nlE_cl (by decide +kernel)) (Nat.le_of_ble_eq_true rfl) (Nat.le_of_ble_eq_true rfl) (fun ad16 hE16 => ?_)
  refine r_lv (lv' := [(0, .ref (ad16 0))]) (by rw [hE16 0 (by decide)]) ?_
  refine r_st (st0 := [.ref (ad16 61), .ref (ad16 0)]) (by rw [hE16 0 (by decide)]) ?_
  refine r_os hf (fun s17 hf => ?_)
  refine r_rS h (fun hs17 => ?_)
  refine r_dup h dX11_init_107 rfl ?_
  refine r_aload_n h dX11_init_108 rfl 0 rfl ?_
  refine g_X11_20 h dX11_init_109 (by decide) rC_0 (by decide +kernel) ?_
  refine r_aload_n h dX11_init_112 rfl 0 rfl ?_
  refine g_X11_46 h dX11_init_113 (by decide) rC_0 (by decide +kernel) ?_
  refine g_X11_66 h dX11_init_116 (by decide) rC_46 (by decide +kernel) ?_
  obtain ⟨r18, s18, hq18, hf⟩ := ob_some hf
  refine r_callI h [.ref (ad16 2), .ref (ad16 47)] dX11_init_119 (fun hs => m_Fi_init_61 hs hq18) ml_X11_70 cv_i_Fi rfl ⟨Nat.le_of_ble_eq_true rfl, Nat.le_of_ble_eq_true rfl⟩ ⟨Nat.le_of_ble_eq_true rfl, Nat.le_of_ble_eq_true rfl⟩ (Nat.le_of_ble_eq_true rfl) rfl (fun ad17 n' nl' r' σ' hpo hs18 => ?_)
  obtain ⟨hE17, rfl, rfl, rfl, rfl⟩ := hpo
  refine r_lv (lv' := [(0, .ref (ad17 0))]) (by rw [hE17 0 (by decide)]) ?_
  refine r_st (st0 := [.ref (ad17 61), .ref (ad17 0)]) (by rw [hE17 0 (by decide), hE17 61 (by decide)]) ?_
  refine p_X11_73 h dX11_init_122 (by decide) rC_0 ?_
  rw [nlE_nu (e := 87) (by decide +kernel)]
  refine r_aload_n h dX11_init_125 rfl 0 rfl ?_
  refine r_new (T := TX6) (N := 7) (co := 6) (Cn := RX6) h dX11_init_126 nw_X11_77.1 nw_X11_77.2.1 nw_X11_77.2.2 inG6 tyX6 tyX6_ok rfl (by decide) rC_79 rN_79 dv_6 (nlE_no (by decide +kernel)) (nlE_cl (by decide +kernel)) (Nat.le_of_ble_eq_true rfl) (Nat.le_of_ble_eq_true rfl) (fun ad18 hE18 => ?_)
  refine r_lv (lv' := [(0, .ref (ad18 0))]) (by rw [hE18 0 (by decide)]) ?_
  refine r_st (st0 := [.ref (ad18 79), .ref (ad18 0)]) (by rw [hE18 0 (by decide)]) ?_
  refine r_os hf (fun s19 hf => ?_)
  refine r_rS h (fun hs19 => ?_)
  refine r_dup h dX11_init_129 rfl ?_
  refine r_aload_n h dX11_init_130 rfl 0 rfl ?_
  refine g_X11_20 h dX11_init_131 (by decide) rC_0 (by decide +kernel) ?_
  obtain ⟨r20, s20, hq20, hf⟩ := ob_some hf
  refine r_callI h [.ref (ad18 2)] dX11_init_134 (fun hs => m_Rp_init_79 hs hq20) ml_X11_79 cv_i_Rp rfl ⟨Nat.le_of_ble_eq_true rfl, Nat.le_of_ble_eq_true rfl⟩ ⟨Nat.le_of_ble_eq_true rfl, Nat.le_of_ble_eq_true rfl⟩ (Nat.le_of_ble_eq_true rfl) rfl (fun ad19 n' nl' r' σ' hpo hs20 => ?_)
  obtain ⟨hE19, rfl, rfl, rfl, rfl⟩ := hpo
  refine r_lv (lv' := [(0, .ref (ad19 0))]) (by rw [hE19 0 (by decide)]) ?_
  refine r_st (st0 := [.ref (ad19 79), .ref (ad19 0)]) (by rw [hE19 0 (by decide), hE19 79 (by decide)]) ?_
  refine p_X11_80 h dX11_init_137 (by decide) rC_0 ?_
  rw [nlE_nu (e := 96) (by decide +kernel)]
  exact hr _ _ _ _ _ 0 _ dX11_init_140 ⟨fun j hj => by rw [hE19 j (by omega), hE18 j (by omega), hE17 j (by omega), hE16 j (by omega), hE15 j (by omega), hE14 j (by omega), hE13 j (by omega), hE12 j (by omega), hE11 j (by omega), hE10 j (by omega), hE9 j (by omega), hE8 j (by omega), hE7 j (by omega), hE6 j (by omega), hE5 j (by omega), hE4 j (by omega), hE3 j (by omega), hE2 j (by omega), hE1 j (by omega)], rfl, rfl, by cases hf; rfl, by cases hf; rfl⟩ trivial
theorem wh_138_148 : w_WH 138 (nlE 148) := nlE_WH (by decide +kernel) (by decide +kernel)
def rm_Mo_init_86 : Room := { frames := 2, cells := 51, slots := 8477, locals := 41 }
noncomputable def f_Mo_init_86 (s0 : SS) : OO :=
  os (zr s0 87) fun s1 =>
  os (zr s1 88) fun s2 =>
  os (si s2 86 5 (-1)) fun s3 =>
  os (zr s3 89) fun s4 =>
  os (zr s4 90) fun s5 =>
  os (zr s5 91) fun s6 =>
  os (zr s6 92) fun s7 =>
  os (zr s7 93) fun s8 =>
  os (zr s8 94) fun s9 =>
  os (zr s9 95) fun s10 =>
  os (zr s10 96) fun s11 =>
  os (zr s11 97) fun s12 =>
  os (zr s12 98) fun s13 =>
  os (zr s13 99) fun s14 =>
  os (zr s14 100) fun s15 =>
  os (zr s15 101) fun s16 =>
  os (zr s16 102) fun s17 =>
  os (zr s17 103) fun s18 =>
  os (zr s18 104) fun s19 =>
  os (zr s19 105) fun s20 =>
  os (zr s20 106) fun s21 =>
  os (zr s21 107) fun s22 =>
  os (zr s22 108) fun s23 =>
  os (zr s23 109) fun s24 =>
  os (zr s24 110) fun s25 =>
  os (zr s25 111) fun s26 =>
  os (zr s26 112) fun s27 =>
  os (zr s27 113) fun s28 =>
  os (zr s28 114) fun s29 =>
  os (zr s29 115) fun s30 =>
  os (zr s30 116) fun s31 =>
  os (zr s31 117) fun s32 =>
  os (zr s32 118) fun s33 =>
  os (zr s33 119) fun s34 =>
  os (zr s34 120) fun s35 =>
  os (zr s35 121) fun s36 =>
  os (zr s36 122) fun s37 =>
  os (si s37 86 60 (-1)) fun s38 =>
  os (zr s38 123) fun s39 =>
  os (zr s39 124) fun s40 =>
  os (zr s40 125) fun s41 =>
  os (zr s41 126) fun s42 =>
  os (zr s42 127) fun s43 =>
  os (zr s43 128) fun s44 =>
  os (zr s44 129) fun s45 =>
  os (zr s45 130) fun s46 =>
  os (zr s46 131) fun s47 =>
  os (zr s47 132) fun s48 =>
  os (zr s48 133) fun s49 =>
  os (zr s49 134) fun s50 =>
  os (zr s50 135) fun s51 =>
  os (zr s51 136) fun s52 =>
  os (zr s52 137) fun s53 =>
  ob (f_Mo_clearBank s53) fun r54 s54 =>
  ob (f_Mo_startAnew s54) fun r55 s55 =>
  some (0, s55)
set_option maxRecDepth 20000 in
theorem m_Mo_init_86 {l : Launch} {D : va_G} {cs : Nat → ClassId} {aS aV : Nat} {A : Nat → Prop} {ad : Nat → Nat} {out : Int × SS} {s0 : SS} (hs0 : rS s0) (hf : f_Mo_init_86 s0 = some out) : w_MC l D cs aS aV A yX12_init cX12_init 1 0 rm_Mo_init_86 ad 87 (nlE 97) [.ref (ad 86)] s0 (w_Pi ad 87 138 148 nlE out) := by
  refine w_MC_of (by decide +kernel) (by decide) hs0 (Nat.le_of_ble_eq_true rfl) (fun K h hr => ?_)
  refine r_lv (lv' := [(0, .ref (ad 86))]) rfl ?_
  unfold f_Mo_init_86 at hf
  refine r_rS h (fun hs0 => ?_)
  refine r_aload_n h dX12_init_0 rfl 0 rfl ?_
  refine r_objInit h dX12_init_1 ml_X12_1 oi_i oi_c (Nat.le_of_ble_eq_true rfl) (Nat.le_of_ble_eq_true rfl) ?_
  refine r_aload_n h dX12_init_4 rfl 0 rfl ?_
  refine r_sipush h dX12_init_5 (by decide) ?_
  refine r_newaI (N := 1620) (ty := .byte) (co := 13) (t0 := 0) h dX12_init_8 ac_byte rfl rfl (fun _ _ => rfl) rfl (by decide) (by decide) rC_87 rN_87 (by decide) (by decide) (nlE_cl (by decide +kernel)) (Nat.le_of_ble_eq_true rfl) (Nat.le_of_ble_eq_true rfl) (fun ad1 hE1 => ?_)
  refine r_lv (lv' := [(0, .ref (ad1 86))]) (by rw [hE1 86 (by decide)]) ?_
  refine r_st (st0 := [.ref (ad1 87), .ref (ad1 86)]) (by rw [hE1 86 (by decide)]) ?_
  refine r_os hf (fun s1 hf => ?_)
  refine r_rS h (fun hs1 => ?_)
  refine p_X12_7 h dX12_init_10 (by decide) rC_86 ?_
  rw [nlE_nu (e := 97) (by decide +kernel)]
  refine r_aload_n h dX12_init_13 rfl 0 rfl ?_
  refine r_sipush h dX12_init_14 (by decide) ?_
  refine r_newaI (N := 1600) (ty := .byte) (co := 13) (t0 := 0) h dX12_init_17 ac_byte rfl rfl (fun _ _ => rfl) rfl (by decide) (by decide) rC_88 rN_88 (by decide) (by decide) (nlE_cl (by decide +kernel)) (Nat.le_of_ble_eq_true rfl) (Nat.le_of_ble_eq_true rfl) (fun ad2 hE2 => ?_)
  refine r_lv (lv' := [(0, .ref (ad2 86))]) (by rw [hE2 86 (by decide)]) ?_
  refine r_st (st0 := [.ref (ad2 88), .ref (ad2 86)]) (by rw [hE2 86 (by decide)]) ?_
  refine r_os hf (fun s2 hf => ?_)
  refine r_rS h (fun hs2 => ?_)
  refine p_X12_13 h dX12_init_19 (by decide) rC_86 ?_
  rw [nlE_nu (e := 98) (by decide +kernel)]
  refine r_aload_n h dX12_init_22 rfl 0 rfl ?_
  refine r_iconst h dX12_init_23 ?_
  refine p_X12_16 h dX12_init_24 (by decide) rC_86 (rIc rfl) ?_
  refine r_os hf (fun s3 hf => ?_)
  refine r_rS h (fun hs3 => ?_)
  refine r_aload_n h dX12_init_27 rfl 0 rfl ?_
  refine r_iconst h dX12_init_28 ?_
  refine r_newaI (N := 2) (ty := .int) (co := 14) (t0 := 1) h dX12_init_29 ac_int rfl rfl (fun _ _ => rfl) rfl (by decide) (by decide) rC_89 rN_89 (by decide) (by decide) (nlE_cl (by decide +kernel)) (Nat.le_of_ble_eq_true rfl) (Nat.le_of_ble_eq_true rfl) (fun ad3 hE3 => ?_)
  refine r_lv (lv' := [(0, .ref (ad3 86))]) (by rw [hE3 86 (by decide)]) ?_
  refine r_st (st0 := [.ref (ad3 89), .ref (ad3 86)]) (by rw [hE3 86 (by decide)]) ?_
  refine r_os hf (fun s4 hf => ?_)
  refine r_rS h (fun hs4 => ?_)
  refine p_X12_20 h dX12_init_31 (by decide) rC_86 ?_
  rw [nlE_nu (e := 99) (by decide +kernel)]
  refine r_aload_n h dX12_init_34 rfl 0 rfl ?_
  refine r_iconst h dX12_init_35 ?_
  refine r_newaI (N := 2) (ty := .int) (co := 14) (t0 := 1) h dX12_init_36 ac_int rfl rfl (fun _ _ => rfl) rfl (by decide) (by decide) rC_90 rN_90 (by decide) (by decide) (nlE_cl (by decide +kernel)) (Nat.le_of_ble_eq_true rfl) (Nat.le_of_ble_eq_true rfl) (fun ad4 hE4 => ?_)
  refine r_lv (lv' := [(0, .ref (ad4 86))]) (by rw [hE4 86 (by decide)]) ?_
  refine r_st (st0 := [.ref (ad4 90), .ref (ad4 86)]) (by rw [hE4 86 (by decide)]) ?_
  refine r_os hf (fun s5 hf => ?_)
  refine r_rS h (fun hs5 => ?_)
  refine p_X12_24 h dX12_init_38 (by decide) rC_86 ?_
  rw [nlE_nu (e := 100) (by decide +kernel)]
  refine r_aload_n h dX12_init_41 rfl 0 rfl ?_
  refine r_iconst h dX12_init_42 ?_
  refine r_newaI (N := 2) (ty := .int) (co := 14) (t0 := 1) h dX12_init_43 ac_int rfl rfl (fun _ _ => rfl) rfl (by decide) (by decide) rC_91 rN_91 (by decide) (by decide) (nlE_cl (by decide +kernel)) (Nat.le_of_ble_eq_true rfl) (Nat.le_of_ble_eq_true rfl) (fun ad5 hE5 => ?_)
  refine r_lv (lv' := [(0, .ref (ad5 86))]) (by rw [hE5 86 (by decide)]) ?_
  refine r_st (st0 := [.ref (ad5 91), .ref (ad5 86)]) (by rw [hE5 86 (by decide)]) ?_
  refine r_os hf (fun s6 hf => ?_)
  refine r_rS h (fun hs6 => ?_)
  refine p_X12_27 h dX12_init_45 (by decide) rC_86 ?_
  rw [nlE_nu (e := 101) (by decide +kernel)]
  refine r_aload_n h dX12_init_48 rfl 0 rfl ?_
  refine r_iconst h dX12_init_49 ?_
  refine r_newaI (N := 2) (ty := .int) (co := 14) (t0 := 1) h dX12_init_50 ac_int rfl rfl (fun _ _ => rfl) rfl (by decide) (by decide) rC_92 rN_92 (by decide) (by decide) (nlE_cl (by decide +kernel)) (Nat.le_of_ble_eq_true rfl) (Nat.le_of_ble_eq_true rfl) (fun ad6 hE6 => ?_)
  refine r_lv (lv' := [(0, .ref (ad6 86))]) (by rw [hE6 86 (by decide)]) ?_
  refine r_st (st0 := [.ref (ad6 92), .ref (ad6 86)]) (by rw [hE6 86 (by decide)]) ?_
  refine r_os hf (fun s7 hf => ?_)
  refine r_rS h (fun hs7 => ?_)
  refine p_X12_30 h dX12_init_52 (by decide) rC_86 ?_
  rw [nlE_nu (e := 102) (by decide +kernel)]
  refine r_aload_n h dX12_init_55 rfl 0 rfl ?_
  refine r_iconst h dX12_init_56 ?_
  refine r_newaI (N := 2) (ty := .int) (co := 14) (t0 := 1) h dX12_init_57 ac_int rfl rfl (fun _ _ => rfl) rfl (by decide) (by decide) rC_93 rN_93 (by decide) (by decide) (nlE_cl (by decide +kernel)) (Nat.le_of_ble_eq_true rfl) (Nat.le_of_ble_eq_true rfl) (fun ad7 hE7 => ?_)
  refine r_lv (lv' := [(0, .ref (ad7 86))]) (by rw [hE7 86 (by decide)]) ?_
  refine r_st (st0 := [.ref (ad7 93), .ref (ad7 86)]) (by rw [hE7 86 (by decide)]) ?_
  refine r_os hf (fun s8 hf => ?_)
  refine r_rS h (fun hs8 => ?_)
  refine p_X12_33 h dX12_init_59 (by decide) rC_86 ?_
  rw [nlE_nu (e := 103) (by decide +kernel)]
  refine r_aload_n h dX12_init_62 rfl 0 rfl ?_
  refine r_iconst h dX12_init_63 ?_
  refine r_newaI (N := 2) (ty := .int) (co := 14) (t0 := 1) h dX12_init_64 ac_int rfl rfl (fun _ _ => rfl) rfl (by decide) (by decide) rC_94 rN_94 (by decide) (by decide) (nlE_cl (by decide +kernel)) (Nat.le_of_ble_eq_true rfl) (Nat.le_of_ble_eq_true rfl) (fun ad8 hE8 => ?_)
  refine r_lv (lv' := [(0, .ref (ad8 86))]) (by rw [hE8 86 (by decide)]) ?_
  refine r_st (st0 := [.ref (ad8 94), .ref (ad8 86)]) (by rw [hE8 86 (by decide)]) ?_
  refine r_os hf (fun s9 hf => ?_)
  refine r_rS h (fun hs9 => ?_)
  refine p_X12_36 h dX12_init_66 (by decide) rC_86 ?_
  rw [nlE_nu (e := 104) (by decide +kernel)]
  refine r_aload_n h dX12_init_69 rfl 0 rfl ?_
  refine r_bipush h dX12_init_70 (by decide) ?_
  refine r_newaI (N := 16) (ty := .int) (co := 14) (t0 := 1) h dX12_init_72 ac_int rfl rfl (fun _ _ => rfl) rfl (by decide) (by decide) rC_95 rN_95 (by decide) (by decide) (nlE_cl (by decide +kernel)) (Nat.le_of_ble_eq_true rfl) (Nat.le_of_ble_eq_true rfl) (fun ad9 hE9 => ?_)
  refine r_lv (lv' := [(0, .ref (ad9 86))]) (by rw [hE9 86 (by decide)]) ?_
  refine r_st (st0 := [.ref (ad9 95), .ref (ad9 86)]) (by rw [hE9 86 (by decide)]) ?_
  refine r_os hf (fun s10 hf => ?_)
  refine r_rS h (fun hs10 => ?_)
  refine p_X12_39 h dX12_init_74 (by decide) rC_86 ?_
  rw [nlE_nu (e := 105) (by decide +kernel)]
  refine r_aload_n h dX12_init_77 rfl 0 rfl ?_
  refine r_bipush h dX12_init_78 (by decide) ?_
  refine r_newaI (N := 16) (ty := .int) (co := 14) (t0 := 1) h dX12_init_80 ac_int rfl rfl (fun _ _ => rfl) rfl (by decide) (by decide) rC_96 rN_96 (by decide) (by decide) (nlE_cl (by decide +kernel)) (Nat.le_of_ble_eq_true rfl) (Nat.le_of_ble_eq_true rfl) (fun ad10 hE10 => ?_)
  refine r_lv (lv' := [(0, .ref (ad10 86))]) (by rw [hE10 86 (by decide)]) ?_
  refine r_st (st0 := [.ref (ad10 96), .ref (ad10 86)]) (by rw [hE10 86 (by decide)]) ?_
  refine r_os hf (fun s11 hf => ?_)
  refine r_rS h (fun hs11 => ?_)
  refine p_X12_42 h dX12_init_82 (by decide) rC_86 ?_
  rw [nlE_nu (e := 106) (by decide +kernel)]
  refine r_aload_n h dX12_init_85 rfl 0 rfl ?_
  refine r_bipush h dX12_init_86 (by decide) ?_
  refine r_newaI (N := 28) (ty := .int) (co := 14) (t0 := 1) h dX12_init_88 ac_int rfl rfl (fun _ _ => rfl) rfl (by decide) (by decide) rC_97 rN_97 (by decide) (by decide) (nlE_cl (by decide +kernel)) (Nat.le_of_ble_eq_true rfl) (Nat.le_of_ble_eq_true rfl) (fun ad11 hE11 => ?_)
  refine r_lv (lv' := [(0, .ref (ad11 86))]) (by rw [hE11 86 (by decide)]) ?_
  refine r_st (st0 := [.ref (ad11 97), .ref (ad11 86)]) (by rw [hE11 86 (by decide)]) ?_
  refine r_os hf (fun s12 hf => ?_)
  refine r_rS h (fun hs12 => ?_)
  refine p_X12_45 h dX12_init_90 (by decide) rC_86 ?_
  rw [nlE_nu (e := 107) (by decide +kernel)]
  refine r_aload_n h dX12_init_93 rfl 0 rfl ?_
  refine r_bipush h dX12_init_94 (by decide) ?_
  refine r_newaI (N := 28) (ty := .int) (co := 14) (t0 := 1) h dX12_init_96 ac_int rfl rfl (fun _ _ => rfl) rfl (by decide) (by decide) rC_98 rN_98 (by decide) (by decide) (nlE_cl (by decide +kernel)) (Nat.le_of_ble_eq_true rfl) (Nat.le_of_ble_eq_true rfl) (fun ad12 hE12 => ?_)
  refine r_lv (lv' := [(0, .ref (ad12 86))]) (by rw [hE12 86 (by decide)]) ?_
  refine r_st (st0 := [.ref (ad12 98), .ref (ad12 86)]) (by rw [hE12 86 (by decide)]) ?_
  refine r_os hf (fun s13 hf => ?_)
  refine r_rS h (fun hs13 => ?_)
  refine p_X12_48 h dX12_init_98 (by decide) rC_86 ?_
  rw [nlE_nu (e := 108) (by decide +kernel)]
  refine r_aload_n h dX12_init_101 rfl 0 rfl ?_
  refine r_bipush h dX12_init_102 (by decide) ?_
  refine r_newaI (N := 28) (ty := .int) (co := 14) (t0 := 1) h dX12_init_104 ac_int rfl rfl (fun _ _ => rfl) rfl (by decide) (by decide) rC_99 rN_99 (by decide) (by decide) (nlE_cl (by decide +kernel)) (Nat.le_of_ble_eq_true rfl) (Nat.le_of_ble_eq_true rfl) (fun ad13 hE13 => ?_)
  refine r_lv (lv' := [(0, .ref (ad13 86))]) (by rw [hE13 86 (by decide)]) ?_
  refine r_st (st0 := [.ref (ad13 99), .ref (ad13 86)]) (by rw [hE13 86 (by decide)]) ?_
  refine r_os hf (fun s14 hf => ?_)
  refine r_rS h (fun hs14 => ?_)
  refine p_X12_51 h dX12_init_106 (by decide) rC_86 ?_
  rw [nlE_nu (e := 109) (by decide +kernel)]
  refine r_aload_n h dX12_init_109 rfl 0 rfl ?_
  refine r_bipush h dX12_init_110 (by decide) ?_
  refine r_newaI (N := 28) (ty := .int) (co := 14) (t0 := 1) h dX12_init_112 ac_int rfl rfl (fun _ _ => rfl) rfl (by decide) (by decide) rC_100 rN_100 (by decide) (by decide) (nlE_cl (by decide +kernel)) (Nat.le_of_ble_eq_true rfl) (Nat.le_of_ble_eq_true rfl) (fun ad14 hE14 => ?_)
  refine r_lv (lv' := [(0, .ref (ad14 86))]) (by rw [hE14 86 (by decide)]) ?_
  refine r_st (st0 := [.ref (ad14 100), .ref (ad14 86)]) (by rw [hE14 86 (by decide)]) ?_
  refine r_os hf (fun s15 hf => ?_)
  refine r_rS h (fun hs15 => ?_)
  refine p_X12_54 h dX12_init_114 (by decide) rC_86 ?_
  rw [nlE_nu (e := 110) (by decide +kernel)]
  refine r_aload_n h dX12_init_117 rfl 0 rfl ?_
  refine r_bipush h dX12_init_118 (by decide) ?_
  refine r_newaI (N := 12) (ty := .int) (co := 14) (t0 := 1) h dX12_init_120 ac_int rfl rfl (fun _ _ => rfl) rfl (by decide) (by decide) rC_101 rN_101 (by decide) (by decide) (nlE_cl (by decide +kernel)) (Nat.le_of_ble_eq_true rfl) (Nat.le_of_ble_eq_true rfl) (fun ad15 hE15 => ?_)
  refine r_lv (lv' := [(0, .ref (ad15 86))]) (by rw [hE15 86 (by decide)]) ?_
  refine r_st (st0 := [.ref (ad15 101), .ref (ad15 86)]) (by rw [hE15 86 (by decide)]) ?_
  refine r_os hf (fun s16 hf => ?_)
  refine r_rS h (fun hs16 => ?_)
  refine p_X12_57 h dX12_init_122 (by decide) rC_86 ?_
  rw [nlE_nu (e := 111) (by decide +kernel)]
  refine r_aload_n h dX12_init_125 rfl 0 rfl ?_
  refine r_bipush h dX12_init_126 (by decide) ?_
  refine r_newaI (N := 12) (ty := .int) (co := 14) (t0 := 1) h dX12_init_128 ac_int rfl rfl (fun _ _ => rfl) rfl (by decide) (by decide) rC_102 rN_102 (by decide) (by decide) (nlE_cl (by decide +kernel)) (Nat.le_of_ble_eq_true rfl) (Nat.le_of_ble_eq_true rfl) (fun ad16 hE16 => ?_)
  refine r_lv (lv' := [(0, .ref (ad16 86))]) (by rw [hE16 86 (by decide)]) ?_
  refine r_st (st0 := [.ref (ad16 102), .ref (ad16 86)]) (by rw [hE16 86 (by decide)]) ?_
  refine r_os hf (fun s17 hf => ?_)
  refine r_rS h (fun hs17 => ?_)
  refine p_X12_60 h dX12_init_130 (by decide) rC_86 ?_
  rw [nlE_nu (e := 112) (by decide +kernel)]
  refine r_aload_n h dX12_init_133 rfl 0 rfl ?_
  refine r_bipush h dX12_init_134 (by decide) ?_
  refine r_newaI (N := 12) (ty := .int) (co := 14) (t0 := 1) h dX12_init_136 ac_int rfl rfl (fun _ _ => rfl) rfl (by decide) (by decide) rC_103 rN_103 (by decide) (by decide) (nlE_cl (by decide +kernel)) (Nat.le_of_ble_eq_true rfl) (Nat.le_of_ble_eq_true rfl) (fun ad17 hE17 => ?_)
  refine r_lv (lv' := [(0, .ref (ad17 86))]) (by rw [hE17 86 (by decide)]) ?_
  refine r_st (st0 := [.ref (ad17 103), .ref (ad17 86)]) (by rw [hE17 86 (by decide)]) ?_
  refine r_os hf (fun s18 hf => ?_)
  refine r_rS h (fun hs18 => ?_)
  refine p_X12_63 h dX12_init_138 (by decide) rC_86 ?_
  rw [nlE_nu (e := 113) (by decide +kernel)]
  refine r_aload_n h dX12_init_141 rfl 0 rfl ?_
  refine r_bipush h dX12_init_142 (by decide) ?_
  refine r_newaI (N := 12) (ty := .int) (co := 14) (t0 := 1) h dX12_init_144 ac_int rfl rfl (fun _ _ => rfl) rfl (by decide) (by decide) rC_104 rN_104 (by decide) (by decide) (nlE_cl (by decide +kernel)) (Nat.le_of_ble_eq_true rfl) (Nat.le_of_ble_eq_true rfl) (fun ad18 hE18 => ?_)
  refine r_lv (lv' := [(0, .ref (ad18 86))]) (by rw [hE18 86 (by decide)]) ?_
  refine r_st (st0 := [.ref (ad18 104), .ref (ad18 86)]) (by rw [hE18 86 (by decide)]) ?_
  refine r_os hf (fun s19 hf => ?_)
  refine r_rS h (fun hs19 => ?_)
  refine p_X12_66 h dX12_init_146 (by decide) rC_86 ?_
  rw [nlE_nu (e := 114) (by decide +kernel)]
  refine r_aload_n h dX12_init_149 rfl 0 rfl ?_
  refine r_bipush h dX12_init_150 (by decide) ?_
  refine r_newaI (N := 96) (ty := .int) (co := 14) (t0 := 1) h dX12_init_152 ac_int rfl rfl (fun _ _ => rfl) rfl (by decide) (by decide) rC_105 rN_105 (by decide) (by decide) (nlE_cl (by decide +kernel)) (Nat.le_of_ble_eq_true rfl) (Nat.le_of_ble_eq_true rfl) (fun ad19 hE19 => ?_)
  refine r_lv (lv' := [(0, .ref (ad19 86))]) (by rw [hE19 86 (by decide)]) ?_
  refine r_st (st0 := [.ref (ad19 105), .ref (ad19 86)]) (by rw [hE19 86 (by decide)]) ?_
  refine r_os hf (fun s20 hf => ?_)
  refine r_rS h (fun hs20 => ?_)
  refine p_X12_69 h dX12_init_154 (by decide) rC_86 ?_
  rw [nlE_nu (e := 115) (by decide +kernel)]
  refine r_aload_n h dX12_init_157 rfl 0 rfl ?_
  refine r_iconst h dX12_init_158 ?_
  refine r_newaI (N := 4) (ty := .int) (co := 14) (t0 := 1) h dX12_init_159 ac_int rfl rfl (fun _ _ => rfl) rfl (by decide) (by decide) rC_106 rN_106 (by decide) (by decide) (nlE_cl (by decide +kernel)) (Nat.le_of_ble_eq_true rfl) (Nat.le_of_ble_eq_true rfl) (fun ad20 hE20 => ?_)
  refine r_lv (lv' := [(0, .ref (ad20 86))]) (by rw [hE20 86 (by decide)]) ?_
  refine r_st (st0 := [.ref (ad20 106), .ref (ad20 86)]) (by rw [hE20 86 (by decide)]) ?_
  refine r_os hf (fun s21 hf => ?_)
  refine r_rS h (fun hs21 => ?_)
  refine p_X12_72 h dX12_init_161 (by decide) rC_86 ?_
  rw [nlE_nu (e := 116) (by decide +kernel)]
  refine r_aload_n h dX12_init_164 rfl 0 rfl ?_
  refine r_iconst h dX12_init_165 ?_
  refine r_newaI (N := 4) (ty := .int) (co := 14) (t0 := 1) h dX12_init_166 ac_int rfl rfl (fun _ _ => rfl) rfl (by decide) (by decide) rC_107 rN_107 (by decide) (by decide) (nlE_cl (by decide +kernel)) (Nat.le_of_ble_eq_true rfl) (Nat.le_of_ble_eq_true rfl) (fun ad21 hE21 => ?_)
  refine r_lv (lv' := [(0, .ref (ad21 86))]) (by rw [hE21 86 (by decide)]) ?_
  refine r_st (st0 := [.ref (ad21 107), .ref (ad21 86)]) (by rw [hE21 86 (by decide)]) ?_
  refine r_os hf (fun s22 hf => ?_)
  refine r_rS h (fun hs22 => ?_)
  refine p_X12_75 h dX12_init_168 (by decide) rC_86 ?_
  rw [nlE_nu (e := 117) (by decide +kernel)]
  refine r_aload_n h dX12_init_171 rfl 0 rfl ?_
  refine r_iconst h dX12_init_172 ?_
  refine r_newaI (N := 2) (ty := .boolean) (co := 16) (t0 := 3) h dX12_init_173 ac_boolean rfl rfl (fun _ _ => rfl) rfl (by decide) (by decide) rC_108 rN_108 (by decide) (by decide) (nlE_cl (by decide +kernel)) (Nat.le_of_ble_eq_true rfl) (Nat.le_of_ble_eq_true rfl) (fun ad22 hE22 => ?_)
  refine r_lv (lv' := [(0, .ref (ad22 86))]) (by rw [hE22 86 (by decide)]) ?_
  refine r_st (st0 := [.ref (ad22 108), .ref (ad22 86)]) (by rw [hE22 86 (by decide)]) ?_
  refine r_os hf (fun s23 hf => ?_)
  refine r_rS h (fun hs23 => ?_)
  refine p_X12_78 h dX12_init_175 (by decide) rC_86 ?_
  rw [nlE_nu (e := 118) (by decide +kernel)]
  refine r_aload_n h dX12_init_178 rfl 0 rfl ?_
  refine r_iconst h dX12_init_179 ?_
  refine r_newaI (N := 4) (ty := .boolean) (co := 16) (t0 := 3) h dX12_init_180 ac_boolean rfl rfl (fun _ _ => rfl) rfl (by decide) (by decide) rC_109 rN_109 (by decide) (by decide) (nlE_cl (by decide +kernel)) (Nat.le_of_ble_eq_true rfl) (Nat.le_of_ble_eq_true rfl) (fun ad23 hE23 => ?_)
  refine r_lv (lv' := [(0, .ref (ad23 86))]) (by rw [hE23 86 (by decide)]) ?_
  refine r_st (st0 := [.ref (ad23 109), .ref (ad23 86)]) (by rw [hE23 86 (by decide)]) ?_
  refine r_os hf (fun s24 hf => ?_)
  refine r_rS h (fun hs24 => ?_)
  refine p_X12_82 h dX12_init_182 (by decide) rC_86 ?_
  rw [nlE_nu (e := 119) (by decide +kernel)]
  refine r_aload_n h dX12_init_185 rfl 0 rfl ?_
  refine r_bipush h dX12_init_186 (by decide) ?_
  refine r_newaJ (N := 16) h dX12_init_188 ac_long rfl rC_110 rN_110 (by decide) (by decide) (nlE_cl (by decide +kernel)) (Nat.le_of_ble_eq_true rfl) (Nat.le_of_ble_eq_true rfl) (fun ad24 hE24 => ?_)
  refine r_lv (lv' := [(0, .ref (ad24 86))]) (by rw [hE24 86 (by decide)]) ?_
  refine r_st (st0 := [.ref (ad24 110), .ref (ad24 86)]) (by rw [hE24 86 (by decide)]) ?_
  refine r_os hf (fun s25 hf => ?_)
  refine r_rS h (fun hs25 => ?_)
  refine p_X12_85 h dX12_init_190 (by decide) rC_86 ?_
  rw [nlE_nu (e := 120) (by decide +kernel)]
  refine r_aload_n h dX12_init_193 rfl 0 rfl ?_
  refine r_bipush h dX12_init_194 (by decide) ?_
  refine r_newaJ (N := 12) h dX12_init_196 ac_long rfl rC_111 rN_111 (by decide) (by decide) (nlE_cl (by decide +kernel)) (Nat.le_of_ble_eq_true rfl) (Nat.le_of_ble_eq_true rfl) (fun ad25 hE25 => ?_)
  refine r_lv (lv' := [(0, .ref (ad25 86))]) (by rw [hE25 86 (by decide)]) ?_
  refine r_st (st0 := [.ref (ad25 111), .ref (ad25 86)]) (by rw [hE25 86 (by decide)]) ?_
  refine r_os hf (fun s26 hf => ?_)
  refine r_rS h (fun hs26 => ?_)
  refine p_X12_89 h dX12_init_198 (by decide) rC_86 ?_
  rw [nlE_nu (e := 121) (by decide +kernel)]
  refine r_aload_n h dX12_init_201 rfl 0 rfl ?_
  refine r_bipush h dX12_init_202 (by decide) ?_
  refine r_newaJ (N := 12) h dX12_init_204 ac_long rfl rC_112 rN_112 (by decide) (by decide) (nlE_cl (by decide +kernel)) (Nat.le_of_ble_eq_true rfl) (Nat.le_of_ble_eq_true rfl) (fun ad26 hE26 => ?_)
  refine r_lv (lv' := [(0, .ref (ad26 86))]) (by rw [hE26 86 (by decide)]) ?_
  refine r_st (st0 := [.ref (ad26 112), .ref (ad26 86)]) (by rw [hE26 86 (by decide)]) ?_
  refine r_os hf (fun s27 hf => ?_)
  refine r_rS h (fun hs27 => ?_)
  refine p_X12_92 h dX12_init_206 (by decide) rC_86 ?_
  rw [nlE_nu (e := 122) (by decide +kernel)]
  refine r_aload_n h dX12_init_209 rfl 0 rfl ?_
  refine r_sipush h dX12_init_210 (by decide) ?_
  refine r_newaI (N := 1120) (ty := .int) (co := 14) (t0 := 1) h dX12_init_213 ac_int rfl rfl (fun _ _ => rfl) rfl (by decide) (by decide) rC_113 rN_113 (by decide) (by decide) (nlE_cl (by decide +kernel)) (Nat.le_of_ble_eq_true rfl) (Nat.le_of_ble_eq_true rfl) (fun ad27 hE27 => ?_)
  refine r_lv (lv' := [(0, .ref (ad27 86))]) (by rw [hE27 86 (by decide)]) ?_
  refine r_st (st0 := [.ref (ad27 113), .ref (ad27 86)]) (by rw [hE27 86 (by decide)]) ?_
  refine r_os hf (fun s28 hf => ?_)
  refine r_rS h (fun hs28 => ?_)
  refine p_X12_95 h dX12_init_215 (by decide) rC_86 ?_
  rw [nlE_nu (e := 123) (by decide +kernel)]
  refine r_aload_n h dX12_init_218 rfl 0 rfl ?_
  refine r_sipush h dX12_init_219 (by decide) ?_
  refine r_newaI (N := 1120) (ty := .int) (co := 14) (t0 := 1) h dX12_init_222 ac_int rfl rfl (fun _ _ => rfl) rfl (by decide) (by decide) rC_114 rN_114 (by decide) (by decide) (nlE_cl (by decide +kernel)) (Nat.le_of_ble_eq_true rfl) (Nat.le_of_ble_eq_true rfl) (fun ad28 hE28 => ?_)
  refine r_lv (lv' := [(0, .ref (ad28 86))]) (by rw [hE28 86 (by decide)]) ?_
  refine r_st (st0 := [.ref (ad28 114), .ref (ad28 86)]) (by rw [hE28 86 (by decide)]) ?_
  refine r_os hf (fun s29 hf => ?_)
  refine r_rS h (fun hs29 => ?_)
  refine p_X12_98 h dX12_init_224 (by decide) rC_86 ?_
  rw [nlE_nu (e := 124) (by decide +kernel)]
  refine r_aload_n h dX12_init_227 rfl 0 rfl ?_
  refine r_bipush h dX12_init_228 (by decide) ?_
  refine r_newaI (N := 90) (ty := .int) (co := 14) (t0 := 1) h dX12_init_230 ac_int rfl rfl (fun _ _ => rfl) rfl (by decide) (by decide) rC_115 rN_115 (by decide) (by decide) (nlE_cl (by decide +kernel)) (Nat.le_of_ble_eq_true rfl) (Nat.le_of_ble_eq_true rfl) (fun ad29 hE29 => ?_)
  refine r_lv (lv' := [(0, .ref (ad29 86))]) (by rw [hE29 86 (by decide)]) ?_
  refine r_st (st0 := [.ref (ad29 115), .ref (ad29 86)]) (by rw [hE29 86 (by decide)]) ?_
  refine r_os hf (fun s30 hf => ?_)
  refine r_rS h (fun hs30 => ?_)
  refine p_X12_101 h dX12_init_232 (by decide) rC_86 ?_
  rw [nlE_nu (e := 125) (by decide +kernel)]
  refine r_aload_n h dX12_init_235 rfl 0 rfl ?_
  refine r_bipush h dX12_init_236 (by decide) ?_
  refine r_newaI (N := 90) (ty := .int) (co := 14) (t0 := 1) h dX12_init_238 ac_int rfl rfl (fun _ _ => rfl) rfl (by decide) (by decide) rC_116 rN_116 (by decide) (by decide) (nlE_cl (by decide +kernel)) (Nat.le_of_ble_eq_true rfl) (Nat.le_of_ble_eq_true rfl) (fun ad30 hE30 => ?_)
  refine r_lv (lv' := [(0, .ref (ad30 86))]) (by rw [hE30 86 (by decide)]) ?_
  refine r_st (st0 := [.ref (ad30 116), .ref (ad30 86)]) (by rw [hE30 86 (by decide)]) ?_
  refine r_os hf (fun s31 hf => ?_)
  refine r_rS h (fun hs31 => ?_)
  refine p_X12_104 h dX12_init_240 (by decide) rC_86 ?_
  rw [nlE_nu (e := 126) (by decide +kernel)]
  refine r_aload_n h dX12_init_243 rfl 0 rfl ?_
  refine r_bipush h dX12_init_244 (by decide) ?_
  refine r_newaI (N := 60) (ty := .int) (co := 14) (t0 := 1) h dX12_init_246 ac_int rfl rfl (fun _ _ => rfl) rfl (by decide) (by decide) rC_117 rN_117 (by decide) (by decide) (nlE_cl (by decide +kernel)) (Nat.le_of_ble_eq_true rfl) (Nat.le_of_ble_eq_true rfl) (fun ad31 hE31 => ?_)
  refine r_lv (lv' := [(0, .ref (ad31 86))]) (by rw [hE31 86 (by decide)]) ?_
  refine r_st (st0 := [.ref (ad31 117), .ref (ad31 86)]) (by rw [hE31 86 (by decide)]) ?_
  refine r_os hf (fun s32 hf => ?_)
  refine r_rS h (fun hs32 => ?_)
  refine p_X12_107 h dX12_init_248 (by decide) rC_86 ?_
  rw [nlE_nu (e := 127) (by decide +kernel)]
  refine r_aload_n h dX12_init_251 rfl 0 rfl ?_
  refine r_bipush h dX12_init_252 (by decide) ?_
  refine r_newaI (N := 44) (ty := .int) (co := 14) (t0 := 1) h dX12_init_254 ac_int rfl rfl (fun _ _ => rfl) rfl (by decide) (by decide) rC_118 rN_118 (by decide) (by decide) (nlE_cl (by decide +kernel)) (Nat.le_of_ble_eq_true rfl) (Nat.le_of_ble_eq_true rfl) (fun ad32 hE32 => ?_)
  refine r_lv (lv' := [(0, .ref (ad32 86))]) (by rw [hE32 86 (by decide)]) ?_
  refine r_st (st0 := [.ref (ad32 118), .ref (ad32 86)]) (by rw [hE32 86 (by decide)]) ?_
  refine r_os hf (fun s33 hf => ?_)
  refine r_rS h (fun hs33 => ?_)
  refine p_X12_110 h dX12_init_256 (by decide) rC_86 ?_
  rw [nlE_nu (e := 128) (by decide +kernel)]
  refine r_aload_n h dX12_init_259 rfl 0 rfl ?_
  refine r_bipush h dX12_init_260 (by decide) ?_
  refine r_newaI (N := 44) (ty := .int) (co := 14) (t0 := 1) h dX12_init_262 ac_int rfl rfl (fun _ _ => rfl) rfl (by decide) (by decide) rC_119 rN_119 (by decide) (by decide) (nlE_cl (by decide +kernel)) (Nat.le_of_ble_eq_true rfl) (Nat.le_of_ble_eq_true rfl) (fun ad33 hE33 => ?_)
  refine r_lv (lv' := [(0, .ref (ad33 86))]) (by rw [hE33 86 (by decide)]) ?_
  refine r_st (st0 := [.ref (ad33 119), .ref (ad33 86)]) (by rw [hE33 86 (by decide)]) ?_
  refine r_os hf (fun s34 hf => ?_)
  refine r_rS h (fun hs34 => ?_)
  refine p_X12_113 h dX12_init_264 (by decide) rC_86 ?_
  rw [nlE_nu (e := 129) (by decide +kernel)]
  refine r_aload_n h dX12_init_267 rfl 0 rfl ?_
  refine r_sipush h dX12_init_268 (by decide) ?_
  refine r_newaI (N := 1804) (ty := .int) (co := 14) (t0 := 1) h dX12_init_271 ac_int rfl rfl (fun _ _ => rfl) rfl (by decide) (by decide) rC_120 rN_120 (by decide) (by decide) (nlE_cl (by decide +kernel)) (Nat.le_of_ble_eq_true rfl) (Nat.le_of_ble_eq_true rfl) (fun ad34 hE34 => ?_)
  refine r_lv (lv' := [(0, .ref (ad34 86))]) (by rw [hE34 86 (by decide)]) ?_
  refine r_st (st0 := [.ref (ad34 120), .ref (ad34 86)]) (by rw [hE34 86 (by decide)]) ?_
  refine r_os hf (fun s35 hf => ?_)
  refine r_rS h (fun hs35 => ?_)
  refine p_X12_116 h dX12_init_273 (by decide) rC_86 ?_
  rw [nlE_nu (e := 130) (by decide +kernel)]
  refine r_aload_n h dX12_init_276 rfl 0 rfl ?_
  refine r_bipush h dX12_init_277 (by decide) ?_
  refine r_newaI (N := 12) (ty := .int) (co := 14) (t0 := 1) h dX12_init_279 ac_int rfl rfl (fun _ _ => rfl) rfl (by decide) (by decide) rC_121 rN_121 (by decide) (by decide) (nlE_cl (by decide +kernel)) (Nat.le_of_ble_eq_true rfl) (Nat.le_of_ble_eq_true rfl) (fun ad35 hE35 => ?_)
  refine r_lv (lv' := [(0, .ref (ad35 86))]) (by rw [hE35 86 (by decide)]) ?_
  refine r_st (st0 := [.ref (ad35 121), .ref (ad35 86)]) (by rw [hE35 86 (by decide)]) ?_
  refine r_os hf (fun s36 hf => ?_)
  refine r_rS h (fun hs36 => ?_)
  refine p_X12_119 h dX12_init_281 (by decide) rC_86 ?_
  rw [nlE_nu (e := 131) (by decide +kernel)]
  refine r_aload_n h dX12_init_284 rfl 0 rfl ?_
  refine r_bipush h dX12_init_285 (by decide) ?_
  refine r_newaI (N := 12) (ty := .int) (co := 14) (t0 := 1) h dX12_init_287 ac_int rfl rfl (fun _ _ => rfl) rfl (by decide) (by decide) rC_122 rN_122 (by decide) (by decide) (nlE_cl (by decide +kernel)) (Nat.le_of_ble_eq_true rfl) (Nat.le_of_ble_eq_true rfl) (fun ad36 hE36 => ?_)
  refine r_lv (lv' := [(0, .ref (ad36 86))]) (by rw [hE36 86 (by decide)]) ?_
  refine r_st (st0 := [.ref (ad36 122), .ref (ad36 86)]) (by rw [hE36 86 (by decide)]) ?_
  refine r_os hf (fun s37 hf => ?_)
  refine r_rS h (fun hs37 => ?_)
  refine p_X12_122 h dX12_init_289 (by decide) rC_86 ?_
  rw [nlE_nu (e := 132) (by decide +kernel)]
  refine r_aload_n h dX12_init_292 rfl 0 rfl ?_
  refine r_iconst h dX12_init_293 ?_
  refine p_X12_125 h dX12_init_294 (by decide) rC_86 (rIc rfl) ?_
  refine r_os hf (fun s38 hf => ?_)
  refine r_rS h (fun hs38 => ?_)
  refine r_aload_n h dX12_init_297 rfl 0 rfl ?_
  refine r_bipush h dX12_init_298 (by decide) ?_
  refine r_newaI (N := 8) (ty := .int) (co := 14) (t0 := 1) h dX12_init_300 ac_int rfl rfl (fun _ _ => rfl) rfl (by decide) (by decide) rC_123 rN_123 (by decide) (by decide) (nlE_cl (by decide +kernel)) (Nat.le_of_ble_eq_true rfl) (Nat.le_of_ble_eq_true rfl) (fun ad37 hE37 => ?_)
  refine r_lv (lv' := [(0, .ref (ad37 86))]) (by rw [hE37 86 (by decide)]) ?_
  refine r_st (st0 := [.ref (ad37 123), .ref (ad37 86)]) (by rw [hE37 86 (by decide)]) ?_
  refine r_os hf (fun s39 hf => ?_)
  refine r_rS h (fun hs39 => ?_)
  refine p_X12_128 h dX12_init_302 (by decide) rC_86 ?_
  rw [nlE_nu (e := 133) (by decide +kernel)]
  refine r_aload_n h dX12_init_305 rfl 0 rfl ?_
  refine r_bipush h dX12_init_306 (by decide) ?_
  refine r_newaI (N := 8) (ty := .int) (co := 14) (t0 := 1) h dX12_init_308 ac_int rfl rfl (fun _ _ => rfl) rfl (by decide) (by decide) rC_124 rN_124 (by decide) (by decide) (nlE_cl (by decide +kernel)) (Nat.le_of_ble_eq_true rfl) (Nat.le_of_ble_eq_true rfl) (fun ad38 hE38 => ?_)
  refine r_lv (lv' := [(0, .ref (ad38 86))]) (by rw [hE38 86 (by decide)]) ?_
  refine r_st (st0 := [.ref (ad38 124), .ref (ad38 86)]) (by rw [hE38 86 (by decide)]) ?_
  refine r_os hf (fun s40 hf => ?_)
  refine r_rS h (fun hs40 => ?_)
  refine p_X12_131 h dX12_init_310 (by decide) rC_86 ?_
  rw [nlE_nu (e := 134) (by decide +kernel)]
  refine r_aload_n h dX12_init_313 rfl 0 rfl ?_
  refine r_sipush h dX12_init_314 (by decide) ?_
  refine r_newaI (N := 216) (ty := .int) (co := 14) (t0 := 1) h dX12_init_317 ac_int rfl rfl (fun _ _ => rfl) rfl (by decide) (by decide) rC_125 rN_125 (by decide) (by decide) (nlE_cl (by decide +kernel)) (Nat.le_of_ble_eq_true rfl) (Nat.le_of_ble_eq_true rfl) (fun ad39 hE39 => ?_)
  refine r_lv (lv' := [(0, .ref (ad39 86))]) (by rw [hE39 86 (by decide)]) ?_
  refine r_st (st0 := [.ref (ad39 125), .ref (ad39 86)]) (by rw [hE39 86 (by decide)]) ?_
  refine r_os hf (fun s41 hf => ?_)
  refine r_rS h (fun hs41 => ?_)
  refine p_X12_134 h dX12_init_319 (by decide) rC_86 ?_
  rw [nlE_nu (e := 135) (by decide +kernel)]
  refine r_aload_n h dX12_init_322 rfl 0 rfl ?_
  refine r_iconst h dX12_init_323 ?_
  refine r_newaI (N := 1) (ty := .int) (co := 14) (t0 := 1) h dX12_init_324 ac_int rfl rfl (fun _ _ => rfl) rfl (by decide) (by decide) rC_126 rN_126 (by decide) (by decide) (nlE_cl (by decide +kernel)) (Nat.le_of_ble_eq_true rfl) (Nat.le_of_ble_eq_true rfl) (fun ad40 hE40 => ?_)
  refine r_lv (lv' := [(0, .ref (ad40 86))]) (by rw [hE40 86 (by decide)]) ?_
  refine r_st (st0 := [.ref (ad40 126), .ref (ad40 86)]) (by rw [hE40 86 (by decide)]) ?_
  refine r_os hf (fun s42 hf => ?_)
  refine r_rS h (fun hs42 => ?_)
  refine p_X12_137 h dX12_init_326 (by decide) rC_86 ?_
  rw [nlE_nu (e := 136) (by decide +kernel)]
  refine r_aload_n h dX12_init_329 rfl 0 rfl ?_
  refine r_iconst h dX12_init_330 ?_
  refine r_newaI (N := 4) (ty := .int) (co := 14) (t0 := 1) h dX12_init_331 ac_int rfl rfl (fun _ _ => rfl) rfl (by decide) (by decide) rC_127 rN_127 (by decide) (by decide) (nlE_cl (by decide +kernel)) (Nat.le_of_ble_eq_true rfl) (Nat.le_of_ble_eq_true rfl) (fun ad41 hE41 => ?_)
  refine r_lv (lv' := [(0, .ref (ad41 86))]) (by rw [hE41 86 (by decide)]) ?_
  refine r_st (st0 := [.ref (ad41 127), .ref (ad41 86)]) (by rw [hE41 86 (by decide)]) ?_
  refine r_os hf (fun s43 hf => ?_)
  refine r_rS h (fun hs43 => ?_)
  refine p_X12_140 h dX12_init_333 (by decide) rC_86 ?_
  rw [nlE_nu (e := 137) (by decide +kernel)]
  refine r_aload_n h dX12_init_336 rfl 0 rfl ?_
  refine r_iconst h dX12_init_337 ?_
  refine r_newaI (N := 4) (ty := .int) (co := 14) (t0 := 1) h dX12_init_338 ac_int rfl rfl (fun _ _ => rfl) rfl (by decide) (by decide) rC_128 rN_128 (by decide) (by decide) (nlE_cl (by decide +kernel)) (Nat.le_of_ble_eq_true rfl) (Nat.le_of_ble_eq_true rfl) (fun ad42 hE42 => ?_)
  refine r_lv (lv' := [(0, .ref (ad42 86))]) (by rw [hE42 86 (by decide)]) ?_
  refine r_st (st0 := [.ref (ad42 128), .ref (ad42 86)]) (by rw [hE42 86 (by decide)]) ?_
  refine r_os hf (fun s44 hf => ?_)
  refine r_rS h (fun hs44 => ?_)
  refine p_X12_143 h dX12_init_340 (by decide) rC_86 ?_
  rw [nlE_nu (e := 138) (by decide +kernel)]
  refine r_aload_n h dX12_init_343 rfl 0 rfl ?_
  refine r_iconst h dX12_init_344 ?_
  refine r_newaI (N := 4) (ty := .int) (co := 14) (t0 := 1) h dX12_init_345 ac_int rfl rfl (fun _ _ => rfl) rfl (by decide) (by decide) rC_129 rN_129 (by decide) (by decide) (nlE_cl (by decide +kernel)) (Nat.le_of_ble_eq_true rfl) (Nat.le_of_ble_eq_true rfl) (fun ad43 hE43 => ?_)
  refine r_lv (lv' := [(0, .ref (ad43 86))]) (by rw [hE43 86 (by decide)]) ?_
  refine r_st (st0 := [.ref (ad43 129), .ref (ad43 86)]) (by rw [hE43 86 (by decide)]) ?_
  refine r_os hf (fun s45 hf => ?_)
  refine r_rS h (fun hs45 => ?_)
  refine p_X12_146 h dX12_init_347 (by decide) rC_86 ?_
  rw [nlE_nu (e := 139) (by decide +kernel)]
  refine r_aload_n h dX12_init_350 rfl 0 rfl ?_
  refine r_iconst h dX12_init_351 ?_
  refine r_newaI (N := 4) (ty := .int) (co := 14) (t0 := 1) h dX12_init_352 ac_int rfl rfl (fun _ _ => rfl) rfl (by decide) (by decide) rC_130 rN_130 (by decide) (by decide) (nlE_cl (by decide +kernel)) (Nat.le_of_ble_eq_true rfl) (Nat.le_of_ble_eq_true rfl) (fun ad44 hE44 => ?_)
  refine r_lv (lv' := [(0, .ref (ad44 86))]) (by rw [hE44 86 (by decide)]) ?_
  refine r_st (st0 := [.ref (ad44 130), .ref (ad44 86)]) (by rw [hE44 86 (by decide)]) ?_
  refine r_os hf (fun s46 hf => ?_)
  refine r_rS h (fun hs46 => ?_)
  refine p_X12_149 h dX12_init_354 (by decide) rC_86 ?_
  rw [nlE_nu (e := 140) (by decide +kernel)]
  refine r_aload_n h dX12_init_357 rfl 0 rfl ?_
  refine r_bipush h dX12_init_358 (by decide) ?_
  refine r_newaI (N := 30) (ty := .int) (co := 14) (t0 := 1) h dX12_init_360 ac_int rfl rfl (fun _ _ => rfl) rfl (by decide) (by decide) rC_131 rN_131 (by decide) (by decide) (nlE_cl (by decide +kernel)) (Nat.le_of_ble_eq_true rfl) (Nat.le_of_ble_eq_true rfl) (fun ad45 hE45 => ?_)
  refine r_lv (lv' := [(0, .ref (ad45 86))]) (by rw [hE45 86 (by decide)]) ?_
  refine r_st (st0 := [.ref (ad45 131), .ref (ad45 86)]) (by rw [hE45 86 (by decide)]) ?_
  refine r_os hf (fun s47 hf => ?_)
  refine r_rS h (fun hs47 => ?_)
  refine p_X12_152 h dX12_init_362 (by decide) rC_86 ?_
  rw [nlE_nu (e := 141) (by decide +kernel)]
  refine r_aload_n h dX12_init_365 rfl 0 rfl ?_
  refine r_bipush h dX12_init_366 (by decide) ?_
  refine r_newaI (N := 30) (ty := .int) (co := 14) (t0 := 1) h dX12_init_368 ac_int rfl rfl (fun _ _ => rfl) rfl (by decide) (by decide) rC_132 rN_132 (by decide) (by decide) (nlE_cl (by decide +kernel)) (Nat.le_of_ble_eq_true rfl) (Nat.le_of_ble_eq_true rfl) (fun ad46 hE46 => ?_)
  refine r_lv (lv' := [(0, .ref (ad46 86))]) (by rw [hE46 86 (by decide)]) ?_
  refine r_st (st0 := [.ref (ad46 132), .ref (ad46 86)]) (by rw [hE46 86 (by decide)]) ?_
  refine r_os hf (fun s48 hf => ?_)
  refine r_rS h (fun hs48 => ?_)
  refine p_X12_155 h dX12_init_370 (by decide) rC_86 ?_
  rw [nlE_nu (e := 142) (by decide +kernel)]
  refine r_aload_n h dX12_init_373 rfl 0 rfl ?_
  refine r_bipush h dX12_init_374 (by decide) ?_
  refine r_newaI (N := 30) (ty := .int) (co := 14) (t0 := 1) h dX12_init_376 ac_int rfl rfl (fun _ _ => rfl) rfl (by decide) (by decide) rC_133 rN_133 (by decide) (by decide) (nlE_cl (by decide +kernel)) (Nat.le_of_ble_eq_true rfl) (Nat.le_of_ble_eq_true rfl) (fun ad47 hE47 => ?_)
  refine r_lv (lv' := [(0, .ref (ad47 86))]) (by rw [hE47 86 (by decide)]) ?_
  refine r_st (st0 := [.ref (ad47 133), .ref (ad47 86)]) (by rw [hE47 86 (by decide)]) ?_
  refine r_os hf (fun s49 hf => ?_)
  refine r_rS h (fun hs49 => ?_)
  refine p_X12_158 h dX12_init_378 (by decide) rC_86 ?_
  rw [nlE_nu (e := 143) (by decide +kernel)]
  refine r_aload_n h dX12_init_381 rfl 0 rfl ?_
  refine r_bipush h dX12_init_382 (by decide) ?_
  refine r_newaI (N := 30) (ty := .int) (co := 14) (t0 := 1) h dX12_init_384 ac_int rfl rfl (fun _ _ => rfl) rfl (by decide) (by decide) rC_134 rN_134 (by decide) (by decide) (nlE_cl (by decide +kernel)) (Nat.le_of_ble_eq_true rfl) (Nat.le_of_ble_eq_true rfl) (fun ad48 hE48 => ?_)
  refine r_lv (lv' := [(0, .ref (ad48 86))]) (by rw [hE48 86 (by decide)]) ?_
  refine r_st (st0 := [.ref (ad48 134), .ref (ad48 86)]) (by rw [hE48 86 (by decide)]) ?_
  refine r_os hf (fun s50 hf => ?_)
  refine r_rS h (fun hs50 => ?_)
  refine p_X12_161 h dX12_init_386 (by decide) rC_86 ?_
  rw [nlE_nu (e := 144) (by decide +kernel)]
  refine r_aload_n h dX12_init_389 rfl 0 rfl ?_
  refine r_iconst h dX12_init_390 ?_
  refine r_newaI (N := 3) (ty := .int) (co := 14) (t0 := 1) h dX12_init_391 ac_int rfl rfl (fun _ _ => rfl) rfl (by decide) (by decide) rC_135 rN_135 (by decide) (by decide) (nlE_cl (by decide +kernel)) (Nat.le_of_ble_eq_true rfl) (Nat.le_of_ble_eq_true rfl) (fun ad49 hE49 => ?_)
  refine r_lv (lv' := [(0, .ref (ad49 86))]) (by rw [hE49 86 (by decide)]) ?_
  refine r_st (st0 := [.ref (ad49 135), .ref (ad49 86)]) (by rw [hE49 86 (by decide)]) ?_
  refine r_os hf (fun s51 hf => ?_)
  refine r_rS h (fun hs51 => ?_)
  refine p_X12_164 h dX12_init_393 (by decide) rC_86 ?_
  rw [nlE_nu (e := 145) (by decide +kernel)]
  refine r_aload_n h dX12_init_396 rfl 0 rfl ?_
  refine r_sipush h dX12_init_397 (by decide) ?_
  refine r_newaI (N := 132) (ty := .int) (co := 14) (t0 := 1) h dX12_init_400 ac_int rfl rfl (fun _ _ => rfl) rfl (by decide) (by decide) rC_136 rN_136 (by decide) (by decide) (nlE_cl (by decide +kernel)) (Nat.le_of_ble_eq_true rfl) (Nat.le_of_ble_eq_true rfl) (fun ad50 hE50 => ?_)
  refine r_lv (lv' := [(0, .ref (ad50 86))]) (by rw [hE50 86 (by decide)]) ?_
  refine r_st (st0 := [.ref (ad50 136), .ref (ad50 86)]) (by rw [hE50 86 (by decide)]) ?_
  refine r_os hf (fun s52 hf => ?_)
  refine r_rS h (fun hs52 => ?_)
  refine p_X12_167 h dX12_init_402 (by decide) rC_86 ?_
  rw [nlE_nu (e := 146) (by decide +kernel)]
  refine r_aload_n h dX12_init_405 rfl 0 rfl ?_
  refine r_iconst h dX12_init_406 ?_
  refine r_newaI (N := 3) (ty := .boolean) (co := 16) (t0 := 3) h dX12_init_407 ac_boolean rfl rfl (fun _ _ => rfl) rfl (by decide) (by decide) rC_137 rN_137 (by decide) (by decide) (nlE_cl (by decide +kernel)) (Nat.le_of_ble_eq_true rfl) (Nat.le_of_ble_eq_true rfl) (fun ad51 hE51 => ?_)
  refine r_lv (lv' := [(0, .ref (ad51 86))]) (by rw [hE51 86 (by decide)]) ?_
  refine r_st (st0 := [.ref (ad51 137), .ref (ad51 86)]) (by rw [hE51 86 (by decide)]) ?_
  refine r_os hf (fun s53 hf => ?_)
  refine r_rS h (fun hs53 => ?_)
  refine p_X12_170 h dX12_init_409 (by decide) rC_86 ?_
  rw [nlE_nu (e := 147) (by decide +kernel)]
  refine r_aload_n h dX12_init_412 rfl 0 rfl ?_
  obtain ⟨r54, s54, hq54, hf⟩ := ob_some hf
  refine r_callV0 h [] dX12_init_413 (fun hs => m_Mo_clearBank wh_138_148 (by decide) hs hq54) ml_X12_173 cv_Mo_clearBank rfl (co := 12) rfl (by decide) (by decide) rC_86 ⟨rfl, rfl⟩ ⟨Nat.le_of_ble_eq_true rfl, Nat.le_of_ble_eq_true rfl⟩ ⟨Nat.le_of_ble_eq_true rfl, Nat.le_of_ble_eq_true rfl⟩ (Nat.le_of_ble_eq_true rfl) rfl (fun _ hs54 => ?_)
  refine r_aload_n h dX12_init_416 rfl 0 rfl ?_
  obtain ⟨r55, s55, hq55, hf⟩ := ob_some hf
  refine r_callV0 h [] dX12_init_417 (fun hs => m_Mo_startAnew wh_138_148 (by decide) hs hq55) ml_X12_176 cv_Mo_startAnew rfl (co := 12) rfl (by decide) (by decide) rC_86 ⟨rfl, rfl⟩ ⟨Nat.le_of_ble_eq_true rfl, Nat.le_of_ble_eq_true rfl⟩ ⟨Nat.le_of_ble_eq_true rfl, Nat.le_of_ble_eq_true rfl⟩ (Nat.le_of_ble_eq_true rfl) rfl (fun _ hs55 => ?_)
  exact hr _ _ _ _ _ 0 _ dX12_init_420 ⟨fun j hj => by rw [hE51 j (by omega), hE50 j (by omega), hE49 j (by omega), hE48 j (by omega), hE47 j (by omega), hE46 j (by omega), hE45 j (by omega), hE44 j (by omega), hE43 j (by omega), hE42 j (by omega), hE41 j (by omega), hE40 j (by omega), hE39 j (by omega), hE38 j (by omega), hE37 j (by omega), hE36 j (by omega), hE35 j (by omega), hE34 j (by omega), hE33 j (by omega), hE32 j (by omega), hE31 j (by omega), hE30 j (by omega), hE29 j (by omega), hE28 j (by omega), hE27 j (by omega), hE26 j (by omega), hE25 j (by omega), hE24 j (by omega), hE23 j (by omega), hE22 j (by omega), hE21 j (by omega), hE20 j (by omega), hE19 j (by omega), hE18 j (by omega), hE17 j (by omega), hE16 j (by omega), hE15 j (by omega), hE14 j (by omega), hE13 j (by omega), hE12 j (by omega), hE11 j (by omega), hE10 j (by omega), hE9 j (by omega), hE8 j (by omega), hE7 j (by omega), hE6 j (by omega), hE5 j (by omega), hE4 j (by omega), hE3 j (by omega), hE2 j (by omega), hE1 j (by omega)], rfl, rfl, by cases hf; rfl, by cases hf; rfl⟩ trivial
