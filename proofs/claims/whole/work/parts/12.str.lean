set_option maxRecDepth 100000 in
theorem cv_s_coder : w_CV yJ0_coder_7d493 cJ0_coder_7d493 1 4 0 := ⟨⟨gt_in3 128 rfl rfl, gt_in1 14 rfl rfl, ⟨by decide +kernel, by decide +kernel⟩, by decide +kernel⟩, gt_in3 126 rfl rfl, gt_in3 127 rfl rfl⟩
set_option maxRecDepth 100000 in
theorem cv_s_isLatin1 : w_CV yJ0_isLatin1_aae02 cJ0_isLatin1_aae02 1 2 0 := ⟨⟨gt_in3 138 rfl rfl, gt_in1 14 rfl rfl, ⟨by decide +kernel, by decide +kernel⟩, by decide +kernel⟩, gt_in3 136 rfl rfl, gt_in3 137 rfl rfl⟩
set_option maxRecDepth 100000 in
theorem cv_s_length : w_CV yJ0_length_8abf5 cJ0_length_8abf5 1 1 0 := ⟨⟨gt_in3 124 rfl rfl, gt_in1 14 rfl rfl, ⟨by decide +kernel, by decide +kernel⟩, by decide +kernel⟩, gt_in3 122 rfl rfl, gt_in3 123 rfl rfl⟩
set_option maxRecDepth 100000 in
theorem cv_s_charAt : w_CV yJ0_charAt_5068e cJ0_charAt_5068e 2 5 1 := ⟨⟨gt_in3 134 rfl rfl, gt_in1 14 rfl rfl, ⟨by decide +kernel, by decide +kernel⟩, by decide +kernel⟩, gt_in3 132 rfl rfl, gt_in3 133 rfl rfl⟩
set_option maxRecDepth 100000 in
theorem cv_s_ck : w_CS yJ0_checkIndex_df160 cJ0_checkIndex_df160 2 0 2 := ⟨⟨gt_in3 144 rfl rfl, gt_in1 14 rfl rfl, ⟨by decide +kernel, by decide +kernel⟩, by decide +kernel⟩, gt_in3 143 rfl rfl⟩
set_option maxRecDepth 100000 in
theorem cv_s_pck : w_CS yJ3_checkIndex_8e157 cJ3_checkIndex_8e157 3 1 3 := ⟨⟨gt_in3 149 rfl rfl, gt_in1 16 rfl rfl, ⟨by decide +kernel, by decide +kernel⟩, by decide +kernel⟩, gt_in3 148 rfl rfl⟩
set_option maxRecDepth 100000 in
theorem cv_s_l1 : w_CS yJ1_charAt_3b067 cJ1_charAt_3b067 2 5 2 := ⟨⟨gt_in3 141 rfl rfl, gt_in1 15 rfl rfl, ⟨by decide +kernel, by decide +kernel⟩, by decide +kernel⟩, gt_in3 140 rfl rfl⟩
set_option maxRecDepth 100000 in
theorem ml_s_coder : Cond.methodLink RJ0 335 yJ0_coder_7d493 ∈ GT := gt_in3 125 rfl rfl
set_option maxRecDepth 100000 in
theorem ml_s_isL : Cond.methodLink RJ0 492 yJ0_isLatin1_aae02 ∈ GT := gt_in3 135 rfl rfl
set_option maxRecDepth 100000 in
theorem ml_s_l1 : Cond.methodLink RJ0 495 yJ1_charAt_3b067 ∈ GT := gt_in3 139 rfl rfl
set_option maxRecDepth 100000 in
theorem ml_s_ck : Cond.methodLink RJ1 9 yJ0_checkIndex_df160 ∈ GT := gt_in3 142 rfl rfl
set_option maxRecDepth 100000 in
theorem ml_s_pck : Cond.methodLink RJ0 1059 yJ3_checkIndex_8e157 ∈ GT := gt_in3 147 rfl rfl
set_option maxRecDepth 100000 in
theorem ml_s_len : Cond.methodLink RX10 66 yJ0_length_8abf5 ∈ GT := gt_in3 121 rfl rfl
set_option maxRecDepth 100000 in
theorem ml_s_at : Cond.methodLink RX10 71 yJ0_charAt_5068e ∈ GT := gt_in3 131 rfl rfl
set_option maxRecDepth 100000 in
theorem fl_s_cs : Cond.fieldLink RJ0 38 "java/lang/String" "COMPACT_STRINGS" "Z" ∈ GT := gt_in3 129 rfl rfl
set_option maxRecDepth 100000 in
theorem fl_s_co : Cond.fieldLink RJ0 15 "java/lang/String" "coder" "B" ∈ GT := gt_in9 105 rfl rfl
set_option maxRecDepth 100000 in
theorem fl_s_va : Cond.fieldLink RJ0 9 "java/lang/String" "value" "[B" ∈ GT := gt_in9 104 rfl rfl
set_option maxRecDepth 100000 in
theorem fl_s_sf : Cond.fieldLink RJ0 1053 "jdk/internal/util/Preconditions" "SIOOBE_FORMATTER" "Ljava/util/function/BiFunction;" ∈ GT := gt_in3 145 rfl rfl
def rm_s0 : Room := { frames := 0, cells := 0, slots := 0, locals := 0 }
def rm_s1 : Room := { frames := 1, cells := 0, slots := 0, locals := 22 }
def rm_s2 : Room := { frames := 2, cells := 0, slots := 0, locals := 43 }
def rm_s3 : Room := { frames := 3, cells := 0, slots := 0, locals := 64 }
section SR
variable {l : Launch} {D : va_G} {cs : Nat → ClassId} {aS aV : Nat} {A : Nat → Prop} {ad : Nat → Nat} {n : Nat} {nl : Nat → Nat → Bool} {s0 : SS}
set_option maxRecDepth 20000 in
theorem m_s_coder (hs0 : rS s0) : w_MC l D cs aS aV A yJ0_coder_7d493 cJ0_coder_7d493 1 4 rm_s0 ad n nl [.ref aS] s0 (w_Po ad n nl (0, s0)) := by
  refine w_MC_of (by decide +kernel) (by decide) hs0 (Nat.le_of_ble_eq_true rfl) (fun K h hr => ?_)
  refine r_lv (lv' := [(0, .ref aS)]) rfl ?_
  refine r_getCS h dJ0_coder_7d493_0 fl_s_cs ?_
  refine r_if_eq (tgt := 13) h dJ0_coder_7d493_3 (by decide) (rIc rfl) (fun z => absurd z (by decide)) (fun _ => ?_)
  refine r_aload_n h dJ0_coder_7d493_6 rfl 0 rfl ?_
  refine r_strC h dJ0_coder_7d493_7 fl_s_co ?_
  refine r_goto (tgt := 14) h dJ0_coder_7d493_10 (by decide) ?_
  exact r_ret4 hr dJ0_coder_7d493_14 rfl rfl
set_option maxRecDepth 20000 in
theorem m_s_isLatin1 (hs0 : rS s0) : w_MC l D cs aS aV A yJ0_isLatin1_aae02 cJ0_isLatin1_aae02 1 2 rm_s0 ad n nl [.ref aS] s0 (w_Po ad n nl (1, s0)) := by
  refine w_MC_of (by decide +kernel) (by decide) hs0 (Nat.le_of_ble_eq_true rfl) (fun K h hr => ?_)
  refine r_lv (lv' := [(0, .ref aS)]) rfl ?_
  refine r_getCS h dJ0_isLatin1_aae02_0 fl_s_cs ?_
  refine r_if_eq (tgt := 17) h dJ0_isLatin1_aae02_3 (by decide) (rIc rfl) (fun z => absurd z (by decide)) (fun _ => ?_)
  refine r_aload_n h dJ0_isLatin1_aae02_6 rfl 0 rfl ?_
  refine r_strC h dJ0_isLatin1_aae02_7 fl_s_co ?_
  refine r_if_ne (tgt := 17) h dJ0_isLatin1_aae02_10 (by decide) (rIc rfl) (fun z => absurd rfl z) (fun _ => ?_)
  refine r_iconst h dJ0_isLatin1_aae02_13 ?_
  refine r_goto (tgt := 18) h dJ0_isLatin1_aae02_14 (by decide) ?_
  exact r_ret2 hr dJ0_isLatin1_aae02_18 (Or.inr rfl) rfl
set_option maxRecDepth 20000 in
theorem m_s_length (hs0 : rS s0) : w_MC l D cs aS aV A yJ0_length_8abf5 cJ0_length_8abf5 1 1 rm_s1 ad n nl [.ref aS] s0 (w_Po ad n nl (107, s0)) := by
  refine w_MC_of (by decide +kernel) (by decide) hs0 (Nat.le_of_ble_eq_true rfl) (fun K h hr => ?_)
  refine r_lv (lv' := [(0, .ref aS)]) rfl ?_
  refine r_aload_n h dJ0_length_8abf5_0 rfl 0 rfl ?_
  refine r_strV h dJ0_length_8abf5_1 fl_s_va ?_
  refine r_strL h dJ0_length_8abf5_4 ?_
  refine r_aload_n h dJ0_length_8abf5_5 rfl 0 rfl ?_
  refine r_callVS h [] dJ0_length_8abf5_6 (fun hs => m_s_coder hs) ml_s_coder cv_s_coder rfl rfl ⟨Nat.le_of_ble_eq_true rfl, Nat.le_of_ble_eq_true rfl⟩ ⟨Nat.le_of_ble_eq_true rfl, Nat.le_of_ble_eq_true rfl⟩ (Nat.le_of_ble_eq_true rfl) rfl (fun ad' n' nl' r σ' hpo hrr hs => ?_)
  obtain ⟨rfl, rfl, rfl, rfl, rfl⟩ := hpo
  refine r_st (st0 := [.int (vI 0), .int (vI 107)]) rfl ?_
  refine r_ishr h dJ0_length_8abf5_9 ?_
  have hz : zshr 107 0 = 107 := by rw [zshr_def]; decide +kernel
  exact r_ret1 hr dJ0_length_8abf5_10 (rI_zshr _ _) (by rw [hz])
set_option maxRecDepth 20000 in
theorem m_s_pck (hs0 : rS s0) {x : Int} (rx : rI x) (hx : 0 ≤ x ∧ x < 107) (v : Value) (hv : v.category = 1) : w_MC l D cs aS aV A yJ3_checkIndex_8e157 cJ3_checkIndex_8e157 3 1 rm_s0 ad n nl [.int (vI x), .int (vI 107), v] s0 (w_Po ad n nl (x, s0)) := by
  refine w_MC_of (by decide +kernel) (by decide) hs0 (by simp [lg_sl, hv, show ∀ z, (Value.int z).category = 1 from fun _ => rfl]) (fun K h hr => ?_)
  refine r_lv (lv' := [(0, .int (vI x)), (1, .int (vI 107)), (2, v)]) rfl ?_
  refine r_iload_n h dJ3_checkIndex_8e157_0 rfl 0 rfl ?_
  refine r_if_lt (tgt := 9) h dJ3_checkIndex_8e157_1 (by decide) rx (fun z => absurd z (by omega)) (fun _ => ?_)
  refine r_iload_n h dJ3_checkIndex_8e157_4 rfl 0 rfl ?_
  refine r_iload_n h dJ3_checkIndex_8e157_5 rfl 1 rfl ?_
  refine r_icmp_lt (tgt := 16) h dJ3_checkIndex_8e157_6 (by decide) rx (rIc rfl) (fun _ => ?_) (fun z => absurd hx.2 z)
  refine r_iload_n h dJ3_checkIndex_8e157_16 rfl 0 rfl ?_
  exact r_ret1 hr dJ3_checkIndex_8e157_17 rx rfl
set_option maxRecDepth 20000 in
theorem m_s_ck (hs0 : rS s0) {x : Int} (rx : rI x) (hx : 0 ≤ x ∧ x < 107) : w_MC l D cs aS aV A yJ0_checkIndex_df160 cJ0_checkIndex_df160 2 0 rm_s1 ad n nl [.int (vI x), .int (vI 107)] s0 (w_Po ad n nl (0, s0)) := by
  refine w_MC_of (by decide +kernel) (by decide) hs0 (Nat.le_of_ble_eq_true rfl) (fun K h hr => ?_)
  refine r_lv (lv' := [(0, .int (vI x)), (1, .int (vI 107))]) rfl ?_
  refine r_iload_n h dJ0_checkIndex_df160_0 rfl 0 rfl ?_
  refine r_iload_n h dJ0_checkIndex_df160_1 rfl 1 rfl ?_
  refine r_getSF h dJ0_checkIndex_df160_2 fl_s_sf (fun v hv => ?_)
  refine r_callS h [.int (vI x), .int (vI 107), v] dJ0_checkIndex_df160_5 (fun hs => m_s_pck hs rx hx v hv) ml_s_pck cv_s_pck rfl ⟨Nat.le_of_ble_eq_true rfl, Nat.le_of_ble_eq_true rfl⟩ ⟨Nat.le_of_ble_eq_true rfl, Nat.le_of_ble_eq_true rfl⟩ (Nat.le_of_ble_eq_true rfl) rfl (fun ad' n' nl' r σ' hpo hrr hs => ?_)
  obtain ⟨rfl, rfl, rfl, e4, rfl⟩ := hpo
  refine r_st (st0 := [.int (vI x)]) (by rw [e4]; rfl) ?_
  refine r_pop h dJ0_checkIndex_df160_8 rfl ?_
  exact r_ret0 (x := 0) hr dJ0_checkIndex_df160_9 rfl
set_option maxRecDepth 20000 in
theorem m_s_l1 (hs0 : rS s0) {x : Int} (rx : rI x) (hx : 0 ≤ x ∧ x < 107) : w_MC l D cs aS aV A yJ1_charAt_3b067 cJ1_charAt_3b067 2 5 rm_s2 ad n nl [.ref aV, .int (vI x)] s0 (w_Po ad n nl (kwc x.toNat, s0)) := by
  refine w_MC_of (by decide +kernel) (by decide) hs0 (Nat.le_of_ble_eq_true rfl) (fun K h hr => ?_)
  refine r_lv (lv' := [(0, .ref aV), (1, .int (vI x))]) rfl ?_
  refine r_iload_n h dJ1_charAt_3b067_0 rfl 1 rfl ?_
  refine r_aload_n h dJ1_charAt_3b067_1 rfl 0 rfl ?_
  refine r_strL h dJ1_charAt_3b067_2 ?_
  refine r_callS h [.int (vI x), .int (vI 107)] dJ1_charAt_3b067_3 (fun hs => m_s_ck hs rx hx) ml_s_ck cv_s_ck rfl ⟨Nat.le_of_ble_eq_true rfl, Nat.le_of_ble_eq_true rfl⟩ ⟨Nat.le_of_ble_eq_true rfl, Nat.le_of_ble_eq_true rfl⟩ (Nat.le_of_ble_eq_true rfl) rfl (fun ad' n' nl' r σ' hpo hrr hs => ?_)
  obtain ⟨rfl, rfl, rfl, rfl, rfl⟩ := hpo
  refine r_st (st0 := []) rfl ?_
  refine r_aload_n h dJ1_charAt_3b067_6 rfl 0 rfl ?_
  refine r_iload_n h dJ1_charAt_3b067_7 rfl 1 rfl ?_
  refine r_strB h dJ1_charAt_3b067_8 rx hx ?_
  refine r_sipush h dJ1_charAt_3b067_9 (by decide) ?_
  refine r_iand h dJ1_charAt_3b067_12 ?_
  refine r_i2c h dJ1_charAt_3b067_13 ?_
  have hk := kwc_b x.toNat (by omega)
  rw [hk.2.2]
  exact r_ret5 hr dJ1_charAt_3b067_14 ⟨hk.1, hk.2.1⟩ rfl
set_option maxRecDepth 20000 in
theorem m_s_charAt (hs0 : rS s0) {x : Int} (rx : rI x) (hx : 0 ≤ x ∧ x < 107) : w_MC l D cs aS aV A yJ0_charAt_5068e cJ0_charAt_5068e 2 5 rm_s3 ad n nl [.ref aS, .int (vI x)] s0 (w_Po ad n nl (kwc x.toNat, s0)) := by
  refine w_MC_of (by decide +kernel) (by decide) hs0 (Nat.le_of_ble_eq_true rfl) (fun K h hr => ?_)
  refine r_lv (lv' := [(0, .ref aS), (1, .int (vI x))]) rfl ?_
  refine r_aload_n h dJ0_charAt_5068e_0 rfl 0 rfl ?_
  refine r_callVS h [] dJ0_charAt_5068e_1 (fun hs => m_s_isLatin1 hs) ml_s_isL cv_s_isLatin1 rfl rfl ⟨Nat.le_of_ble_eq_true rfl, Nat.le_of_ble_eq_true rfl⟩ ⟨Nat.le_of_ble_eq_true rfl, Nat.le_of_ble_eq_true rfl⟩ (Nat.le_of_ble_eq_true rfl) rfl (fun ad' n' nl' r σ' hpo hrr hs => ?_)
  obtain ⟨rfl, rfl, rfl, rfl, rfl⟩ := hpo
  refine r_st (st0 := [.int (vI 1)]) rfl ?_
  refine r_if_eq (tgt := 16) h dJ0_charAt_5068e_4 (by decide) (rIc rfl) (fun z => absurd z (by decide)) (fun _ => ?_)
  refine r_aload_n h dJ0_charAt_5068e_7 rfl 0 rfl ?_
  refine r_strV h dJ0_charAt_5068e_8 fl_s_va ?_
  refine r_iload_n h dJ0_charAt_5068e_11 rfl 1 rfl ?_
  refine r_callS h [.ref aV, .int (vI x)] dJ0_charAt_5068e_12 (fun hs => m_s_l1 hs rx hx) ml_s_l1 cv_s_l1 rfl ⟨Nat.le_of_ble_eq_true rfl, Nat.le_of_ble_eq_true rfl⟩ ⟨Nat.le_of_ble_eq_true rfl, Nat.le_of_ble_eq_true rfl⟩ (Nat.le_of_ble_eq_true rfl) rfl (fun ad' n' nl' r σ' hpo hrr hs => ?_)
  obtain ⟨rfl, rfl, rfl, rfl, rfl⟩ := hpo
  refine r_st (st0 := [.int (vI (kwc x.toNat))]) rfl ?_
  exact r_ret5 hr dJ0_charAt_5068e_15 hrr rfl
end SR
section SR2
variable {l : Launch} {R : Room} {D : va_G} {cs : Nat → ClassId} {aS aV : Nat} {A : Nat → Prop} {cc : ByteArray} {nL : Nat} {nm : String} {K : KT}
variable {ad : Nat → Nat} {n : Nat} {nl : Nat → Nat → Bool} {ce sl pc : Nat} {lv : List (Nat × Value)} {st : List Value} {σ : SS}
theorem r_kwlen (h : w_Cl l R D cs aS aV A cc nL RX10 nm K) (hd : decode cc pc = .ok (.invokevirtual 66, 3)) (hR : rm_s1.frames + 1 ≤ R.frames ∧ 8 + (1 + 11) + rm_s1.locals ≤ R.locals) (hcs : ce ≤ R.cells ∧ sl ≤ R.slots) (hst : (st.map fun v => v.category).sum ≤ 8) (kk : K ad n nl ce sl (pc + 3) lv (.int (vI 107) :: st) σ) : K ad n nl ce sl pc lv (.ref aS :: st) σ := by
  refine r_callVS (y := yJ0_length_8abf5) (rm2 := rm_s1) h [] hd (fun hs => m_s_length hs) ml_s_len cv_s_length rfl rfl hR hcs hst rfl (fun ad' n' nl' r σ' hpo hrr hs => ?_)
  obtain ⟨rfl, rfl, rfl, rfl, rfl⟩ := hpo
  exact kk
set_option maxRecDepth 20000 in
theorem r_kwat (h : w_Cl l R D cs aS aV A cc nL RX10 nm K) {x : Int} (hd : decode cc pc = .ok (.invokevirtual 71, 3)) (rx : rI x) (hx : 0 ≤ x ∧ x < 107) (hR : rm_s3.frames + 1 ≤ R.frames ∧ 8 + (2 + 11) + rm_s3.locals ≤ R.locals) (hcs : ce ≤ R.cells ∧ sl ≤ R.slots) (hst : (st.map fun v => v.category).sum ≤ 8) (kk : K ad n nl ce sl (pc + 3) lv (.int (vI (kwc x.toNat)) :: st) σ) : K ad n nl ce sl pc lv (.int (vI x) :: .ref aS :: st) σ := by
  refine r_callVS (y := yJ0_charAt_5068e) (rm2 := rm_s3) h [.int (vI x)] hd (fun hs => m_s_charAt hs rx hx) ml_s_at cv_s_charAt rfl rfl hR hcs hst rfl (fun ad' n' nl' r σ' hpo hrr hs => ?_)
  obtain ⟨rfl, rfl, rfl, rfl, rfl⟩ := hpo
  exact kk
end SR2
