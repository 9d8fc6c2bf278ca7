/-! THE CLAIM OUT OF ONE WALK OF THE LAW'S BODY. Your part is whole_start (and what it stands on); all else here is the same for every law, but numbers. -/
def R_law : String := "QuarrelMilesLaw"
def lw_P (b : Addr) (xs : List Int32) (args : Array Value) (s : State) : Prop := args = #[.ref b] ∧ s.IntsAt b xs ∧ xs.length ≤ 3584 ∧ (Jvm.Cond.and given_1 narrow_1).before args s = true
def lw_Q (_ : Array Value) (s : State) (o : Outcome) (t : State) : Prop := o = .returned (some (.int 1)) ∧ Framed s o t [] 138 14691
def lw_Z (below : List Frame) (a : Array Value) (s : State) : State → Prop := fun t => ∃ o, t.status = .running ∧ Ended t below o ∧ lw_Q a s o t
/-- the law's own end, with 1 on the stack, nothing written that was there before, its room as the claim has it -/
theorem lw_ret {p : Program} {l : Launch} {e : Env} {s : State} {m : MethodId} {below : List Frame} {meth : Method} {c : Code} {b : Nat} (hx : p.tables.exec = Jvm.exec) (hb : c.code = code) (hr : meth.sig.returnType = ret) (hlocks : meth.locks = false) {pc : Nat} {H : Heap} {ls : Array Slot} (hdg : decode code pc = .ok (.ireturn, 1)) : W p l e room_1 s m #[Value.ref b] below meth c H [] 138 14691 (lw_Z below #[Value.ref b] s) (F0 m pc ls [.int 1]) := by
  intro T hT X
  obtain ⟨fs, hret, hrun, hended, hW, hframe⟩ := X.leave (v := some (.int 1)) (hlocks := hlocks) (fun h => by rw [hr] at h; cases h)
  have hmeth' : T.vm.method? m = some meth := X.method'
  refine ⟨T.setFrames fs, ?_, .returned (some (.int 1)), hrun, hended, rfl, ⟨_, rfl⟩, hW, hframe⟩
  jvm_step X.here [X.here.top, hx, hb, hdg, hmeth', hr, ret, narrow_b1]
  (try refine ⟨rfl, ?_⟩); (try refine ⟨rfl, ?_⟩)
  first | (intro acts; rw [hret _ acts rfl rfl rfl]) | rw [hret _ _ rfl rfl rfl]
  exact Steps.refl _
/-- what holds at the law's entry: the machine, the code, the tables' words (any of lw_tbl by 'hts w (by decide +kernel)'), the script of L ints xs at the cell b, what the Statement gives of the start (any of its parts by flat_of_before) -/
def lw_At (p : Program) (s : State) (m : MethodId) (meth : Method) (c : Code) (b L : Nat) (xs : Nat → Int32) : Prop :=
  p.tables.exec = Jvm.exec ∧ c.code = code ∧ meth.sig.returnType = ret ∧ c.maxLocals = 4 ∧ s.vm.findClass R_law = some m.cls ∧ (∀ w ∈ lw_tbl, w.before #[Value.ref b] s = true) ∧ va_X b L xs s s.heap ∧ b < s.heap.size ∧ meth.locks = false ∧ (Jvm.Cond.and given_1 narrow_1).before #[Value.ref b] s = true
theorem tb_in1 (i : Nat) {w : Cond} (h : tables_1_1[i]? = some w) : w ∈ lw_tbl := List.mem_append_right _ (by have h := List.mem_of_getElem? h; exact (List.mem_append_left _ h))
theorem tb_in2 (i : Nat) {w : Cond} (h : tables_1_2[i]? = some w) : w ∈ lw_tbl := List.mem_append_right _ (by have h := List.mem_of_getElem? h; exact (List.mem_append_right _ (List.mem_append_left _ h)))
theorem tb_in3 (i : Nat) {w : Cond} (h : tables_1_3[i]? = some w) : w ∈ lw_tbl := List.mem_append_right _ (by have h := List.mem_of_getElem? h; exact (List.mem_append_right _ (List.mem_append_right _ (List.mem_append_left _ h))))
theorem tb_in4 (i : Nat) {w : Cond} (h : tables_1_4[i]? = some w) : w ∈ lw_tbl := List.mem_append_right _ (by have h := List.mem_of_getElem? h; exact (List.mem_append_right _ (List.mem_append_right _ (List.mem_append_right _ (List.mem_append_left _ h)))))
theorem tb_in5 (i : Nat) {w : Cond} (h : tables_1_5[i]? = some w) : w ∈ lw_tbl := List.mem_append_right _ (by have h := List.mem_of_getElem? h; exact (List.mem_append_right _ (List.mem_append_right _ (List.mem_append_right _ (List.mem_append_right _ (List.mem_append_left _ h))))))
theorem tb_in6 (i : Nat) {w : Cond} (h : tables_1_6[i]? = some w) : w ∈ lw_tbl := List.mem_append_right _ (by have h := List.mem_of_getElem? h; exact (List.mem_append_right _ (List.mem_append_right _ (List.mem_append_right _ (List.mem_append_right _ (List.mem_append_right _ (List.mem_append_left _ h)))))))
theorem tb_in7 (i : Nat) {w : Cond} (h : tables_1_7[i]? = some w) : w ∈ lw_tbl := List.mem_append_right _ (by have h := List.mem_of_getElem? h; exact (List.mem_append_right _ (List.mem_append_right _ (List.mem_append_right _ (List.mem_append_right _ (List.mem_append_right _ (List.mem_append_right _ (List.mem_append_left _ h))))))))
theorem tb_in8 (i : Nat) {w : Cond} (h : tables_1_8[i]? = some w) : w ∈ lw_tbl := List.mem_append_right _ (by have h := List.mem_of_getElem? h; exact (List.mem_append_right _ (List.mem_append_right _ (List.mem_append_right _ (List.mem_append_right _ (List.mem_append_right _ (List.mem_append_right _ (List.mem_append_right _ (List.mem_append_left _ h)))))))))
theorem tb_in9 (i : Nat) {w : Cond} (h : tables_1_9[i]? = some w) : w ∈ lw_tbl := List.mem_append_right _ (by have h := List.mem_of_getElem? h; exact (List.mem_append_right _ (List.mem_append_right _ (List.mem_append_right _ (List.mem_append_right _ (List.mem_append_right _ (List.mem_append_right _ (List.mem_append_right _ (List.mem_append_right _ h)))))))))
set_option maxRecDepth 100000 in
theorem tw_n1 : (Cond.methodLinkNest RX11 19 yX4_init RX11) ∈ lw_tbl := tb_in1 30 rfl
set_option maxRecDepth 100000 in
theorem tw_n2 : (Cond.methodLinkNest RX4 54 yX2_init RX11) ∈ lw_tbl := tb_in1 36 rfl
set_option maxRecDepth 100000 in
theorem tw_n3 : (Cond.methodLinkNest RX10 15 yX11_within RX11) ∈ lw_tbl := tb_in3 98 rfl
set_option maxRecDepth 100000 in
theorem tw_n4 : (Cond.methodLinkNest RX9 44 yX11_within RX11) ∈ lw_tbl := tb_in4 106 rfl
set_option maxRecDepth 100000 in
theorem tw_sr : (Cond.stringRef RX10 64 KWS) ∈ lw_tbl := tb_in3 120 rfl
set_option maxRecDepth 100000 in
theorem tw_lc : (Cond.laysStatic "java/lang/String" "COMPACT_STRINGS" "Z") ∈ lw_tbl := tb_in3 130 rfl
set_option maxRecDepth 100000 in
theorem tw_ls : (Cond.laysStatic "jdk/internal/util/Preconditions" "SIOOBE_FORMATTER" "Ljava/util/function/BiFunction;") ∈ lw_tbl := tb_in3 146 rfl
set_option maxRecDepth 100000 in
theorem tw_ic : (Cond.initialized "java/lang/String") ∈ lw_tbl := tb_in1 14 rfl
set_option maxRecDepth 100000 in
theorem tw_is : (Cond.initialized "jdk/internal/util/Preconditions") ∈ lw_tbl := tb_in1 16 rfl
/-- the world before anything is made: zeros -/
def zS : SS := (fun _ _ => 0, fun _ _ => 0)
/-- the law as a function of the script -/
noncomputable def f_whole (xs : Nat → Int32) (L : Nat) : OO :=
  os (zr zS 0) fun s1 =>
  ob (f_Qu_init_0 s1) fun _ s2 =>
  os (zr s2 86) fun s3 =>
  ob (f_Mo_init_86 s3) fun _ s4 =>
  l_Law_18 xs L FU 0 s4
def tmS : Nat → Term := fun _ => Term.string RX10 64
set_option maxRecDepth 100000 in
theorem st_ex : Cond.exactly (.string RX10 64) "java/lang/String" ∈ flatC (Jvm.Cond.and given_1 narrow_1) := by decide +kernel
set_option maxRecDepth 100000 in
theorem st_co : Cond.eq (.field (.string RX10 64) "java/lang/String" "coder" "B") (.int 0) ∈ flatC (Jvm.Cond.and given_1 narrow_1) := by decide +kernel
set_option maxRecDepth 100000 in
theorem st_ar : Cond.arrayOf (.field (.string RX10 64) "java/lang/String" "value" "[B") .byte ∈ flatC (Jvm.Cond.and given_1 narrow_1) := by decide +kernel
set_option maxRecDepth 100000 in
theorem st_le : Cond.eq (.length (.field (.string RX10 64) "java/lang/String" "value" "[B")) (.int (Int32.ofNat 107)) ∈ flatC (Jvm.Cond.and given_1 narrow_1) := by decide +kernel
set_option maxRecDepth 100000 in
theorem st_cs : Cond.eq (.static "java/lang/String" "COMPACT_STRINGS" "Z") (.int 1) ∈ flatC (Jvm.Cond.and given_1 narrow_1) := by decide +kernel
set_option maxRecDepth 100000 in
theorem st_sf : Cond.isRef (.static "jdk/internal/util/Preconditions" "SIOOBE_FORMATTER" "Ljava/util/function/BiFunction;") ∈ flatC (Jvm.Cond.and given_1 narrow_1) := by decide +kernel
set_option maxRecDepth 100000 in
theorem st_el : ∀ j, j < 107 → Cond.eq (.elem (.field (.string RX10 64) "java/lang/String" "value" "[B") (.int (Int32.ofNat j))) (.int (KWB.getD j 0)) ∈ flatC (Jvm.Cond.and given_1 narrow_1) := by decide +kernel
theorem whWH : w_WH 138 (nlE 148) := nlE_WH (by decide +kernel) (by decide +kernel)
theorem whW0 : w_W0 138 (nlE 148) := by
  refine ⟨whWH, by decide, fun k hk => ?_⟩
  have h : ((List.range 90).all fun k => !(vt 11 k == 2) || nlE 148 0 k) = true := by decide +kernel
  by_cases h90 : k < 90
  · have := List.all_eq_true.mp h k (List.mem_range.mpr h90)
    simpa [hk] using this
  · rw [vt_out 11 (by decide) k (by omega)] at hk
    exact absurd hk (by decide)
theorem w_EV_of {args : Array Value} {s : State} (hts : ∀ w ∈ lw_tbl, w.before args s = true) (hgv : (Jvm.Cond.and given_1 narrow_1).before args s = true) : ∃ aS aV : Nat, w_EV aS aV (fun q : Nat => s.heap.size ≤ q) s := by
  have hs := flat_of_before _ hgv
  have hA : ∀ a : Nat, a < s.heap.size → ¬ (fun q : Nat => s.heap.size ≤ q) a := fun a h => Nat.not_le.mpr h
  obtain ⟨adK, adV, h1, h2⟩ := vk_Sof (args := args) (s := s) (N := 1) (tm := tmS) (len := [107]) (byt := [KWB]) (A := fun q : Nat => s.heap.size ≤ q)
    (fun i hi => by have : i = 0 := by omega
                    subst this; decide)
    (fun i hi => hs _ st_ex) (fun i hi => hs _ st_co) (fun i hi => hs _ st_ar)
    (fun i hi => by have : i = 0 := by omega
                    subst this; exact hs _ st_le)
    (fun i hi j hj => by have : i = 0 := by omega
                         subst this; exact hs _ (st_el j hj))
    (fun i j hi hj hij => by omega) hA
  refine ⟨adK 0, adV 0, va_Nw.of rfl (hts _ tw_n1), va_Nw.of rfl (hts _ tw_n2), va_Nw.of rfl (hts _ tw_n3), va_Nw.of rfl (hts _ tw_n4), ?_, ?_, ?_, ?_⟩
  · exact vk_R.of (hts _ tw_sr) (h2 0 (by decide))
  · refine ⟨fun i hi => ?_, fun i j hi hj _ => by omega⟩
    have : i = 0 := by omega
    subst this
    exact h1.1 0 (by decide)
  · exact va_Zof (hts _ tw_lc) (hts _ tw_ic) (va_eqi (hs _ st_cs)) hA
  · exact va_Zqof (hts _ tw_ls) (hts _ tw_is) (hs _ st_sf) hA
theorem w_arrs {args : Array Value} {s : State} (hts : ∀ w ∈ lw_tbl, w.before args s = true) : ∃ cs : Nat → ClassId, ∀ (k : Nat) (q : ClassId × FieldType), (w_ty cs)[k]? = some q → ArrOfT s q.1 q.2 ∧ va_RA s q.1 q.2 := by
  have key : ∀ ty : FieldType, Cond.arrayClass ty ∈ GT → ∃ c : ClassId, ArrOfT s c ty ∧ s.vm.findClass ("[" ++ ty.toString) = some c := by
    intro ty hm
    obtain ⟨c, k, comp, h1, h2, h3⟩ := Cond.arrayClass_spec (hts _ (List.mem_filter.mp hm).1)
    exact ⟨c, fun n z => ⟨fun k h => (by cases h), k, h2, comp, h3⟩, h1⟩
  obtain ⟨c1, a1, b1⟩ := key .byte ac_byte
  obtain ⟨c2, a2, b2⟩ := key .int ac_int
  obtain ⟨c3, a3, b3⟩ := key .long ac_long
  obtain ⟨c4, a4, b4⟩ := key .boolean ac_boolean
  refine ⟨fun k => if k = 13 then c1 else if k = 14 then c2 else if k = 15 then c3 else c4, fun k q hq => ?_⟩
  match k, hq with
  | 0, hq => cases hq; exact ⟨a1, b1⟩
  | 1, hq => cases hq; exact ⟨a2, b2⟩
  | 2, hq => cases hq; exact ⟨a3, b3⟩
  | 3, hq => cases hq; exact ⟨a4, b4⟩
  | k + 4, hq => simp [w_ty] at hq
set_option maxRecDepth 100000 in
theorem iw_0 : Cond.instantiable RX0 14 ∈ GT := gt_in2 13 rfl rfl
set_option maxRecDepth 100000 in
theorem iw_1 : Cond.instantiable RX1 20 ∈ GT := gt_in2 172 rfl rfl
set_option maxRecDepth 100000 in
theorem iw_2 : Cond.instantiable RX2 4 ∈ GT := gt_in1 35 rfl rfl
set_option maxRecDepth 100000 in
theorem iw_3 : Cond.instantiable RX3 5 ∈ GT := gt_in1 210 rfl rfl
set_option maxRecDepth 100000 in
theorem iw_4 : Cond.instantiable RX4 20 ∈ GT := gt_in1 29 rfl rfl
set_option maxRecDepth 100000 in
theorem iw_5 : Cond.instantiable RX5 6 ∈ GT := gt_in1 170 rfl rfl
set_option maxRecDepth 100000 in
theorem iw_6 : Cond.instantiable RX6 7 ∈ GT := gt_in3 4 rfl rfl
set_option maxRecDepth 100000 in
theorem iw_7 : Cond.instantiable RX7 4 ∈ GT := gt_in2 120 rfl rfl
set_option maxRecDepth 100000 in
theorem iw_8 : Cond.instantiable RX8 4 ∈ GT := gt_in2 147 rfl rfl
set_option maxRecDepth 100000 in
theorem iw_9 : Cond.instantiable RX9 7 ∈ GT := gt_in2 19 rfl rfl
set_option maxRecDepth 100000 in
theorem iw_10 : Cond.instantiable RX10 7 ∈ GT := gt_in1 172 rfl rfl
set_option maxRecDepth 100000 in
theorem iw_11 : Cond.instantiable RX11 10 ∈ GT := gt_in1 21 rfl rfl
set_option maxRecDepth 100000 in
theorem iw_12 : Cond.instantiable RX12 84 ∈ GT := gt_in6 76 rfl rfl
theorem w_clss {args : Array Value} {s : State} (hg : ∀ w ∈ GT, w.before args s = true) : ∃ D : va_G, ∀ (k : Nat) (q : vw_C), vwCl[k]? = some q → u_Kn s q.1 q.2.1 q.2.2 (D.1 k) (D.2 k) := by
  obtain ⟨c0, i0, k0⟩ := u_known (ws := GT) (C := RX0) (T := TX0) (N := 14) (n := 14) hg inG0 (hg _ iw_0)
  obtain ⟨c1, i1, k1⟩ := u_known (ws := GT) (C := RX1) (T := TX1) (N := 20) (n := 20) hg inG1 (hg _ iw_1)
  obtain ⟨c2, i2, k2⟩ := u_known (ws := GT) (C := RX2) (T := TX2) (N := 4) (n := 4) hg inG2 (hg _ iw_2)
  obtain ⟨c3, i3, k3⟩ := u_known (ws := GT) (C := RX3) (T := TX3) (N := 5) (n := 5) hg inG3 (hg _ iw_3)
  obtain ⟨c4, i4, k4⟩ := u_known (ws := GT) (C := RX4) (T := TX4) (N := 20) (n := 20) hg inG4 (hg _ iw_4)
  obtain ⟨c5, i5, k5⟩ := u_known (ws := GT) (C := RX5) (T := TX5) (N := 6) (n := 6) hg inG5 (hg _ iw_5)
  obtain ⟨c6, i6, k6⟩ := u_known (ws := GT) (C := RX6) (T := TX6) (N := 7) (n := 7) hg inG6 (hg _ iw_6)
  obtain ⟨c7, i7, k7⟩ := u_known (ws := GT) (C := RX7) (T := TX7) (N := 4) (n := 4) hg inG7 (hg _ iw_7)
  obtain ⟨c8, i8, k8⟩ := u_known (ws := GT) (C := RX8) (T := TX8) (N := 4) (n := 4) hg inG8 (hg _ iw_8)
  obtain ⟨c9, i9, k9⟩ := u_known (ws := GT) (C := RX9) (T := TX9) (N := 7) (n := 7) hg inG9 (hg _ iw_9)
  obtain ⟨c10, i10, k10⟩ := u_known (ws := GT) (C := RX10) (T := TX10) (N := 7) (n := 7) hg inG10 (hg _ iw_10)
  obtain ⟨c11, i11, k11⟩ := u_known (ws := GT) (C := RX11) (T := TX11) (N := 10) (n := 10) hg inG11 (hg _ iw_11)
  obtain ⟨c12, i12, k12⟩ := u_known (ws := GT) (C := RX12) (T := TX12) (N := 84) (n := 84) hg inG12 (hg _ iw_12)
  refine ⟨(fun k => if k = 0 then c0 else if k = 1 then c1 else if k = 2 then c2 else if k = 3 then c3 else if k = 4 then c4 else if k = 5 then c5 else if k = 6 then c6 else if k = 7 then c7 else if k = 8 then c8 else if k = 9 then c9 else if k = 10 then c10 else if k = 11 then c11 else c12, fun k => if k = 0 then i0 else if k = 1 then i1 else if k = 2 then i2 else if k = 3 then i3 else if k = 4 then i4 else if k = 5 then i5 else if k = 6 then i6 else if k = 7 then i7 else if k = 8 then i8 else if k = 9 then i9 else if k = 10 then i10 else if k = 11 then i11 else i12), ?_⟩
  intro k q hq
  match k, hq with
  | 0, hq => cases hq; exact k0
  | 1, hq => cases hq; exact k1
  | 2, hq => cases hq; exact k2
  | 3, hq => cases hq; exact k3
  | 4, hq => cases hq; exact k4
  | 5, hq => cases hq; exact k5
  | 6, hq => cases hq; exact k6
  | 7, hq => cases hq; exact k7
  | 8, hq => cases hq; exact k8
  | 9, hq => cases hq; exact k9
  | 10, hq => cases hq; exact k10
  | 11, hq => cases hq; exact k11
  | 12, hq => cases hq; exact k12
  | k + 13, hq => simp [vwCl] at hq
set_option maxRecDepth 100000 in
set_option maxHeartbeats 4000000 in
theorem whole_open (hpure : ∀ (xs : Nat → Int32) (L : Nat), L ≤ 3584 → ∃ τ : SS, f_whole xs L = some (1, τ)) {p : Program} {e : Env} {s : State} {m : MethodId} {below : List Frame} {meth : Method} {c : Code} (l : Launch) {b L : Nat} {xs : Nat → Int32} (hL : L ≤ 3584) (C0 : lw_At p s m meth c b L xs) : W p l e room_1 s m #[Value.ref b] below meth c s.heap [] 0 0 (lw_Z below #[Value.ref b] s) (entryFrame m ([Value.ref b] : List Value).toArray 4) := by
  obtain ⟨hx, hb, hrt, hml, hown, hts, hX, hbl, hlocks, hgv⟩ := C0
  obtain ⟨aS, aV, hE⟩ := w_EV_of hts hgv
  obtain ⟨cs, hcs⟩ := w_arrs hts
  have hg : ∀ w ∈ GT, w.before #[Value.ref b] s = true := fun w hw => hts w (List.mem_filter.mp hw).1
  obtain ⟨D, hD0⟩ := w_clss hg
  have hK : va_K D vwCl (w_ty cs) s := ⟨hD0, hcs⟩
  have hbA : ¬ (fun q : Nat => s.heap.size ≤ q) b := Nat.not_le.mpr hbl
  obtain ⟨τ, hf⟩ := hpure xs L hL
  have C : w_CX p s m #[Value.ref b] meth c cL_law 4 RL meth.name D cs aS aV (fun q : Nat => s.heap.size ≤ q) := ⟨hx, hb, hml, hown, hg, hK, hlocks, fun q h => h, hE, rfl⟩
  rw [lg_entry_eq]
  have start : ∀ K : KT, K = (fun ad n nl ce sl pc lv st σ => w_GG p l e room_1 s m #[Value.ref b] below meth c D cs (fun q : Nat => s.heap.size ≤ q) 4 (lw_Z below #[Value.ref b] s) ad n nl ce sl pc lv st σ) → K (fun _ => 0) 0 (nlE 0) 0 0 0 [(0, .ref b)] [] zS := by
    intro K hKe
    have h : w_Cl l room_1 D cs aS aV (fun q : Nat => s.heap.size ≤ q) cL_law 4 RL meth.name K := ⟨p, e, s, m, _, below, meth, c, _, C, hKe⟩
    have hr : w_LR b L xs K := by
      subst hKe
      refine ⟨?_, ?_, ?_⟩
      · intro ad n nl ce sl pc lv st σ i hd hi hin kk hσ H locs ls hP hD hS hv
        have k2 := kk hσ H locs ls hP hD hS hv
        rw [vI_of, ← vI_clamp hi hin.1] at k2
        exact va_sld hx hb hX hbl hbA hS (vI_in hi hin) hd k2
      · intro ad n nl ce sl pc lv st σ hd kk hσ H locs ls hP hD hS hv
        have k2 := kk hσ H locs ls hP hD hS hv
        rw [show vI (L : Int) = nI L from Int32.ofInt_eq_ofNat] at k2
        exact va_slen hx hb hX hbl hbA hS hd k2
      · intro ad n nl pc lv σ hd hσ H locs ls hP hD hS hv
        refine va_forget (fun q hq => hS.2.2 q hq) ?_
        exact lw_ret hx hb hrt hlocks hd
    unfold f_whole at hf
    refine r_new (T := TX11) (N := 10) (co := 11) (Cn := RX11) h dL_law_0 nw_L_7.1 nw_L_7.2.1 nw_L_7.2.2 inG11 tyX11 tyX11_ok rfl (by decide) rC_0 rN_0 dv_11 (nlE_no (by decide +kernel)) (nlE_cl (by decide +kernel)) (Nat.le_of_ble_eq_true rfl) (Nat.le_of_ble_eq_true rfl) (fun ad1 hE1 => ?_)
    refine r_os hf (fun s1 hf => ?_)
    refine r_rS h (fun hs1 => ?_)
    refine r_dup h dL_law_3 rfl ?_
    obtain ⟨r2, s2, hq2, hf⟩ := ob_some hf
    refine r_callI h [] dL_law_4 (fun hs => m_Qu_init_0 hs hq2) ml_L_9 cv_i_Qu rfl ⟨Nat.le_of_ble_eq_true rfl, Nat.le_of_ble_eq_true rfl⟩ ⟨Nat.le_of_ble_eq_true rfl, Nat.le_of_ble_eq_true rfl⟩ (Nat.le_of_ble_eq_true rfl) rfl (fun ad2 n' nl' r' σ' hpo hs2 => ?_)
    obtain ⟨hE2, rfl, rfl, rfl, rfl⟩ := hpo
    refine r_st (st0 := [.ref (ad2 0)]) (by rw [hE2 0 (by decide)]) ?_
    refine r_astore_n h [(1, .ref (ad2 0)), (0, .ref b)] dL_law_7 rfl (by decide) rfl ?_
    refine r_new (T := TX12) (N := 84) (co := 12) (Cn := RX12) h dL_law_8 nw_L_10.1 nw_L_10.2.1 nw_L_10.2.2 inG12 tyX12 tyX12_ok rfl (by decide) rC_86 rN_86 dv_12 (nlE_no (by decide +kernel)) (nlE_cl (by decide +kernel)) (Nat.le_of_ble_eq_true rfl) (Nat.le_of_ble_eq_true rfl) (fun ad3 hE3 => ?_)
    refine r_lv (lv' := [(1, .ref (ad3 0)), (0, .ref b)]) (by rw [hE3 0 (by decide)]) ?_
    refine r_os hf (fun s3 hf => ?_)
    refine r_rS h (fun hs3 => ?_)
    refine r_dup h dL_law_11 rfl ?_
    obtain ⟨r4, s4, hq4, hf⟩ := ob_some hf
    refine r_callI h [] dL_law_12 (fun hs => m_Mo_init_86 hs hq4) ml_L_12 cv_i_Mo rfl ⟨Nat.le_of_ble_eq_true rfl, Nat.le_of_ble_eq_true rfl⟩ ⟨Nat.le_of_ble_eq_true rfl, Nat.le_of_ble_eq_true rfl⟩ (Nat.le_of_ble_eq_true rfl) rfl (fun ad4 n' nl' r' σ' hpo hs4 => ?_)
    obtain ⟨hE4, rfl, rfl, rfl, rfl⟩ := hpo
    refine r_st (st0 := [.ref (ad4 86)]) (by rw [hE4 86 (by decide)]) ?_
    refine r_lv (lv' := [(1, .ref (ad4 0)), (0, .ref b)]) (by rw [hE4 0 (by decide)]) ?_
    refine r_astore_n h [(2, .ref (ad4 86)), (1, .ref (ad4 0)), (0, .ref b)] dL_law_15 rfl (by decide) rfl ?_
    refine r_iconst h dL_law_16 ?_
    refine r_istore_n h [(3, .int (vI 0)), (2, .ref (ad4 86)), (1, .ref (ad4 0)), (0, .ref b)] dL_law_17 rfl (by decide) rfl ?_
    refine r_sub h [3, 2, 1, 0] rfl ?_
    exact b_Law_18 (out := (1, τ)) rfl hL h hr whW0 FU 0 _ (rIc rfl) hf
  exact start _ rfl ⟨fun _ _ => rIc rfl, fun _ _ => rJc rfl⟩ s.heap [] _ (fun k q hq => by simp [w_wl] at hq) ⟨fun i j p q hp => by simp [w_wl] at hp, fun k q hq => by simp [w_wl] at hq⟩ va_S.rf (lv_entry ([.ref b]) (n := 4) (Nat.le_of_ble_eq_true rfl))
