/-! calls -/
theorem gt_good2 {y2 : MethodName} {c2 : ByteArray} {mL2 : Nat} {ret2 : Option FieldType} (h : Cond.code y2 c2 mL2 ret2 ∈ GT) : GoodIn GT (.code y2 c2 mL2 ret2 :: GT) := by
  intro w hw
  rcases List.mem_cons.mp hw with e | e
  · subst e
    exact ⟨h, good_of_word (List.mem_filter.mp h).2⟩
  · exact ⟨e, good_of_word (List.mem_filter.mp e).2⟩
/-- what a call wants of the callee: code, made class, how many arguments -/
def w_CB (y : MethodName) (cc : ByteArray) (mL k na : Nat) : Prop := Cond.code y cc mL (rt k) ∈ GT ∧ Cond.initialized y.cls ∈ GT ∧ (y.cls ≠ "java/lang/invoke/MethodHandle" ∧ y.cls ≠ "java/lang/invoke/VarHandle") ∧ (parseMethodDescriptor y.desc).map (fun d => d.parameters.length) = some na
def w_CV (y : MethodName) (cc : ByteArray) (mL k na : Nat) : Prop := w_CB y cc mL k na ∧ Cond.instanceMethod y ∈ GT ∧ Cond.selects y.cls y y ∈ GT
def w_CI (y : MethodName) (cc : ByteArray) (mL na : Nat) : Prop := w_CB y cc mL 0 na ∧ Cond.instanceMethod y ∈ GT ∧ y.name = "<init>"
def w_CS (y : MethodName) (cc : ByteArray) (mL k na : Nat) : Prop := w_CB y cc mL k na ∧ Cond.static y ∈ GT
theorem rv_tl (k : Nat) (r : Int) : (rv k r).head?.toList = rv k r := by
  unfold rv
  by_cases h0 : k = 0
  · simp [h0]
  · by_cases h3 : k = 3
    · simp [h3]
    · simp [h0, h3]
section CW
variable {p : Program} {l : Launch} {e : Env} {R : Room} {s : State} {m : MethodId} {args : Array Value} {below : List Frame} {meth : Method} {c : Code} {H : Heap} {locs : List Loc} {ce sl : Nat} {Q : State → Prop}
variable {D : va_G} {cs : Nat → ClassId} {aS aV : Nat} {A : Nat → Prop} {cc : ByteArray} {nL : Nat} {own nm : String} {ad : Nat → Nat} {n : Nat} {nl : Nat → Nat → Bool} {σ : SS} {ls : Array Slot} {st0 st : List Value} {pc k : Nat} {a : Array Value} {Po : PT} {mc ms : Nat}
theorem w_run (hr : va_Run p l e R s m args below meth c H locs ce sl mc ms (F0 m pc ls st0) st (w_QC k D cs A Po a) A) (hS : va_S A s.heap H locs)
    (kk : ∀ (ad' : Nat → Nat) (n' : Nat) (nl' : Nat → Nat → Bool) (r : Int) (σ' : SS), Po ad' n' nl' r σ' → rr k r → rS σ' → ∀ (H1 : Heap) (locs1 : List Loc), va_P D vwCl (w_wl cs ad' nl' σ' n') H1 → va_D A (w_wl cs ad' nl' σ' n') → va_S A s.heap H1 locs1 → W p l e R s m args below meth c H1 locs1 (ce + mc) (sl + ms) Q (F0 m (pc + 3) ls (rv k r ++ st))) :
    W p l e R s m args below meth c H locs ce sl Q (F0 m pc ls st0) := by
  intro T hT X
  obtain ⟨v, st₀, t, T', L, h0, X', hL, e1, e2, ⟨⟨ad', n', nl', r, σ', hv, hpo, hrr, hσ', hP', hD'⟩, hz, hk⟩, stp⟩ := hr T hT X
  have hv2 : v = (rv k r).head? := by injection hv
  subst hv2
  rw [h0] at hz hk
  rw [← e1] at hP'
  rw [rv_tl] at stp
  obtain ⟨t2, a1, b1⟩ := kk ad' n' nl' r σ' hpo hrr hσ' T'.heap (locs ++ L) hP' hD'
    ⟨Nat.le_trans hS.1 (by rw [e1]; exact hz), fun q h1 h2 => by rw [e1, hk q (Nat.lt_of_lt_of_le h1 hS.1) h2]; exact hS.2.1 q h1 h2, fun q hq => by
      rcases List.mem_append.mp hq with h | h
      · exact hS.2.2 q h
      · exact hL q h⟩ T' rfl X'
  exact ⟨t2, stp t2 a1, b1⟩
theorem w_pre (C : w_CX p s m args meth c cc nL own nm D cs aS aV A) (hP : va_P D vwCl (w_wl cs ad nl σ n) H) (hD : va_D A (w_wl cs ad nl σ n)) (hS : va_S A s.heap H locs) (as : List Value) : ∀ U : State, U.heap = H → s.WarmedH U.vm → w_Pc D cs aS aV A ad n nl as σ as.toArray U := by
  intro U hU hW
  refine ⟨rfl, C.2.2.2.2.2.2.2.2.1.warm hW (fun q h1 h2 => by rw [hU]; exact hS.2.1 q h1 h2), fun q hq => C.2.2.2.2.2.2.2.1 q (Nat.le_trans hS.1 (by rw [← hU]; exact hq)), va_K.moved hW.alike C.2.2.2.2.2.1, by rw [hU]; exact hP, hD⟩
theorem w_callB {y : MethodName} {cc2 : ByteArray} {mL2 na i : Nat} {rm2 : Room} (C : w_CX p s m args meth c cc nL own nm D cs aS aV A) (hw : w_CB y cc2 mL2 k na) (hl : Cond.methodLink own i y ∈ GT) (hR : rm2.frames + 1 ≤ R.frames ∧ 8 + (mL2 + 11) + rm2.locals ≤ R.locals) :
    CallB R s args own i y cc2 mL2 (rt k) (.code y cc2 mL2 (rt k) :: GT) rm2 rm2.cells rm2.slots na := by
  refine ⟨rfl, rfl, hR.1, hR.2, pay_in C.2.2.2.2.1 (gt_good2 hw.1), List.mem_cons_self, C.2.2.2.2.1 _ hw.1, C.2.2.2.2.1 _ hw.2.1, hw.2.2.1, fun sig h => ?_, C.2.2.2.2.1 _ hl⟩
  have h2 := hw.2.2.2
  rw [h] at h2
  exact (Option.some.inj h2).symm
theorem w_callN {y : MethodName} {host : String} {cc2 : ByteArray} {mL2 na i : Nat} {rm2 : Room} (C : w_CX p s m args meth c cc nL own nm D cs aS aV A) (hw : w_CB y cc2 mL2 k na) (hl : va_Nw (.methodLinkNest own i y host) s) (hR : rm2.frames + 1 ≤ R.frames ∧ 8 + (mL2 + 11) + rm2.locals ≤ R.locals) :
    va_CN R s args own i y host cc2 mL2 (rt k) (.code y cc2 mL2 (rt k) :: GT) rm2 rm2.cells rm2.slots na := by
  refine ⟨⟨rfl, rfl, hR.1, hR.2, pay_in C.2.2.2.2.1 (gt_good2 hw.1), List.mem_cons_self⟩, C.2.2.2.2.1 _ hw.1, C.2.2.2.2.1 _ hw.2.1, hw.2.2.1, fun sig h => ?_, va_Nw.use rfl hl⟩
  have h2 := hw.2.2.2
  rw [h] at h2
  exact (Option.some.inj h2).symm
end CW
section RC
variable {l : Launch} {R : Room} {D : va_G} {cs : Nat → ClassId} {aS aV : Nat} {A : Nat → Prop} {cc : ByteArray} {nL : Nat} {own nm : String} {K : KT}
variable {ad : Nat → Nat} {n : Nat} {nl : Nat → Nat → Bool} {ce sl pc : Nat} {lv : List (Nat × Value)} {st st0 : List Value} {σ : SS}
variable {y : MethodName} {cc2 : ByteArray} {mL2 k na i : Nat} {rm2 : Room} {Po : PT}
theorem r_callV (h : w_Cl l R D cs aS aV A cc nL own nm K) {t co : Nat} {T : u_T} {N : Nat} (As : List Value) (hd : decode cc pc = .ok (.invokevirtual i, 3)) (hM : rS σ → w_MC l D cs aS aV A y cc2 mL2 k rm2 ad n nl (.ref (ad t) :: As) σ Po) (hl : Cond.methodLink own i y ∈ GT) (hw : w_CV y cc2 mL2 k na) (hAs : As.length = na) (hc : vwCl[co]? = some (y.cls, T, N)) (hco : co < 13) (ht : t < n) (hC : rC t = co)
    (hR : rm2.frames + 1 ≤ R.frames ∧ 8 + (mL2 + 11) + rm2.locals ≤ R.locals) (hcs : ce + rm2.cells ≤ R.cells ∧ sl + rm2.slots ≤ R.slots) (hst : (st.map fun v => v.category).sum ≤ 8) (hst0 : st0 = As.reverse ++ .ref (ad t) :: st)
    (kk : ∀ (ad' : Nat → Nat) (n' : Nat) (nl' : Nat → Nat → Bool) (r : Int) (σ' : SS), Po ad' n' nl' r σ' → rr k r → rS σ' → K ad' n' nl' (ce + rm2.cells) (sl + rm2.slots) (pc + 3) lv (rv k r ++ st) σ') : K ad n nl ce sl pc lv st0 σ := by
  subst hst0
  obtain ⟨p, e, s, m, args, below, meth, c, Q, C, rfl⟩ := h
  intro hσ H locs ls hP hD hS hv
  refine w_run (va_runV (As := As) (rest := st) ⟨C.1, C.2.1, C.2.2.1, C.2.2.2.1, C.2.2.2.2.1⟩ (hM hσ) ⟨w_callB C hw.1 hl hR, C.2.2.2.2.1 _ hw.2.1, C.2.2.2.2.1 _ hw.2.2⟩ ⟨w_blind _ _ _ _ _ _ _ _ _ _, va_recv C.2.2.2.2.2.1 hP hc (q0 := t) (by rw [w_wl_at ht, w_obj hC hco]), w_pre C hP hD hS _⟩ rfl hAs hv.1 rfl (lv_room hst) hd hcs) hS ?_
  intro ad' n' nl' r σ' hpo hrr hσ' H1 locs1 hP1 hD1 hS1
  exact kk ad' n' nl' r σ' hpo hrr hσ' hσ' H1 locs1 ls hP1 hD1 hS1 hv
theorem r_callS (h : w_Cl l R D cs aS aV A cc nL own nm K) (As : List Value) (hd : decode cc pc = .ok (.invokestatic i, 3)) (hM : rS σ → w_MC l D cs aS aV A y cc2 mL2 k rm2 ad n nl As σ Po) (hl : Cond.methodLink own i y ∈ GT) (hw : w_CS y cc2 mL2 k na) (hAs : As.length = na)
    (hR : rm2.frames + 1 ≤ R.frames ∧ 8 + (mL2 + 11) + rm2.locals ≤ R.locals) (hcs : ce + rm2.cells ≤ R.cells ∧ sl + rm2.slots ≤ R.slots) (hst : (st.map fun v => v.category).sum ≤ 8) (hst0 : st0 = As.reverse ++ st)
    (kk : ∀ (ad' : Nat → Nat) (n' : Nat) (nl' : Nat → Nat → Bool) (r : Int) (σ' : SS), Po ad' n' nl' r σ' → rr k r → rS σ' → K ad' n' nl' (ce + rm2.cells) (sl + rm2.slots) (pc + 3) lv (rv k r ++ st) σ') : K ad n nl ce sl pc lv st0 σ := by
  subst hst0
  obtain ⟨p, e, s, m, args, below, meth, c, Q, C, rfl⟩ := h
  intro hσ H locs ls hP hD hS hv
  refine w_run (va_runS (As := As) (rest := st) ⟨C.1, C.2.1, C.2.2.1, C.2.2.2.1, C.2.2.2.2.1⟩ (hM hσ) ⟨w_callB C hw.1 hl hR, C.2.2.2.2.1 _ hw.2⟩ ⟨w_blind _ _ _ _ _ _ _ _ _ _, w_pre C hP hD hS _⟩ rfl hAs hv.1 rfl (lv_room hst) hd hcs) hS ?_
  intro ad' n' nl' r σ' hpo hrr hσ' H1 locs1 hP1 hD1 hS1
  exact kk ad' n' nl' r σ' hpo hrr hσ' hσ' H1 locs1 ls hP1 hD1 hS1 hv
theorem r_callSN (h : w_Cl l R D cs aS aV A cc nL own nm K) {host : String} (As : List Value) (hd : decode cc pc = .ok (.invokestatic i, 3)) (hM : rS σ → w_MC l D cs aS aV A y cc2 mL2 k rm2 ad n nl As σ Po) (hl : ∀ U : State, w_EV aS aV A U → va_Nw (.methodLinkNest own i y host) U) (hw : w_CS y cc2 mL2 k na) (hAs : As.length = na)
    (hR : rm2.frames + 1 ≤ R.frames ∧ 8 + (mL2 + 11) + rm2.locals ≤ R.locals) (hcs : ce + rm2.cells ≤ R.cells ∧ sl + rm2.slots ≤ R.slots) (hst : (st.map fun v => v.category).sum ≤ 8) (hst0 : st0 = As.reverse ++ st)
    (kk : ∀ (ad' : Nat → Nat) (n' : Nat) (nl' : Nat → Nat → Bool) (r : Int) (σ' : SS), Po ad' n' nl' r σ' → rr k r → rS σ' → K ad' n' nl' (ce + rm2.cells) (sl + rm2.slots) (pc + 3) lv (rv k r ++ st) σ') : K ad n nl ce sl pc lv st0 σ := by
  subst hst0
  obtain ⟨p, e, s, m, args, below, meth, c, Q, C, rfl⟩ := h
  intro hσ H locs ls hP hD hS hv
  refine w_run (va_runSN (As := As) (rest := st) ⟨C.1, C.2.1, C.2.2.1, C.2.2.2.1, C.2.2.2.2.1⟩ (hM hσ) ⟨w_callN C hw.1 (hl s C.2.2.2.2.2.2.2.2.1) hR, C.2.2.2.2.1 _ hw.2, trivial⟩ ⟨w_blind _ _ _ _ _ _ _ _ _ _, w_pre C hP hD hS _⟩ rfl hAs hv.1 rfl (lv_room hst) hd hcs) hS ?_
  intro ad' n' nl' r σ' hpo hrr hσ' H1 locs1 hP1 hD1 hS1
  exact kk ad' n' nl' r σ' hpo hrr hσ' hσ' H1 locs1 ls hP1 hD1 hS1 hv
theorem r_callI (h : w_Cl l R D cs aS aV A cc nL own nm K) {t : Nat} (As : List Value) (hd : decode cc pc = .ok (.invokespecial i, 3)) (hM : rS σ → w_MC l D cs aS aV A y cc2 mL2 0 rm2 ad n nl (.ref (ad t) :: As) σ Po) (hl : Cond.methodLink own i y ∈ GT) (hw : w_CI y cc2 mL2 na) (hAs : As.length = na)
    (hR : rm2.frames + 1 ≤ R.frames ∧ 8 + (mL2 + 11) + rm2.locals ≤ R.locals) (hcs : ce + rm2.cells ≤ R.cells ∧ sl + rm2.slots ≤ R.slots) (hst : (st.map fun v => v.category).sum ≤ 8) (hst0 : st0 = As.reverse ++ .ref (ad t) :: st)
    (kk : ∀ (ad' : Nat → Nat) (n' : Nat) (nl' : Nat → Nat → Bool) (r : Int) (σ' : SS), Po ad' n' nl' r σ' → rS σ' → K ad' n' nl' (ce + rm2.cells) (sl + rm2.slots) (pc + 3) lv st σ') : K ad n nl ce sl pc lv st0 σ := by
  subst hst0
  obtain ⟨p, e, s, m, args, below, meth, c, Q, C, rfl⟩ := h
  intro hσ H locs ls hP hD hS hv
  refine w_run (k := 0) (va_runI (As := As) (rest := st) ⟨C.1, C.2.1, C.2.2.1, C.2.2.2.1, C.2.2.2.2.1⟩ (hM hσ) ⟨w_callB (k := 0) C hw.1 hl hR, hw.2.2, C.2.2.2.2.1 _ hw.2.1⟩ ⟨w_blind _ _ _ _ _ _ _ _ _ _, w_pre C hP hD hS _⟩ rfl hAs hv.1 rfl (lv_room hst) hd hcs) hS ?_
  intro ad' n' nl' r σ' hpo hrr hσ' H1 locs1 hP1 hD1 hS1
  exact kk ad' n' nl' r σ' hpo hσ' hσ' H1 locs1 ls hP1 hD1 hS1 hv
theorem r_callIN (h : w_Cl l R D cs aS aV A cc nL own nm K) {t : Nat} {host : String} (As : List Value) (hd : decode cc pc = .ok (.invokespecial i, 3)) (hM : rS σ → w_MC l D cs aS aV A y cc2 mL2 0 rm2 ad n nl (.ref (ad t) :: As) σ Po) (hl : ∀ U : State, w_EV aS aV A U → va_Nw (.methodLinkNest own i y host) U) (hw : w_CI y cc2 mL2 na) (hAs : As.length = na)
    (hR : rm2.frames + 1 ≤ R.frames ∧ 8 + (mL2 + 11) + rm2.locals ≤ R.locals) (hcs : ce + rm2.cells ≤ R.cells ∧ sl + rm2.slots ≤ R.slots) (hst : (st.map fun v => v.category).sum ≤ 8) (hst0 : st0 = As.reverse ++ .ref (ad t) :: st)
    (kk : ∀ (ad' : Nat → Nat) (n' : Nat) (nl' : Nat → Nat → Bool) (r : Int) (σ' : SS), Po ad' n' nl' r σ' → rS σ' → K ad' n' nl' (ce + rm2.cells) (sl + rm2.slots) (pc + 3) lv st σ') : K ad n nl ce sl pc lv st0 σ := by
  subst hst0
  obtain ⟨p, e, s, m, args, below, meth, c, Q, C, rfl⟩ := h
  intro hσ H locs ls hP hD hS hv
  refine w_run (k := 0) (va_runIN (As := As) (rest := st) ⟨C.1, C.2.1, C.2.2.1, C.2.2.2.1, C.2.2.2.2.1⟩ (hM hσ) ⟨w_callN (k := 0) C hw.1 (hl s C.2.2.2.2.2.2.2.2.1) hR, hw.2.2, C.2.2.2.2.1 _ hw.2.1⟩ ⟨w_blind _ _ _ _ _ _ _ _ _ _, w_pre C hP hD hS _⟩ rfl hAs hv.1 rfl (lv_room hst) hd hcs) hS ?_
  intro ad' n' nl' r σ' hpo hrr hσ' H1 locs1 hP1 hD1 hS1
  exact kk ad' n' nl' r σ' hpo hσ' hσ' H1 locs1 ls hP1 hD1 hS1 hv
theorem r_callVS (h : w_Cl l R D cs aS aV A cc nL own nm K) (As : List Value) (hd : decode cc pc = .ok (.invokevirtual i, 3)) (hM : rS σ → w_MC l D cs aS aV A y cc2 mL2 k rm2 ad n nl (.ref aS :: As) σ Po) (hl : Cond.methodLink own i y ∈ GT) (hw : w_CV y cc2 mL2 k na) (hAs : As.length = na) (hy : y.cls = "java/lang/String")
    (hR : rm2.frames + 1 ≤ R.frames ∧ 8 + (mL2 + 11) + rm2.locals ≤ R.locals) (hcs : ce + rm2.cells ≤ R.cells ∧ sl + rm2.slots ≤ R.slots) (hst : (st.map fun v => v.category).sum ≤ 8) (hst0 : st0 = As.reverse ++ .ref aS :: st)
    (kk : ∀ (ad' : Nat → Nat) (n' : Nat) (nl' : Nat → Nat → Bool) (r : Int) (σ' : SS), Po ad' n' nl' r σ' → rr k r → rS σ' → K ad' n' nl' (ce + rm2.cells) (sl + rm2.slots) (pc + 3) lv (rv k r ++ st) σ') : K ad n nl ce sl pc lv st0 σ := by
  subst hst0
  obtain ⟨p, e, s, m, args, below, meth, c, Q, C, rfl⟩ := h
  intro hσ H locs ls hP hD hS hv
  have hE := C.2.2.2.2.2.2.2.2.1
  refine w_run (va_runV (As := As) (rest := st) ⟨C.1, C.2.1, C.2.2.1, C.2.2.2.1, C.2.2.2.2.1⟩ (hM hσ) ⟨w_callB C hw.1 hl hR, C.2.2.2.2.1 _ hw.2.1, C.2.2.2.2.1 _ hw.2.2⟩ ⟨w_blind _ _ _ _ _ _ _ _ _ _, by rw [hy]; exact vk_recv hE.2.2.2.2.2.1 (i := 0) (by decide) hS, w_pre C hP hD hS _⟩ rfl hAs hv.1 rfl (lv_room hst) hd hcs) hS ?_
  intro ad' n' nl' r σ' hpo hrr hσ' H1 locs1 hP1 hD1 hS1
  exact kk ad' n' nl' r σ' hpo hrr hσ' hσ' H1 locs1 ls hP1 hD1 hS1 hv
/-! the text of the keywords -/
theorem r_ldcS (h : w_Cl l R D cs aS aV A cc nL RX10 nm K) (hd : decode cc pc = .ok (.ldc 64, 2)) (kk : K ad n nl ce sl (pc + 2) lv (.ref aS :: st) σ) : K ad n nl ce sl pc lv st σ := by
  obtain ⟨p, e, s, m, args, below, meth, c, Q, C, rfl⟩ := h
  intro hσ H locs ls hP hD hS hv
  exact va_ldcS C.1 C.2.1 C.2.2.2.1 C.2.2.2.2.2.2.2.2.1.2.2.2.2.1 hd (kk hσ H locs ls hP hD hS hv)
theorem r_getCS (h : w_Cl l R D cs aS aV A cc nL own nm K) (hd : decode cc pc = .ok (.getstatic i, 3)) (hl : Cond.fieldLink own i "java/lang/String" "COMPACT_STRINGS" "Z" ∈ GT) (kk : K ad n nl ce sl (pc + 3) lv (.int (vI 1) :: st) σ) : K ad n nl ce sl pc lv st σ := by
  obtain ⟨p, e, s, m, args, below, meth, c, Q, C, rfl⟩ := h
  intro hσ H locs ls hP hD hS hv
  exact va_gets C.1 C.2.1 C.2.2.2.2.2.2.2.2.1.2.2.2.2.2.2.1 hS C.2.2.2.1 (C.2.2.2.2.1 _ hl) (fun _ z => z) hd (kk hσ H locs ls hP hD hS hv)
theorem r_getSF (h : w_Cl l R D cs aS aV A cc nL own nm K) (hd : decode cc pc = .ok (.getstatic i, 3)) (hl : Cond.fieldLink own i "jdk/internal/util/Preconditions" "SIOOBE_FORMATTER" "Ljava/util/function/BiFunction;" ∈ GT) (kk : ∀ v : Value, v.category = 1 → K ad n nl ce sl (pc + 3) lv (v :: st) σ) : K ad n nl ce sl pc lv st σ := by
  obtain ⟨p, e, s, m, args, below, meth, c, Q, C, rfl⟩ := h
  intro hσ H locs ls hP hD hS hv
  rcases C.2.2.2.2.2.2.2.2.1.2.2.2.2.2.2.2 with hz | ⟨t, hz⟩
  · exact va_gets C.1 C.2.1 hz hS C.2.2.2.1 (C.2.2.2.2.1 _ hl) (fun _ z => z) hd (kk _ rfl hσ H locs ls hP hD hS hv)
  · exact va_gets C.1 C.2.1 hz hS C.2.2.2.1 (C.2.2.2.2.1 _ hl) (fun _ z => z) hd (kk _ rfl hσ H locs ls hP hD hS hv)
theorem r_strC (h : w_Cl l R D cs aS aV A cc nL own nm K) (hd : decode cc pc = .ok (.getfield i, 3)) (hl : Cond.fieldLink own i "java/lang/String" "coder" "B" ∈ GT) (kk : K ad n nl ce sl (pc + 3) lv (.int (vI 0) :: st) σ) : K ad n nl ce sl pc lv (.ref aS :: st) σ := by
  obtain ⟨p, e, s, m, args, below, meth, c, Q, C, rfl⟩ := h
  intro hσ H locs ls hP hD hS hv
  exact vk_getf C.1 C.2.1 (C.2.2.2.2.2.2.2.2.1.2.2.2.2.2.1.1 0 (by decide)).2.1 hS C.2.2.2.1 (C.2.2.2.2.1 _ hl) (fun _ z => z) hd (kk hσ H locs ls hP hD hS hv)
theorem r_strV (h : w_Cl l R D cs aS aV A cc nL own nm K) (hd : decode cc pc = .ok (.getfield i, 3)) (hl : Cond.fieldLink own i "java/lang/String" "value" "[B" ∈ GT) (kk : K ad n nl ce sl (pc + 3) lv (.ref aV :: st) σ) : K ad n nl ce sl pc lv (.ref aS :: st) σ := by
  obtain ⟨p, e, s, m, args, below, meth, c, Q, C, rfl⟩ := h
  intro hσ H locs ls hP hD hS hv
  exact vk_getf C.1 C.2.1 (C.2.2.2.2.2.2.2.2.1.2.2.2.2.2.1.1 0 (by decide)).2.2.1 hS C.2.2.2.1 (C.2.2.2.2.1 _ hl) (fun _ z => z) hd (kk hσ H locs ls hP hD hS hv)
theorem r_strL (h : w_Cl l R D cs aS aV A cc nL own nm K) (hd : decode cc pc = .ok (.arraylength, 1)) (kk : K ad n nl ce sl (pc + 1) lv (.int (vI 107) :: st) σ) : K ad n nl ce sl pc lv (.ref aV :: st) σ := by
  obtain ⟨p, e, s, m, args, below, meth, c, Q, C, rfl⟩ := h
  intro hσ H locs ls hP hD hS hv
  exact va_tlen C.1 C.2.1 (C.2.2.2.2.2.2.2.2.1.2.2.2.2.2.1.1 0 (by decide)).2.2.2 hS rfl hd (kk hσ H locs ls hP hD hS hv)
/-- the keywords' signs -/
def kwc (j : Nat) : Int := (KWB.getD j 0).toInt
theorem r_strB (h : w_Cl l R D cs aS aV A cc nL own nm K) {x : Int} (hd : decode cc pc = .ok (.baload, 1)) (hx : rI x) (hb : 0 ≤ x ∧ x < 107) (kk : K ad n nl ce sl (pc + 1) lv (.int (vI (kwc x.toNat)) :: st) σ) : K ad n nl ce sl pc lv (.int (vI x) :: .ref aV :: st) σ := by
  obtain ⟨p, e, s, m, args, below, meth, c, Q, C, rfl⟩ := h
  intro hσ H locs ls hP hD hS hv
  have k2 := kk hσ H locs ls hP hD hS hv
  unfold kwc at k2
  rw [vI_of, ← vI_clamp hx hb.1] at k2
  exact va_tb C.1 C.2.1 (C.2.2.2.2.2.2.2.2.1.2.2.2.2.2.1.1 0 (by decide)).2.2.2 hS (vI_in hx hb) rfl hd k2
theorem kwc_b : ∀ j, j < 107 → 0 ≤ kwc j ∧ kwc j < 128 ∧ zi2c (zand (kwc j) 255) = kwc j := by
  simp only [zi2c_def, zand_def]
  decide +kernel
theorem rI_kwc (j : Nat) : rI (kwc j) := rI_to _
end RC
/-- a whole world but for the first object's own references: what each reference leads to is there -/
def w_WH (n : Nat) (nl : Nat → Nat → Bool) : Prop := (∀ i, i < n → i ≠ 0 → ∀ k, vt (rC i) k = 2 → nl i k = true) ∧ ∀ i, i < n → ∀ k, nl i k = true → rf i k < n
theorem w_ref {n : Nat} {nl : Nat → Nat → Bool} (hw : w_WH n nl) {r c k u : Nat} (ht : r < n) (hC : rC r = c) (h0 : rC 0 ≠ c) (hv : vt c k = 2) (hu : rf r k = u) : nl r k = true ∧ u < n := by
  have h1 : nl r k = true := hw.1 r ht (fun z => h0 (by rw [← hC, z])) k (by rw [hC]; exact hv)
  exact ⟨h1, by rw [← hu]; exact hw.2 r ht k h1⟩
def w_W0 (n : Nat) (nl : Nat → Nat → Bool) : Prop := w_WH n nl ∧ 0 < n ∧ ∀ k, vt 11 k = 2 → nl 0 k = true
theorem w_ref0 {n : Nat} {nl : Nat → Nat → Bool} (hw : w_W0 n nl) {k u : Nat} (hv : vt 11 k = 2) (hu : rf 0 k = u) : nl 0 k = true ∧ u < n := ⟨hw.2.2 k hv, by rw [← hu]; exact hw.1.2 0 hw.2.1 k (hw.2.2 k hv)⟩
section RC2
variable {l : Launch} {R : Room} {D : va_G} {cs : Nat → ClassId} {aS aV : Nat} {A : Nat → Prop} {cc : ByteArray} {nL : Nat} {own nm : String} {K : KT}
variable {ad : Nat → Nat} {n : Nat} {nl : Nat → Nat → Bool} {ce sl pc : Nat} {lv : List (Nat × Value)} {st st0 : List Value} {σ σ1 : SS} {r : Int}
variable {y : MethodName} {cc2 : ByteArray} {mL2 na i : Nat} {rm2 : Room}
theorem r_callV0 (h : w_Cl l R D cs aS aV A cc nL own nm K) {t co : Nat} {T : u_T} {N : Nat} (As : List Value) (hd : decode cc pc = .ok (.invokevirtual i, 3)) (hM : rS σ → w_MC l D cs aS aV A y cc2 mL2 0 rm2 ad n nl (.ref (ad t) :: As) σ (w_Po ad n nl (r, σ1))) (hl : Cond.methodLink own i y ∈ GT) (hw : w_CV y cc2 mL2 0 na) (hAs : As.length = na) (hc : vwCl[co]? = some (y.cls, T, N)) (hco : co < 13) (ht : t < n) (hC : rC t = co) (hrm : rm2.cells = 0 ∧ rm2.slots = 0) (hR : rm2.frames + 1 ≤ R.frames ∧ 8 + (mL2 + 11) + rm2.locals ≤ R.locals) (hcs : ce ≤ R.cells ∧ sl ≤ R.slots) (hst : (st.map fun v => v.category).sum ≤ 8) (hst0 : st0 = As.reverse ++ .ref (ad t) :: st) (kk : True → rS σ1 → K ad n nl ce sl (pc + 3) lv (st) σ1) : K ad n nl ce sl pc lv st0 σ :=
  r_callV h As hd hM hl hw hAs hc hco ht hC hR (by rw [hrm.1, hrm.2]; exact hcs) hst hst0 (fun ad' n' nl' r' σ' hpo hrr hσ' => by
    obtain ⟨rfl, rfl, rfl, rfl, rfl⟩ := hpo
    rw [hrm.1, hrm.2]
    exact kk hrr hσ')
theorem r_callS0 (h : w_Cl l R D cs aS aV A cc nL own nm K) (As : List Value) (hd : decode cc pc = .ok (.invokestatic i, 3)) (hM : rS σ → w_MC l D cs aS aV A y cc2 mL2 0 rm2 ad n nl As σ (w_Po ad n nl (r, σ1))) (hl : Cond.methodLink own i y ∈ GT) (hw : w_CS y cc2 mL2 0 na) (hAs : As.length = na) (hrm : rm2.cells = 0 ∧ rm2.slots = 0) (hR : rm2.frames + 1 ≤ R.frames ∧ 8 + (mL2 + 11) + rm2.locals ≤ R.locals) (hcs : ce ≤ R.cells ∧ sl ≤ R.slots) (hst : (st.map fun v => v.category).sum ≤ 8) (hst0 : st0 = As.reverse ++ st) (kk : True → rS σ1 → K ad n nl ce sl (pc + 3) lv (st) σ1) : K ad n nl ce sl pc lv st0 σ :=
  r_callS h As hd hM hl hw hAs hR (by rw [hrm.1, hrm.2]; exact hcs) hst hst0 (fun ad' n' nl' r' σ' hpo hrr hσ' => by
    obtain ⟨rfl, rfl, rfl, rfl, rfl⟩ := hpo
    rw [hrm.1, hrm.2]
    exact kk hrr hσ')
theorem r_callV1 (h : w_Cl l R D cs aS aV A cc nL own nm K) {t co : Nat} {T : u_T} {N : Nat} (As : List Value) (hd : decode cc pc = .ok (.invokevirtual i, 3)) (hM : rS σ → w_MC l D cs aS aV A y cc2 mL2 1 rm2 ad n nl (.ref (ad t) :: As) σ (w_Po ad n nl (r, σ1))) (hl : Cond.methodLink own i y ∈ GT) (hw : w_CV y cc2 mL2 1 na) (hAs : As.length = na) (hc : vwCl[co]? = some (y.cls, T, N)) (hco : co < 13) (ht : t < n) (hC : rC t = co) (hrm : rm2.cells = 0 ∧ rm2.slots = 0) (hR : rm2.frames + 1 ≤ R.frames ∧ 8 + (mL2 + 11) + rm2.locals ≤ R.locals) (hcs : ce ≤ R.cells ∧ sl ≤ R.slots) (hst : (st.map fun v => v.category).sum ≤ 8) (hst0 : st0 = As.reverse ++ .ref (ad t) :: st) (kk : rI r → rS σ1 → K ad n nl ce sl (pc + 3) lv (.int (vI r) :: st) σ1) : K ad n nl ce sl pc lv st0 σ :=
  r_callV h As hd hM hl hw hAs hc hco ht hC hR (by rw [hrm.1, hrm.2]; exact hcs) hst hst0 (fun ad' n' nl' r' σ' hpo hrr hσ' => by
    obtain ⟨rfl, rfl, rfl, rfl, rfl⟩ := hpo
    rw [hrm.1, hrm.2]
    exact kk hrr hσ')
theorem r_callS1 (h : w_Cl l R D cs aS aV A cc nL own nm K) (As : List Value) (hd : decode cc pc = .ok (.invokestatic i, 3)) (hM : rS σ → w_MC l D cs aS aV A y cc2 mL2 1 rm2 ad n nl As σ (w_Po ad n nl (r, σ1))) (hl : Cond.methodLink own i y ∈ GT) (hw : w_CS y cc2 mL2 1 na) (hAs : As.length = na) (hrm : rm2.cells = 0 ∧ rm2.slots = 0) (hR : rm2.frames + 1 ≤ R.frames ∧ 8 + (mL2 + 11) + rm2.locals ≤ R.locals) (hcs : ce ≤ R.cells ∧ sl ≤ R.slots) (hst : (st.map fun v => v.category).sum ≤ 8) (hst0 : st0 = As.reverse ++ st) (kk : rI r → rS σ1 → K ad n nl ce sl (pc + 3) lv (.int (vI r) :: st) σ1) : K ad n nl ce sl pc lv st0 σ :=
  r_callS h As hd hM hl hw hAs hR (by rw [hrm.1, hrm.2]; exact hcs) hst hst0 (fun ad' n' nl' r' σ' hpo hrr hσ' => by
    obtain ⟨rfl, rfl, rfl, rfl, rfl⟩ := hpo
    rw [hrm.1, hrm.2]
    exact kk hrr hσ')
theorem r_callSN1 (h : w_Cl l R D cs aS aV A cc nL own nm K) {host : String} (As : List Value) (hd : decode cc pc = .ok (.invokestatic i, 3)) (hM : rS σ → w_MC l D cs aS aV A y cc2 mL2 1 rm2 ad n nl As σ (w_Po ad n nl (r, σ1))) (hl : ∀ U : State, w_EV aS aV A U → va_Nw (.methodLinkNest own i y host) U) (hw : w_CS y cc2 mL2 1 na) (hAs : As.length = na) (hrm : rm2.cells = 0 ∧ rm2.slots = 0) (hR : rm2.frames + 1 ≤ R.frames ∧ 8 + (mL2 + 11) + rm2.locals ≤ R.locals) (hcs : ce ≤ R.cells ∧ sl ≤ R.slots) (hst : (st.map fun v => v.category).sum ≤ 8) (hst0 : st0 = As.reverse ++ st) (kk : rI r → rS σ1 → K ad n nl ce sl (pc + 3) lv (.int (vI r) :: st) σ1) : K ad n nl ce sl pc lv st0 σ :=
  r_callSN h As hd hM hl hw hAs hR (by rw [hrm.1, hrm.2]; exact hcs) hst hst0 (fun ad' n' nl' r' σ' hpo hrr hσ' => by
    obtain ⟨rfl, rfl, rfl, rfl, rfl⟩ := hpo
    rw [hrm.1, hrm.2]
    exact kk hrr hσ')
theorem r_callV2 (h : w_Cl l R D cs aS aV A cc nL own nm K) {t co : Nat} {T : u_T} {N : Nat} (As : List Value) (hd : decode cc pc = .ok (.invokevirtual i, 3)) (hM : rS σ → w_MC l D cs aS aV A y cc2 mL2 2 rm2 ad n nl (.ref (ad t) :: As) σ (w_Po ad n nl (r, σ1))) (hl : Cond.methodLink own i y ∈ GT) (hw : w_CV y cc2 mL2 2 na) (hAs : As.length = na) (hc : vwCl[co]? = some (y.cls, T, N)) (hco : co < 13) (ht : t < n) (hC : rC t = co) (hrm : rm2.cells = 0 ∧ rm2.slots = 0) (hR : rm2.frames + 1 ≤ R.frames ∧ 8 + (mL2 + 11) + rm2.locals ≤ R.locals) (hcs : ce ≤ R.cells ∧ sl ≤ R.slots) (hst : (st.map fun v => v.category).sum ≤ 8) (hst0 : st0 = As.reverse ++ .ref (ad t) :: st) (kk : (r = 0 ∨ r = 1) → rS σ1 → K ad n nl ce sl (pc + 3) lv (.int (vI r) :: st) σ1) : K ad n nl ce sl pc lv st0 σ :=
  r_callV h As hd hM hl hw hAs hc hco ht hC hR (by rw [hrm.1, hrm.2]; exact hcs) hst hst0 (fun ad' n' nl' r' σ' hpo hrr hσ' => by
    obtain ⟨rfl, rfl, rfl, rfl, rfl⟩ := hpo
    rw [hrm.1, hrm.2]
    exact kk hrr hσ')
theorem r_callS2 (h : w_Cl l R D cs aS aV A cc nL own nm K) (As : List Value) (hd : decode cc pc = .ok (.invokestatic i, 3)) (hM : rS σ → w_MC l D cs aS aV A y cc2 mL2 2 rm2 ad n nl As σ (w_Po ad n nl (r, σ1))) (hl : Cond.methodLink own i y ∈ GT) (hw : w_CS y cc2 mL2 2 na) (hAs : As.length = na) (hrm : rm2.cells = 0 ∧ rm2.slots = 0) (hR : rm2.frames + 1 ≤ R.frames ∧ 8 + (mL2 + 11) + rm2.locals ≤ R.locals) (hcs : ce ≤ R.cells ∧ sl ≤ R.slots) (hst : (st.map fun v => v.category).sum ≤ 8) (hst0 : st0 = As.reverse ++ st) (kk : (r = 0 ∨ r = 1) → rS σ1 → K ad n nl ce sl (pc + 3) lv (.int (vI r) :: st) σ1) : K ad n nl ce sl pc lv st0 σ :=
  r_callS h As hd hM hl hw hAs hR (by rw [hrm.1, hrm.2]; exact hcs) hst hst0 (fun ad' n' nl' r' σ' hpo hrr hσ' => by
    obtain ⟨rfl, rfl, rfl, rfl, rfl⟩ := hpo
    rw [hrm.1, hrm.2]
    exact kk hrr hσ')
theorem r_callV3 (h : w_Cl l R D cs aS aV A cc nL own nm K) {t co : Nat} {T : u_T} {N : Nat} (As : List Value) (hd : decode cc pc = .ok (.invokevirtual i, 3)) (hM : rS σ → w_MC l D cs aS aV A y cc2 mL2 3 rm2 ad n nl (.ref (ad t) :: As) σ (w_Po ad n nl (r, σ1))) (hl : Cond.methodLink own i y ∈ GT) (hw : w_CV y cc2 mL2 3 na) (hAs : As.length = na) (hc : vwCl[co]? = some (y.cls, T, N)) (hco : co < 13) (ht : t < n) (hC : rC t = co) (hrm : rm2.cells = 0 ∧ rm2.slots = 0) (hR : rm2.frames + 1 ≤ R.frames ∧ 8 + (mL2 + 11) + rm2.locals ≤ R.locals) (hcs : ce ≤ R.cells ∧ sl ≤ R.slots) (hst : (st.map fun v => v.category).sum ≤ 8) (hst0 : st0 = As.reverse ++ .ref (ad t) :: st) (kk : rJ r → rS σ1 → K ad n nl ce sl (pc + 3) lv (.long (vJ r) :: st) σ1) : K ad n nl ce sl pc lv st0 σ :=
  r_callV h As hd hM hl hw hAs hc hco ht hC hR (by rw [hrm.1, hrm.2]; exact hcs) hst hst0 (fun ad' n' nl' r' σ' hpo hrr hσ' => by
    obtain ⟨rfl, rfl, rfl, rfl, rfl⟩ := hpo
    rw [hrm.1, hrm.2]
    exact kk hrr hσ')
theorem r_callS3 (h : w_Cl l R D cs aS aV A cc nL own nm K) (As : List Value) (hd : decode cc pc = .ok (.invokestatic i, 3)) (hM : rS σ → w_MC l D cs aS aV A y cc2 mL2 3 rm2 ad n nl As σ (w_Po ad n nl (r, σ1))) (hl : Cond.methodLink own i y ∈ GT) (hw : w_CS y cc2 mL2 3 na) (hAs : As.length = na) (hrm : rm2.cells = 0 ∧ rm2.slots = 0) (hR : rm2.frames + 1 ≤ R.frames ∧ 8 + (mL2 + 11) + rm2.locals ≤ R.locals) (hcs : ce ≤ R.cells ∧ sl ≤ R.slots) (hst : (st.map fun v => v.category).sum ≤ 8) (hst0 : st0 = As.reverse ++ st) (kk : rJ r → rS σ1 → K ad n nl ce sl (pc + 3) lv (.long (vJ r) :: st) σ1) : K ad n nl ce sl pc lv st0 σ :=
  r_callS h As hd hM hl hw hAs hR (by rw [hrm.1, hrm.2]; exact hcs) hst hst0 (fun ad' n' nl' r' σ' hpo hrr hσ' => by
    obtain ⟨rfl, rfl, rfl, rfl, rfl⟩ := hpo
    rw [hrm.1, hrm.2]
    exact kk hrr hσ')
end RC2
