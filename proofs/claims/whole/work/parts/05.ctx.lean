/-! what stays as it was at the start: the nest's links, the text of the keywords, two statics -/
def KWS : String := "place calm echo way to sight soul stubborn short matter burns of heat back draw or and not grief mile left "
def KWB : List Int32 := KWS.toList.map fun ch => Int32.ofNat ch.toNat
def w_EV (aS aV : Nat) (A : Nat → Prop) (U : State) : Prop :=
  va_Nw (.methodLinkNest RX11 19 yX4_init RX11) U ∧ va_Nw (.methodLinkNest RX4 54 yX2_init RX11) U ∧ va_Nw (.methodLinkNest RX10 15 yX11_within RX11) U ∧ va_Nw (.methodLinkNest RX9 44 yX11_within RX11) U ∧
  vk_R RX10 64 KWS aS U ∧ vk_S 1 [107] [KWB] (fun _ => aS) (fun _ => aV) A U U.heap ∧ va_Z "java/lang/String" "COMPACT_STRINGS" "Z" (.int 1) A U U.heap ∧ va_Zq "jdk/internal/util/Preconditions" "SIOOBE_FORMATTER" "Ljava/util/function/BiFunction;" A U U.heap
theorem w_EV.warm {aS aV : Nat} {A : Nat → Prop} {s U : State} (hW : s.WarmedH U.vm) (hq : ∀ a : Nat, a < s.heap.size → ¬ A a → U.heap[a]? = s.heap[a]?) (h : w_EV aS aV A s) : w_EV aS aV A U := by
  obtain ⟨h1, h2, h3, h4, h5, h6, h7, h8⟩ := h
  exact ⟨h1.warmM hW, h2.warmM hW, h3.warmM hW, h4.warmM hW, h5.warm hW, (h6.moved hW.alike).kept hq, (h7.moved hW.alike).kept hq, (h8.moved hW.alike).kept hq⟩
theorem w_EV.same {aS aV : Nat} {A : Nat → Prop} {u U : State} (hv : U.vm = u.vm) (hh : U.heap = u.heap) (h : w_EV aS aV A u) : w_EV aS aV A U := by
  obtain ⟨h1, h2, h3, h4, h5, h6, h7, h8⟩ := h
  have al : u.vm.Alike U.vm := by rw [hv]; exact Vm.Alike.refl _
  exact ⟨h1.same rfl hv.symm, h2.same rfl hv.symm, h3.same rfl hv.symm, h4.same rfl hv.symm, h5.same hv, by rw [hh]; exact h6.moved al, by rw [hh]; exact h7.moved al, by rw [hh]; exact h8.moved al⟩
/-! what a method's body stands on -/
def w_CX (p : Program) (s : State) (m : MethodId) (args : Array Value) (meth : Method) (c : Code) (cc : ByteArray) (nL : Nat) (own nm : String) (D : va_G) (cs : Nat → ClassId) (aS aV : Nat) (A : Nat → Prop) : Prop :=
  p.tables.exec = Jvm.exec ∧ c.code = cc ∧ c.maxLocals = nL ∧ s.vm.findClass own = some m.cls ∧ (∀ w ∈ GT, w.before args s = true) ∧ va_K D vwCl (w_ty cs) s ∧ meth.locks = false ∧ (∀ q : Nat, s.heap.size ≤ q → A q) ∧ w_EV aS aV A s ∧ meth.name = nm
def w_GG (p : Program) (l : Launch) (e : Env) (R : Room) (s : State) (m : MethodId) (args : Array Value) (below : List Frame) (meth : Method) (c : Code) (D : va_G) (cs : Nat → ClassId) (A : Nat → Prop) (nL : Nat) (Q : State → Prop) (ad : Nat → Nat) (n : Nat) (nl : Nat → Nat → Bool) (ce sl pc : Nat) (lv : List (Nat × Value)) (st : List Value) (σ : SS) : Prop :=
  rS σ → ∀ (H : Heap) (locs : List Loc) (ls : Array Slot), va_P D vwCl (w_wl cs ad nl σ n) H → va_D A (w_wl cs ad nl σ n) → va_S A s.heap H locs → lv_has ls nL lv → W p l e R s m args below meth c H locs ce sl Q (F0 m pc ls st)
abbrev KT : Type := (Nat → Nat) → Nat → (Nat → Nat → Bool) → Nat → Nat → Nat → List (Nat × Value) → List Value → SS → Prop
def w_Cl (l : Launch) (R : Room) (D : va_G) (cs : Nat → ClassId) (aS aV : Nat) (A : Nat → Prop) (cc : ByteArray) (nL : Nat) (own nm : String) (K : KT) : Prop :=
  ∃ (p : Program) (e : Env) (s : State) (m : MethodId) (args : Array Value) (below : List Frame) (meth : Method) (c : Code) (Q : State → Prop), w_CX p s m args meth c cc nL own nm D cs aS aV A ∧ K = fun ad n nl ce sl pc lv st σ => w_GG p l e R s m args below meth c D cs A nL Q ad n nl ce sl pc lv st σ
/-! kinds of answers: 0 none, 1 an int, 2 a boolean, 3 a long, 4 a byte (0), 5 a char (below 128) -/
theorem chn : ∀ j, j < 128 → narrow .char (.int (Int32.ofInt (Int.ofNat j))) = .int (Int32.ofInt (Int.ofNat j)) := by decide +kernel
def rt (k : Nat) : Option FieldType := if k = 0 then none else if k = 1 then some .int else if k = 2 then some .boolean else if k = 3 then some .long else if k = 4 then some .byte else some .char
def rv (k : Nat) (x : Int) : List Value := if k = 0 then [] else if k = 3 then [.long (vJ x)] else [.int (vI x)]
def rr (k : Nat) (x : Int) : Prop := if k = 0 then True else if k = 1 then rI x else if k = 2 then x = 0 ∨ x = 1 else if k = 3 then rJ x else if k = 4 then x = 0 else 0 ≤ x ∧ x < 128
abbrev PT : Type := (Nat → Nat) → Nat → (Nat → Nat → Bool) → Int → SS → Prop
def w_QC (k : Nat) (D : va_G) (cs : Nat → ClassId) (A : Nat → Prop) (Po : PT) : Array Value → State → Outcome → State → Prop := fun _ st o t =>
  (∃ (ad : Nat → Nat) (n : Nat) (nl : Nat → Nat → Bool) (r : Int) (σ : SS), o = .returned (rv k r).head? ∧ Po ad n nl r σ ∧ rr k r ∧ rS σ ∧ va_P D vwCl (w_wl cs ad nl σ n) t.heap ∧ va_D A (w_wl cs ad nl σ n)) ∧ va_F A st t
def w_Pc (D : va_G) (cs : Nat → ClassId) (aS aV : Nat) (A : Nat → Prop) (ad : Nat → Nat) (n : Nat) (nl : Nat → Nat → Bool) (as : List Value) (σ : SS) : Array Value → State → Prop :=
  va_Pc as (fun U => w_EV aS aV A U ∧ (∀ q : Nat, U.heap.size ≤ q → A q) ∧ va_K D vwCl (w_ty cs) U ∧ va_P D vwCl (w_wl cs ad nl σ n) U.heap ∧ va_D A (w_wl cs ad nl σ n))
def w_MC (l : Launch) (D : va_G) (cs : Nat → ClassId) (aS aV : Nat) (A : Nat → Prop) (y : MethodName) (cc : ByteArray) (mL k : Nat) (rm : Room) (ad : Nat → Nat) (n : Nat) (nl : Nat → Nat → Bool) (as : List Value) (σ : SS) (Po : PT) : Prop :=
  Met l y (.code y cc mL (rt k) :: GT) rm (w_Pc D cs aS aV A ad n nl as σ) (w_QC k D cs A Po) rm.cells rm.slots A
def w_Po (ad : Nat → Nat) (n : Nat) (nl : Nat → Nat → Bool) (out : Int × SS) : PT := fun ad' n' nl' r σ => ad' = ad ∧ n' = n ∧ nl' = nl ∧ r = out.1 ∧ σ = out.2
/-- what a return gives -/
def w_Rt (k : Nat) (cc : ByteArray) (ce sl : Nat) (Po : PT) (K : KT) : Prop := ∀ (ad : Nat → Nat) (n : Nat) (nl : Nat → Nat → Bool) (pc : Nat) (lv : List (Nat × Value)) (r : Int) (σ : SS),
  decode cc pc = .ok ((if k = 0 then .return_ else if k = 3 then .lreturn else .ireturn), 1) → Po ad n nl r σ → rr k r → K ad n nl ce sl pc lv (rv k r) σ
theorem w_blind (D : va_G) (cs : Nat → ClassId) (aS aV : Nat) (A : Nat → Prop) (ad : Nat → Nat) (n : Nat) (nl : Nat → Nat → Bool) (as : List Value) (σ : SS) : FrameBlind (w_Pc D cs aS aV A ad n nl as σ) := by
  intro a U g mk h
  obtain ⟨h1, h2, h3, h4, h5, h6⟩ := h
  exact ⟨h1, w_EV.same (u := U) rfl rfl h2, h3, va_K.moved (u := U) (U := U.calling g mk a) (Vm.Alike.refl U.vm) h4, h5, h6⟩
section WB
variable {p : Program} {l : Launch} {e : Env} {R : Room} {s : State} {m : MethodId} {args : Array Value} {below : List Frame} {meth : Method} {c : Code} {H : Heap} {locs : List Loc} {cells slots : Nat}
theorem w_ret0 {cc : ByteArray} {Qc : Array Value → State → Outcome → State → Prop} {free : Addr → Prop} {k : Nat} {r : Int} (hx : p.tables.exec = Jvm.exec) (hb : c.code = cc) (hr : meth.sig.returnType = rt k) (hk : k < 6) (hrr : rr k r) (hlocks : meth.locks = false)
    (hq : ∀ t : State, t.heap = H → s.WarmedH t.vm → Qc args s (.returned (rv k r).head?) t) (hf : ∀ q ∈ locs, free q.base) {pc : Nat} {ls : Array Slot} (hd : decode cc pc = .ok ((if k = 0 then .return_ else if k = 3 then .lreturn else .ireturn), 1)) :
    W p l e R s m args below meth c H locs cells slots (MQ below Qc args s cells slots free) (F0 m pc ls (rv k r)) := by
  have h4 : k = 0 ∨ k = 1 ∨ k = 2 ∨ k = 3 ∨ k = 4 ∨ k = 5 := by omega
  rcases h4 with rfl | rfl | rfl | rfl | rfl | rfl
  · exact W.vret hx hb hr hq hf hd hlocks
  · exact W.iret hx hb hr hq hf hd hlocks
  · refine W.zret (ty := .boolean) hx hb hr ?_ hq hf hd hlocks
    have h2 : r = 0 ∨ r = 1 := hrr
    rcases h2 with rfl | rfl <;> rfl
  · exact W.lret hx hb hr hq hf hd hlocks
  · refine W.zret (ty := .byte) hx hb hr ?_ hq hf hd hlocks
    have h2 : r = 0 := hrr
    rw [h2]; rfl
  · refine W.zret (ty := .char) hx hb hr ?_ hq hf hd hlocks
    have h2 : 0 ≤ r ∧ r < 128 := hrr
    have h3 := chn r.toNat (by omega)
    rw [show Int.ofNat r.toNat = r from Int.toNat_of_nonneg h2.1] at h3
    exact h3
end WB
theorem w_MC_of {l : Launch} {D : va_G} {cs : Nat → ClassId} {aS aV : Nat} {A : Nat → Prop} {y : MethodName} {cc : ByteArray} {mL k : Nat} {rm : Room} {ad : Nat → Nat} {n : Nat} {nl : Nat → Nat → Bool} {as : List Value} {σ : SS} {Po : PT} (hy : plainName y.cls = true) (hk : k < 6) (hσ : rS σ) (hlen : (lg_sl as).length ≤ mL)
    (h : ∀ K : KT, w_Cl l rm D cs aS aV A cc mL y.cls y.name K → w_Rt k cc rm.cells rm.slots Po K → K ad n nl 0 0 0 (lv_args 0 as) [] σ) : w_MC l D cs aS aV A y cc mL k rm ad n nl as σ Po := by
  refine Met.ofW (cc := cc) (maxL := mL) (ret := rt k) hy rfl ?_
  intro p e s m args below meth c s₁ B hml hv
  obtain ⟨rfl, hE, hA, hK, hP, hD⟩ := hv
  have hts := atoms_spec (ws := .code y cc mL (rt k) :: GT) B.pre
  have C : w_CX p s m as.toArray meth c cc mL y.cls y.name D cs aS aV A := ⟨B.exec, B.bytes, hml, findClass_of_methodNamed B.named, fun w hw => hts w (List.mem_cons_of_mem _ hw), hK, B.notSynchronized, hA, hE, (name_of_methodNamed B.named B.method).1⟩
  rw [lg_entry_eq]
  refine h (fun ad n nl ce sl pc lv st σ => w_GG p l e rm s m as.toArray below meth c D cs A mL (MQ below (w_QC k D cs A Po) as.toArray s rm.cells rm.slots A) ad n nl ce sl pc lv st σ) ⟨p, e, s, m, _, below, meth, c, _, C, rfl⟩ ?_ hσ s.heap [] _ hP hD va_S.rf (lv_entry as hlen)
  intro ad n nl pc lv r σ hd hpo hrr hσ H locs ls hP hD hS hlv
  exact w_ret0 B.exec B.bytes B.returns hk hrr B.notSynchronized (fun t ht hW => ⟨⟨ad, n, nl, r, σ, rfl, hpo, hrr, hσ, by rw [ht]; exact hP, hD⟩, hS.F ht⟩) hS.2.2 hd
