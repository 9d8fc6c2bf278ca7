/-! a row an instruction, over K -/
section RW
variable {l : Launch} {R : Room} {D : va_G} {cs : Nat → ClassId} {aS aV : Nat} {A : Nat → Prop} {cc : ByteArray} {nL : Nat} {own nm : String} {K : KT}
variable {ad : Nat → Nat} {n : Nat} {nl : Nat → Nat → Bool} {ce sl pc : Nat} {lv : List (Nat × Value)} {st : List Value} {σ : SS}
theorem r_iconst (h : w_Cl l R D cs aS aV A cc nL own nm K) {x : Int} (hd : decode cc pc = .ok (.iconst x, 1)) (kk : K ad n nl ce sl (pc + 1) lv (.int (vI x) :: st) σ) : K ad n nl ce sl pc lv st σ := by
  obtain ⟨p, e, s, m, args, below, meth, c, Q, C, rfl⟩ := h
  intro hσ H locs ls hP hD hS hv
  exact lv_iconst C.1 C.2.1 hd rfl (kk hσ H locs ls hP hD hS hv)
theorem r_bipush (h : w_Cl l R D cs aS aV A cc nL own nm K) {x : Int} (hd : decode cc pc = .ok (.bipush x, 2)) (hx : (Int8.ofInt x).toInt32 = vI x) (kk : K ad n nl ce sl (pc + 2) lv (.int (vI x) :: st) σ) : K ad n nl ce sl pc lv st σ := by
  obtain ⟨p, e, s, m, args, below, meth, c, Q, C, rfl⟩ := h
  intro hσ H locs ls hP hD hS hv
  exact lv_bipush C.1 C.2.1 hd hx (kk hσ H locs ls hP hD hS hv)
theorem r_sipush (h : w_Cl l R D cs aS aV A cc nL own nm K) {x : Int} (hd : decode cc pc = .ok (.sipush x, 3)) (hx : (Int16.ofInt x).toInt32 = vI x) (kk : K ad n nl ce sl (pc + 3) lv (.int (vI x) :: st) σ) : K ad n nl ce sl pc lv st σ := by
  obtain ⟨p, e, s, m, args, below, meth, c, Q, C, rfl⟩ := h
  intro hσ H locs ls hP hD hS hv
  exact lv_sipush C.1 C.2.1 hd hx (kk hσ H locs ls hP hD hS hv)
theorem r_lconst (h : w_Cl l R D cs aS aV A cc nL own nm K) {k : Fin 2} {x : Int} (hd : decode cc pc = .ok (.lconst k, 1)) (hx : Int64.ofNat (k : Nat) = vJ x) (kk : K ad n nl ce sl (pc + 1) lv (.long (vJ x) :: st) σ) : K ad n nl ce sl pc lv st σ := by
  obtain ⟨p, e, s, m, args, below, meth, c, Q, C, rfl⟩ := h
  intro hσ H locs ls hP hD hS hv
  exact lv_lconst C.1 C.2.1 hd hx (kk hσ H locs ls hP hD hS hv)
theorem r_ldc (h : w_Cl l R D cs aS aV A cc nL own nm K) {i : Nat} {x : Int} {v : Int32} (hd : decode cc pc = .ok (.ldc i, 2)) (hw : Cond.constant own i v ∈ GT) (hx : v = vI x) (kk : K ad n nl ce sl (pc + 2) lv (.int (vI x) :: st) σ) : K ad n nl ce sl pc lv st σ := by
  obtain ⟨p, e, s, m, args, below, meth, c, Q, C, rfl⟩ := h
  intro hσ H locs ls hP hD hS hv
  subst hx; exact lv_ldc C.1 C.2.1 C.2.2.2.1 (C.2.2.2.2.1 _ hw) hd (kk hσ H locs ls hP hD hS hv)
theorem r_ldcw (h : w_Cl l R D cs aS aV A cc nL own nm K) {i : Nat} {x : Int} {v : Int32} (hd : decode cc pc = .ok (.ldc_w i, 3)) (hw : Cond.constant own i v ∈ GT) (hx : v = vI x) (kk : K ad n nl ce sl (pc + 3) lv (.int (vI x) :: st) σ) : K ad n nl ce sl pc lv st σ := by
  obtain ⟨p, e, s, m, args, below, meth, c, Q, C, rfl⟩ := h
  intro hσ H locs ls hP hD hS hv
  subst hx; exact lv_ldcw C.1 C.2.1 C.2.2.2.1 (C.2.2.2.2.1 _ hw) hd (kk hσ H locs ls hP hD hS hv)
theorem r_ldc2 (h : w_Cl l R D cs aS aV A cc nL own nm K) {i : Nat} {x : Int} {v : Int64} (hd : decode cc pc = .ok (.ldc2_w i, 3)) (hw : Cond.constantLong own i v ∈ GT) (hx : v = vJ x) (kk : K ad n nl ce sl (pc + 3) lv (.long (vJ x) :: st) σ) : K ad n nl ce sl pc lv st σ := by
  obtain ⟨p, e, s, m, args, below, meth, c, Q, C, rfl⟩ := h
  intro hσ H locs ls hP hD hS hv
  subst hx; exact lv_ldc2 C.1 C.2.1 C.2.2.2.1 (C.2.2.2.2.1 _ hw) hd (kk hσ H locs ls hP hD hS hv)
theorem r_iload_n (h : w_Cl l R D cs aS aV A cc nL own nm K) {k : Fin 4} {i : Nat} {x : Int} (hd : decode cc pc = .ok (.iload_n k, 1)) (hi : (k : Nat) = i) (q : Nat) (hq : lv[q]? = some (i, .int (vI x))) (kk : K ad n nl ce sl (pc + 1) lv (.int (vI x) :: st) σ) : K ad n nl ce sl pc lv st σ := by
  obtain ⟨p, e, s, m, args, below, meth, c, Q, C, rfl⟩ := h
  intro hσ H locs ls hP hD hS hv
  exact lv_iload_n C.1 C.2.1 hd hi (lv_at hv q hq) (kk hσ H locs ls hP hD hS hv)
theorem r_iload (h : w_Cl l R D cs aS aV A cc nL own nm K) {i : Nat} {x : Int} (hd : decode cc pc = .ok (.iload i, 2)) (q : Nat) (hq : lv[q]? = some (i, .int (vI x))) (kk : K ad n nl ce sl (pc + 2) lv (.int (vI x) :: st) σ) : K ad n nl ce sl pc lv st σ := by
  obtain ⟨p, e, s, m, args, below, meth, c, Q, C, rfl⟩ := h
  intro hσ H locs ls hP hD hS hv
  exact lv_iload C.1 C.2.1 hd (lv_at hv q hq) (kk hσ H locs ls hP hD hS hv)
theorem r_istore_n (h : w_Cl l R D cs aS aV A cc nL own nm K) {k : Fin 4} {i : Nat} {x : Int} (lv' : List (Nat × Value)) (hd : decode cc pc = .ok (.istore_n k, 1)) (hi : (k : Nat) = i) (hn : i < nL) (hl : (i, Value.int (vI x)) :: lv.filter (fun q => !(q.1 == i) && !(q.1 + 1 == i && q.2.category == 2)) = lv') (kk : K ad n nl ce sl (pc + 1) lv' st σ) : K ad n nl ce sl pc lv (.int (vI x) :: st) σ := by
  obtain ⟨p, e, s, m, args, below, meth, c, Q, C, rfl⟩ := h
  intro hσ H locs ls hP hD hS hv
  exact lv_istore_n C.1 C.2.1 hd hi hv hn hl (fun ls' hv' => kk hσ H locs ls' hP hD hS hv')
theorem r_istore (h : w_Cl l R D cs aS aV A cc nL own nm K) {i : Nat} {x : Int} (lv' : List (Nat × Value)) (hd : decode cc pc = .ok (.istore i, 2)) (hn : i < nL) (hl : (i, Value.int (vI x)) :: lv.filter (fun q => !(q.1 == i) && !(q.1 + 1 == i && q.2.category == 2)) = lv') (kk : K ad n nl ce sl (pc + 2) lv' st σ) : K ad n nl ce sl pc lv (.int (vI x) :: st) σ := by
  obtain ⟨p, e, s, m, args, below, meth, c, Q, C, rfl⟩ := h
  intro hσ H locs ls hP hD hS hv
  exact lv_istore C.1 C.2.1 hd hv hn hl (fun ls' hv' => kk hσ H locs ls' hP hD hS hv')
theorem r_lload_n (h : w_Cl l R D cs aS aV A cc nL own nm K) {k : Fin 4} {i : Nat} {x : Int} (hd : decode cc pc = .ok (.lload_n k, 1)) (hi : (k : Nat) = i) (q : Nat) (hq : lv[q]? = some (i, .long (vJ x))) (kk : K ad n nl ce sl (pc + 1) lv (.long (vJ x) :: st) σ) : K ad n nl ce sl pc lv st σ := by
  obtain ⟨p, e, s, m, args, below, meth, c, Q, C, rfl⟩ := h
  intro hσ H locs ls hP hD hS hv
  exact lv_lload_n C.1 C.2.1 hd hi (lv_at hv q hq) (kk hσ H locs ls hP hD hS hv)
theorem r_lload (h : w_Cl l R D cs aS aV A cc nL own nm K) {i : Nat} {x : Int} (hd : decode cc pc = .ok (.lload i, 2)) (q : Nat) (hq : lv[q]? = some (i, .long (vJ x))) (kk : K ad n nl ce sl (pc + 2) lv (.long (vJ x) :: st) σ) : K ad n nl ce sl pc lv st σ := by
  obtain ⟨p, e, s, m, args, below, meth, c, Q, C, rfl⟩ := h
  intro hσ H locs ls hP hD hS hv
  exact lv_lload C.1 C.2.1 hd (lv_at hv q hq) (kk hσ H locs ls hP hD hS hv)
theorem r_lstore_n (h : w_Cl l R D cs aS aV A cc nL own nm K) {k : Fin 4} {i : Nat} {x : Int} (lv' : List (Nat × Value)) (hd : decode cc pc = .ok (.lstore_n k, 1)) (hi : (k : Nat) = i) (hn : i + 1 < nL) (hl : (i, Value.long (vJ x)) :: lv.filter (fun q => !(q.1 == i) && (!(q.1 == i + 1) && !(q.1 + 1 == i && q.2.category == 2))) = lv') (kk : K ad n nl ce sl (pc + 1) lv' st σ) : K ad n nl ce sl pc lv (.long (vJ x) :: st) σ := by
  obtain ⟨p, e, s, m, args, below, meth, c, Q, C, rfl⟩ := h
  intro hσ H locs ls hP hD hS hv
  exact lv_lstore_n C.1 C.2.1 hd hi hv hn hl (fun ls' hv' => kk hσ H locs ls' hP hD hS hv')
theorem r_lstore (h : w_Cl l R D cs aS aV A cc nL own nm K) {i : Nat} {x : Int} (lv' : List (Nat × Value)) (hd : decode cc pc = .ok (.lstore i, 2)) (hn : i + 1 < nL) (hl : (i, Value.long (vJ x)) :: lv.filter (fun q => !(q.1 == i) && (!(q.1 == i + 1) && !(q.1 + 1 == i && q.2.category == 2))) = lv') (kk : K ad n nl ce sl (pc + 2) lv' st σ) : K ad n nl ce sl pc lv (.long (vJ x) :: st) σ := by
  obtain ⟨p, e, s, m, args, below, meth, c, Q, C, rfl⟩ := h
  intro hσ H locs ls hP hD hS hv
  exact lv_lstore C.1 C.2.1 hd hv hn hl (fun ls' hv' => kk hσ H locs ls' hP hD hS hv')
theorem r_aload_n (h : w_Cl l R D cs aS aV A cc nL own nm K) {k : Fin 4} {i : Nat} {x : Nat} (hd : decode cc pc = .ok (.aload_n k, 1)) (hi : (k : Nat) = i) (q : Nat) (hq : lv[q]? = some (i, .ref x)) (kk : K ad n nl ce sl (pc + 1) lv (.ref x :: st) σ) : K ad n nl ce sl pc lv st σ := by
  obtain ⟨p, e, s, m, args, below, meth, c, Q, C, rfl⟩ := h
  intro hσ H locs ls hP hD hS hv
  exact lv_aload_n C.1 C.2.1 hd hi (lv_at hv q hq) (kk hσ H locs ls hP hD hS hv)
theorem r_aload (h : w_Cl l R D cs aS aV A cc nL own nm K) {i : Nat} {x : Nat} (hd : decode cc pc = .ok (.aload i, 2)) (q : Nat) (hq : lv[q]? = some (i, .ref x)) (kk : K ad n nl ce sl (pc + 2) lv (.ref x :: st) σ) : K ad n nl ce sl pc lv st σ := by
  obtain ⟨p, e, s, m, args, below, meth, c, Q, C, rfl⟩ := h
  intro hσ H locs ls hP hD hS hv
  exact lv_aload C.1 C.2.1 hd (lv_at hv q hq) (kk hσ H locs ls hP hD hS hv)
theorem r_astore_n (h : w_Cl l R D cs aS aV A cc nL own nm K) {k : Fin 4} {i : Nat} {x : Nat} (lv' : List (Nat × Value)) (hd : decode cc pc = .ok (.astore_n k, 1)) (hi : (k : Nat) = i) (hn : i < nL) (hl : (i, Value.ref x) :: lv.filter (fun q => !(q.1 == i) && !(q.1 + 1 == i && q.2.category == 2)) = lv') (kk : K ad n nl ce sl (pc + 1) lv' st σ) : K ad n nl ce sl pc lv (.ref x :: st) σ := by
  obtain ⟨p, e, s, m, args, below, meth, c, Q, C, rfl⟩ := h
  intro hσ H locs ls hP hD hS hv
  exact lv_astore_n C.1 C.2.1 hd hi hv hn hl (fun ls' hv' => kk hσ H locs ls' hP hD hS hv')
theorem r_astore (h : w_Cl l R D cs aS aV A cc nL own nm K) {i : Nat} {x : Nat} (lv' : List (Nat × Value)) (hd : decode cc pc = .ok (.astore i, 2)) (hn : i < nL) (hl : (i, Value.ref x) :: lv.filter (fun q => !(q.1 == i) && !(q.1 + 1 == i && q.2.category == 2)) = lv') (kk : K ad n nl ce sl (pc + 2) lv' st σ) : K ad n nl ce sl pc lv (.ref x :: st) σ := by
  obtain ⟨p, e, s, m, args, below, meth, c, Q, C, rfl⟩ := h
  intro hσ H locs ls hP hD hS hv
  exact lv_astore C.1 C.2.1 hd hv hn hl (fun ls' hv' => kk hσ H locs ls' hP hD hS hv')
theorem r_iinc (h : w_Cl l R D cs aS aV A cc nL own nm K) {i : Nat} {x d : Int} (lv' : List (Nat × Value)) (hd : decode cc pc = .ok (.iinc i d, 3)) (q : Nat) (hq : lv[q]? = some (i, .int (vI x))) (hn : i < nL) (hl : (i, Value.int (vI (iw (x + d)))) :: lv.filter (fun q => !(q.1 == i) && !(q.1 + 1 == i && q.2.category == 2)) = lv') (kk : K ad n nl ce sl (pc + 3) lv' st σ) : K ad n nl ce sl pc lv st σ := by
  obtain ⟨p, e, s, m, args, below, meth, c, Q, C, rfl⟩ := h
  intro hσ H locs ls hP hD hS hv
  exact lv_iinc C.1 C.2.1 hd hv hq (vI_add x d) hn hl (fun ls' hv' => kk hσ H locs ls' hP hD hS hv')
theorem r_iadd (h : w_Cl l R D cs aS aV A cc nL own nm K) {x y : Int} (hd : decode cc pc = .ok (.iadd, 1)) (kk : K ad n nl ce sl (pc + 1) lv (.int (vI (iw (x + y))) :: st) σ) : K ad n nl ce sl pc lv (.int (vI y) :: .int (vI x) :: st) σ := by
  obtain ⟨p, e, s, m, args, below, meth, c, Q, C, rfl⟩ := h
  intro hσ H locs ls hP hD hS hv
  have k2 := (kk hσ H locs ls hP hD hS hv)
  rw [← vI_add] at k2; exact lv_iadd C.1 C.2.1 hd k2
theorem r_isub (h : w_Cl l R D cs aS aV A cc nL own nm K) {x y : Int} (hd : decode cc pc = .ok (.isub, 1)) (kk : K ad n nl ce sl (pc + 1) lv (.int (vI (iw (x - y))) :: st) σ) : K ad n nl ce sl pc lv (.int (vI y) :: .int (vI x) :: st) σ := by
  obtain ⟨p, e, s, m, args, below, meth, c, Q, C, rfl⟩ := h
  intro hσ H locs ls hP hD hS hv
  have k2 := (kk hσ H locs ls hP hD hS hv)
  rw [← vI_sub] at k2; exact lv_isub C.1 C.2.1 hd k2
theorem r_imul (h : w_Cl l R D cs aS aV A cc nL own nm K) {x y : Int} (hd : decode cc pc = .ok (.imul, 1)) (kk : K ad n nl ce sl (pc + 1) lv (.int (vI (iw (x * y))) :: st) σ) : K ad n nl ce sl pc lv (.int (vI y) :: .int (vI x) :: st) σ := by
  obtain ⟨p, e, s, m, args, below, meth, c, Q, C, rfl⟩ := h
  intro hσ H locs ls hP hD hS hv
  have k2 := (kk hσ H locs ls hP hD hS hv)
  rw [← vI_mul] at k2; exact lv_imul C.1 C.2.1 hd k2
theorem r_ladd (h : w_Cl l R D cs aS aV A cc nL own nm K) {x y : Int} (hd : decode cc pc = .ok (.ladd, 1)) (kk : K ad n nl ce sl (pc + 1) lv (.long (vJ (jw (x + y))) :: st) σ) : K ad n nl ce sl pc lv (.long (vJ y) :: .long (vJ x) :: st) σ := by
  obtain ⟨p, e, s, m, args, below, meth, c, Q, C, rfl⟩ := h
  intro hσ H locs ls hP hD hS hv
  have k2 := (kk hσ H locs ls hP hD hS hv)
  rw [← vJ_add] at k2; exact lv_ladd C.1 C.2.1 hd k2
theorem r_lsub (h : w_Cl l R D cs aS aV A cc nL own nm K) {x y : Int} (hd : decode cc pc = .ok (.lsub, 1)) (kk : K ad n nl ce sl (pc + 1) lv (.long (vJ (jw (x - y))) :: st) σ) : K ad n nl ce sl pc lv (.long (vJ y) :: .long (vJ x) :: st) σ := by
  obtain ⟨p, e, s, m, args, below, meth, c, Q, C, rfl⟩ := h
  intro hσ H locs ls hP hD hS hv
  have k2 := (kk hσ H locs ls hP hD hS hv)
  rw [← vJ_sub] at k2; exact lv_lsub C.1 C.2.1 hd k2
theorem r_lmul (h : w_Cl l R D cs aS aV A cc nL own nm K) {x y : Int} (hd : decode cc pc = .ok (.lmul, 1)) (kk : K ad n nl ce sl (pc + 1) lv (.long (vJ (jw (x * y))) :: st) σ) : K ad n nl ce sl pc lv (.long (vJ y) :: .long (vJ x) :: st) σ := by
  obtain ⟨p, e, s, m, args, below, meth, c, Q, C, rfl⟩ := h
  intro hσ H locs ls hP hD hS hv
  have k2 := (kk hσ H locs ls hP hD hS hv)
  rw [← vJ_mul] at k2; exact lv_lmul C.1 C.2.1 hd k2
theorem r_idiv (h : w_Cl l R D cs aS aV A cc nL own nm K) {x y : Int} (hd : decode cc pc = .ok (.idiv, 1)) (hx : rI x) (hy : rI y) (h0 : ¬ y = 0) (kk : K ad n nl ce sl (pc + 1) lv (.int (vI (iw (Int.tdiv x y))) :: st) σ) : K ad n nl ce sl pc lv (.int (vI y) :: .int (vI x) :: st) σ := by
  obtain ⟨p, e, s, m, args, below, meth, c, Q, C, rfl⟩ := h
  intro hσ H locs ls hP hD hS hv
  have k2 := (kk hσ H locs ls hP hD hS hv)
  have hne : ¬ vI y = 0 := fun z => h0 ((vI_eq hy (by unfold rI; omega)).mp (z.trans (by decide)))
  rw [← vI_div hx hy] at k2; exact lv_idiv C.1 C.2.1 hd hne k2
theorem r_irem (h : w_Cl l R D cs aS aV A cc nL own nm K) {x y : Int} (hd : decode cc pc = .ok (.irem, 1)) (hx : rI x) (hy : rI y) (h0 : ¬ y = 0) (kk : K ad n nl ce sl (pc + 1) lv (.int (vI (Int.tmod x y)) :: st) σ) : K ad n nl ce sl pc lv (.int (vI y) :: .int (vI x) :: st) σ := by
  obtain ⟨p, e, s, m, args, below, meth, c, Q, C, rfl⟩ := h
  intro hσ H locs ls hP hD hS hv
  have k2 := (kk hσ H locs ls hP hD hS hv)
  have hne : ¬ vI y = 0 := fun z => h0 ((vI_eq hy (by unfold rI; omega)).mp (z.trans (by decide)))
  rw [← vI_rem hx hy] at k2; exact lv_irem C.1 C.2.1 hd hne k2
theorem r_iand (h : w_Cl l R D cs aS aV A cc nL own nm K) {x y : Int} (hd : decode cc pc = .ok (.iand, 1)) (kk : K ad n nl ce sl (pc + 1) lv (.int (vI (zand x y)) :: st) σ) : K ad n nl ce sl pc lv (.int (vI y) :: .int (vI x) :: st) σ := by
  obtain ⟨p, e, s, m, args, below, meth, c, Q, C, rfl⟩ := h
  intro hσ H locs ls hP hD hS hv
  have k2 := (kk hσ H locs ls hP hD hS hv)
  rw [zand_def, vI_of] at k2; exact lv_iand C.1 C.2.1 hd k2
theorem r_ior (h : w_Cl l R D cs aS aV A cc nL own nm K) {x y : Int} (hd : decode cc pc = .ok (.ior, 1)) (kk : K ad n nl ce sl (pc + 1) lv (.int (vI (zor x y)) :: st) σ) : K ad n nl ce sl pc lv (.int (vI y) :: .int (vI x) :: st) σ := by
  obtain ⟨p, e, s, m, args, below, meth, c, Q, C, rfl⟩ := h
  intro hσ H locs ls hP hD hS hv
  have k2 := (kk hσ H locs ls hP hD hS hv)
  rw [zor_def, vI_of] at k2; exact lv_ior C.1 C.2.1 hd k2
theorem r_ixor (h : w_Cl l R D cs aS aV A cc nL own nm K) {x y : Int} (hd : decode cc pc = .ok (.ixor, 1)) (kk : K ad n nl ce sl (pc + 1) lv (.int (vI (zxor x y)) :: st) σ) : K ad n nl ce sl pc lv (.int (vI y) :: .int (vI x) :: st) σ := by
  obtain ⟨p, e, s, m, args, below, meth, c, Q, C, rfl⟩ := h
  intro hσ H locs ls hP hD hS hv
  have k2 := (kk hσ H locs ls hP hD hS hv)
  rw [zxor_def, vI_of] at k2; exact lv_ixor C.1 C.2.1 hd k2
theorem r_ishl (h : w_Cl l R D cs aS aV A cc nL own nm K) {x y : Int} (hd : decode cc pc = .ok (.ishl, 1)) (kk : K ad n nl ce sl (pc + 1) lv (.int (vI (zshl x y)) :: st) σ) : K ad n nl ce sl pc lv (.int (vI y) :: .int (vI x) :: st) σ := by
  obtain ⟨p, e, s, m, args, below, meth, c, Q, C, rfl⟩ := h
  intro hσ H locs ls hP hD hS hv
  have k2 := (kk hσ H locs ls hP hD hS hv)
  rw [zshl_def, vI_of] at k2; exact lv_ishl C.1 C.2.1 hd k2
theorem r_ishr (h : w_Cl l R D cs aS aV A cc nL own nm K) {x y : Int} (hd : decode cc pc = .ok (.ishr, 1)) (kk : K ad n nl ce sl (pc + 1) lv (.int (vI (zshr x y)) :: st) σ) : K ad n nl ce sl pc lv (.int (vI y) :: .int (vI x) :: st) σ := by
  obtain ⟨p, e, s, m, args, below, meth, c, Q, C, rfl⟩ := h
  intro hσ H locs ls hP hD hS hv
  have k2 := (kk hσ H locs ls hP hD hS hv)
  rw [zshr_def, vI_of] at k2; exact lv_ishr C.1 C.2.1 hd k2
theorem r_land (h : w_Cl l R D cs aS aV A cc nL own nm K) {x y : Int} (hd : decode cc pc = .ok (.land, 1)) (kk : K ad n nl ce sl (pc + 1) lv (.long (vJ (yand x y)) :: st) σ) : K ad n nl ce sl pc lv (.long (vJ y) :: .long (vJ x) :: st) σ := by
  obtain ⟨p, e, s, m, args, below, meth, c, Q, C, rfl⟩ := h
  intro hσ H locs ls hP hD hS hv
  have k2 := (kk hσ H locs ls hP hD hS hv)
  rw [yand_def, vJ_of] at k2; exact lv_land C.1 C.2.1 hd k2
theorem r_lor (h : w_Cl l R D cs aS aV A cc nL own nm K) {x y : Int} (hd : decode cc pc = .ok (.lor, 1)) (kk : K ad n nl ce sl (pc + 1) lv (.long (vJ (yor x y)) :: st) σ) : K ad n nl ce sl pc lv (.long (vJ y) :: .long (vJ x) :: st) σ := by
  obtain ⟨p, e, s, m, args, below, meth, c, Q, C, rfl⟩ := h
  intro hσ H locs ls hP hD hS hv
  have k2 := (kk hσ H locs ls hP hD hS hv)
  rw [yor_def, vJ_of] at k2; exact lv_lor C.1 C.2.1 hd k2
theorem r_lxor (h : w_Cl l R D cs aS aV A cc nL own nm K) {x y : Int} (hd : decode cc pc = .ok (.lxor, 1)) (kk : K ad n nl ce sl (pc + 1) lv (.long (vJ (yxor x y)) :: st) σ) : K ad n nl ce sl pc lv (.long (vJ y) :: .long (vJ x) :: st) σ := by
  obtain ⟨p, e, s, m, args, below, meth, c, Q, C, rfl⟩ := h
  intro hσ H locs ls hP hD hS hv
  have k2 := (kk hσ H locs ls hP hD hS hv)
  rw [yxor_def, vJ_of] at k2; exact lv_lxor C.1 C.2.1 hd k2
theorem r_lshl (h : w_Cl l R D cs aS aV A cc nL own nm K) {x y : Int} (hd : decode cc pc = .ok (.lshl, 1)) (kk : K ad n nl ce sl (pc + 1) lv (.long (vJ (yshl x y)) :: st) σ) : K ad n nl ce sl pc lv (.int (vI y) :: .long (vJ x) :: st) σ := by
  obtain ⟨p, e, s, m, args, below, meth, c, Q, C, rfl⟩ := h
  intro hσ H locs ls hP hD hS hv
  have k2 := (kk hσ H locs ls hP hD hS hv)
  rw [yshl_def, vJ_of] at k2; exact lv_lshl C.1 C.2.1 hd rfl k2
theorem r_lshr (h : w_Cl l R D cs aS aV A cc nL own nm K) {x y : Int} (hd : decode cc pc = .ok (.lshr, 1)) (kk : K ad n nl ce sl (pc + 1) lv (.long (vJ (yshr x y)) :: st) σ) : K ad n nl ce sl pc lv (.int (vI y) :: .long (vJ x) :: st) σ := by
  obtain ⟨p, e, s, m, args, below, meth, c, Q, C, rfl⟩ := h
  intro hσ H locs ls hP hD hS hv
  have k2 := (kk hσ H locs ls hP hD hS hv)
  rw [yshr_def, vJ_of] at k2; exact lv_lshr C.1 C.2.1 hd rfl k2
theorem r_lushr (h : w_Cl l R D cs aS aV A cc nL own nm K) {x y : Int} (hd : decode cc pc = .ok (.lushr, 1)) (kk : K ad n nl ce sl (pc + 1) lv (.long (vJ (yushr x y)) :: st) σ) : K ad n nl ce sl pc lv (.int (vI y) :: .long (vJ x) :: st) σ := by
  obtain ⟨p, e, s, m, args, below, meth, c, Q, C, rfl⟩ := h
  intro hσ H locs ls hP hD hS hv
  have k2 := (kk hσ H locs ls hP hD hS hv)
  rw [yushr_def, vJ_of] at k2; exact lv_lushr C.1 C.2.1 hd rfl k2
theorem r_lcmp (h : w_Cl l R D cs aS aV A cc nL own nm K) {x y : Int} (hd : decode cc pc = .ok (.lcmp, 1)) (hx : rJ x) (hy : rJ y) (kk : K ad n nl ce sl (pc + 1) lv (.int (vI (ycmp x y)) :: st) σ) : K ad n nl ce sl pc lv (.long (vJ y) :: .long (vJ x) :: st) σ := by
  obtain ⟨p, e, s, m, args, below, meth, c, Q, C, rfl⟩ := h
  intro hσ H locs ls hP hD hS hv
  have k2 := (kk hσ H locs ls hP hD hS hv)
  rw [← ycmp_eq hx hy] at k2; exact W.lcmp C.1 C.2.1 hd k2
theorem r_ineg (h : w_Cl l R D cs aS aV A cc nL own nm K) {x : Int} (hd : decode cc pc = .ok (.ineg, 1)) (kk : K ad n nl ce sl (pc + 1) lv (.int (vI (iw (-x))) :: st) σ) : K ad n nl ce sl pc lv (.int (vI x) :: st) σ := by
  obtain ⟨p, e, s, m, args, below, meth, c, Q, C, rfl⟩ := h
  intro hσ H locs ls hP hD hS hv
  have k2 := (kk hσ H locs ls hP hD hS hv)
  rw [← vI_neg] at k2; exact lv_ineg C.1 C.2.1 hd k2
theorem r_i2l (h : w_Cl l R D cs aS aV A cc nL own nm K) {x : Int} (hd : decode cc pc = .ok (.i2l, 1)) (hx : rI x) (kk : K ad n nl ce sl (pc + 1) lv (.long (vJ x) :: st) σ) : K ad n nl ce sl pc lv (.int (vI x) :: st) σ := by
  obtain ⟨p, e, s, m, args, below, meth, c, Q, C, rfl⟩ := h
  intro hσ H locs ls hP hD hS hv
  have k2 := (kk hσ H locs ls hP hD hS hv)
  exact lv_i2l C.1 C.2.1 hd (vI_i2l hx) k2
theorem r_l2i (h : w_Cl l R D cs aS aV A cc nL own nm K) {x : Int} (hd : decode cc pc = .ok (.l2i, 1)) (hx : rJ x) (kk : K ad n nl ce sl (pc + 1) lv (.int (vI (iw x)) :: st) σ) : K ad n nl ce sl pc lv (.long (vJ x) :: st) σ := by
  obtain ⟨p, e, s, m, args, below, meth, c, Q, C, rfl⟩ := h
  intro hσ H locs ls hP hD hS hv
  have k2 := (kk hσ H locs ls hP hD hS hv)
  exact lv_l2i C.1 C.2.1 hd (vJ_l2i hx) k2
theorem r_i2c (h : w_Cl l R D cs aS aV A cc nL own nm K) {x : Int} (hd : decode cc pc = .ok (.i2c, 1)) (kk : K ad n nl ce sl (pc + 1) lv (.int (vI (zi2c x)) :: st) σ) : K ad n nl ce sl pc lv (.int (vI x) :: st) σ := by
  obtain ⟨p, e, s, m, args, below, meth, c, Q, C, rfl⟩ := h
  intro hσ H locs ls hP hD hS hv
  have k2 := (kk hσ H locs ls hP hD hS hv)
  rw [zi2c_def, vI_of] at k2; exact lv_i2c C.1 C.2.1 hd rfl k2
theorem r_i2b (h : w_Cl l R D cs aS aV A cc nL own nm K) {x : Int} (hd : decode cc pc = .ok (.i2b, 1)) (kk : K ad n nl ce sl (pc + 1) lv (.int (vI (zi2b x)) :: st) σ) : K ad n nl ce sl pc lv (.int (vI x) :: st) σ := by
  obtain ⟨p, e, s, m, args, below, meth, c, Q, C, rfl⟩ := h
  intro hσ H locs ls hP hD hS hv
  have k2 := (kk hσ H locs ls hP hD hS hv)
  exact lv_i2b C.1 C.2.1 hd (by rw [zi2b_def]; exact (Int32.toInt_inj.1 (by rw [Int8.toInt_toInt32, vI_to (by have h1 := Int8.toInt_lt (vI x).toInt8; have h2 := Int8.le_toInt (vI x).toInt8; unfold rI; omega)]))) k2
theorem r_idivP (h : w_Cl l R D cs aS aV A cc nL own nm K) {x y : Int} (hd : decode cc pc = .ok (.idiv, 1)) (hx : rI x) (hy : rI y) (h1 : 1 ≤ y) (kk : K ad n nl ce sl (pc + 1) lv (.int (vI (Int.tdiv x y)) :: st) σ) : K ad n nl ce sl pc lv (.int (vI y) :: .int (vI x) :: st) σ := r_idiv h hd hx hy (by omega) (by rw [iw_id (rI_tdivP hx h1)]; exact kk)
theorem r_sub (h : w_Cl l R D cs aS aV A cc nL own nm K) {lv' : List (Nat × Value)} (ks : List Nat) (hl : lv_pick lv ks = lv') (kk : K ad n nl ce sl pc lv' st σ) : K ad n nl ce sl pc lv st σ := by
  obtain ⟨p, e, s, m, args, below, meth, c, Q, C, rfl⟩ := h
  intro hσ H locs ls hP hD hS hv
  exact kk hσ H locs ls hP hD hS (lv_sub hv ks hl)
theorem r_lv {lv' : List (Nat × Value)} (hl : lv = lv') (kk : K ad n nl ce sl pc lv' st σ) : K ad n nl ce sl pc lv st σ := hl ▸ kk
theorem r_st {st0 : List Value} (hl : st = st0) (kk : K ad n nl ce sl pc lv st0 σ) : K ad n nl ce sl pc lv st σ := hl ▸ kk
theorem r_dup (h : w_Cl l R D cs aS aV A cc nL own nm K) {v : Value} (hd : decode cc pc = .ok (.dup, 1)) (hc : v.category = 1) (kk : K ad n nl ce sl (pc + 1) lv (v :: v :: st) σ) : K ad n nl ce sl pc lv (v :: st) σ := by
  obtain ⟨p, e, s, m, args, below, meth, c, Q, C, rfl⟩ := h
  intro hσ H locs ls hP hD hS hv
  exact lv_dup C.1 C.2.1 hd hc (kk hσ H locs ls hP hD hS hv)
theorem r_dup2a (h : w_Cl l R D cs aS aV A cc nL own nm K) {v u : Value} (hd : decode cc pc = .ok (.dup2, 1)) (hc : v.category = 1) (hu : u.category = 1) (kk : K ad n nl ce sl (pc + 1) lv (v :: u :: v :: u :: st) σ) : K ad n nl ce sl pc lv (v :: u :: st) σ := by
  obtain ⟨p, e, s, m, args, below, meth, c, Q, C, rfl⟩ := h
  intro hσ H locs ls hP hD hS hv
  exact lv_dup2_11 C.1 C.2.1 hd hc hu (kk hσ H locs ls hP hD hS hv)
theorem r_pop (h : w_Cl l R D cs aS aV A cc nL own nm K) {v : Value} (hd : decode cc pc = .ok (.pop, 1)) (hc : v.category = 1) (kk : K ad n nl ce sl (pc + 1) lv st σ) : K ad n nl ce sl pc lv (v :: st) σ := by
  obtain ⟨p, e, s, m, args, below, meth, c, Q, C, rfl⟩ := h
  intro hσ H locs ls hP hD hS hv
  exact lv_pop C.1 C.2.1 hd hc (kk hσ H locs ls hP hD hS hv)
theorem r_icmp_eq (h : w_Cl l R D cs aS aV A cc nL own nm K) {x y off : Int} {tgt : Nat} (hd : decode cc pc = .ok (.if_icmp .eq off, 3)) (ht : (pc : Int) + off = (tgt : Int)) (hx : rI x) (hy : rI y) (kt : x = y → K ad n nl ce sl tgt lv st σ) (kf : ¬ (x = y) → K ad n nl ce sl (pc + 3) lv st σ) : K ad n nl ce sl pc lv (.int (vI y) :: .int (vI x) :: st) σ := by
  obtain ⟨p, e, s, m, args, below, meth, c, Q, C, rfl⟩ := h
  intro hσ H locs ls hP hD hS hv
  exact lv_icmp_eq C.1 C.2.1 hd ht (fun z => kt ((vI_eq hx hy).mp z) hσ H locs ls hP hD hS hv) (fun z => kf (fun q => z ((vI_eq hx hy).mpr q)) hσ H locs ls hP hD hS hv)
theorem r_if_eq (h : w_Cl l R D cs aS aV A cc nL own nm K) {x off : Int} {tgt : Nat} (hd : decode cc pc = .ok (.ifCond .eq off, 3)) (ht : (pc : Int) + off = (tgt : Int)) (hx : rI x) (kt : x = 0 → K ad n nl ce sl tgt lv st σ) (kf : ¬ (x = 0) → K ad n nl ce sl (pc + 3) lv st σ) : K ad n nl ce sl pc lv (.int (vI x) :: st) σ := by
  obtain ⟨p, e, s, m, args, below, meth, c, Q, C, rfl⟩ := h
  intro hσ H locs ls hP hD hS hv
  have z0 : (0 : Int32) = vI 0 := rfl
  have r0 : rI 0 := by unfold rI; omega
  exact lv_if_eq C.1 C.2.1 hd ht (fun z => kt ((vI_eq hx r0).mp (z.trans z0)) hσ H locs ls hP hD hS hv) (fun z => kf (fun q => z (by rw [q]; rfl)) hσ H locs ls hP hD hS hv)
theorem r_icmp_ne (h : w_Cl l R D cs aS aV A cc nL own nm K) {x y off : Int} {tgt : Nat} (hd : decode cc pc = .ok (.if_icmp .ne off, 3)) (ht : (pc : Int) + off = (tgt : Int)) (hx : rI x) (hy : rI y) (kt : ¬ x = y → K ad n nl ce sl tgt lv st σ) (kf : ¬ (¬ x = y) → K ad n nl ce sl (pc + 3) lv st σ) : K ad n nl ce sl pc lv (.int (vI y) :: .int (vI x) :: st) σ := by
  obtain ⟨p, e, s, m, args, below, meth, c, Q, C, rfl⟩ := h
  intro hσ H locs ls hP hD hS hv
  exact lv_icmp_ne C.1 C.2.1 hd ht (fun z => kt (fun q => z ((vI_eq hx hy).mpr q)) hσ H locs ls hP hD hS hv) (fun z => kf (fun q => q ((vI_eq hx hy).mp z)) hσ H locs ls hP hD hS hv)
theorem r_if_ne (h : w_Cl l R D cs aS aV A cc nL own nm K) {x off : Int} {tgt : Nat} (hd : decode cc pc = .ok (.ifCond .ne off, 3)) (ht : (pc : Int) + off = (tgt : Int)) (hx : rI x) (kt : ¬ x = 0 → K ad n nl ce sl tgt lv st σ) (kf : ¬ (¬ x = 0) → K ad n nl ce sl (pc + 3) lv st σ) : K ad n nl ce sl pc lv (.int (vI x) :: st) σ := by
  obtain ⟨p, e, s, m, args, below, meth, c, Q, C, rfl⟩ := h
  intro hσ H locs ls hP hD hS hv
  have z0 : (0 : Int32) = vI 0 := rfl
  have r0 : rI 0 := by unfold rI; omega
  exact lv_if_ne C.1 C.2.1 hd ht (fun z => kt (fun q => z (by rw [q]; rfl)) hσ H locs ls hP hD hS hv) (fun z => kf (fun q => q ((vI_eq hx r0).mp (z.trans z0))) hσ H locs ls hP hD hS hv)
theorem r_icmp_lt (h : w_Cl l R D cs aS aV A cc nL own nm K) {x y off : Int} {tgt : Nat} (hd : decode cc pc = .ok (.if_icmp .lt off, 3)) (ht : (pc : Int) + off = (tgt : Int)) (hx : rI x) (hy : rI y) (kt : x < y → K ad n nl ce sl tgt lv st σ) (kf : ¬ (x < y) → K ad n nl ce sl (pc + 3) lv st σ) : K ad n nl ce sl pc lv (.int (vI y) :: .int (vI x) :: st) σ := by
  obtain ⟨p, e, s, m, args, below, meth, c, Q, C, rfl⟩ := h
  intro hσ H locs ls hP hD hS hv
  exact lv_icmp_lt C.1 C.2.1 hd ht (fun z => kt ((vI_lt hx hy).mp z) hσ H locs ls hP hD hS hv) (fun z => kf (fun q => z ((vI_lt hx hy).mpr q)) hσ H locs ls hP hD hS hv)
theorem r_if_lt (h : w_Cl l R D cs aS aV A cc nL own nm K) {x off : Int} {tgt : Nat} (hd : decode cc pc = .ok (.ifCond .lt off, 3)) (ht : (pc : Int) + off = (tgt : Int)) (hx : rI x) (kt : x < 0 → K ad n nl ce sl tgt lv st σ) (kf : ¬ (x < 0) → K ad n nl ce sl (pc + 3) lv st σ) : K ad n nl ce sl pc lv (.int (vI x) :: st) σ := by
  obtain ⟨p, e, s, m, args, below, meth, c, Q, C, rfl⟩ := h
  intro hσ H locs ls hP hD hS hv
  have z0 : (0 : Int32) = vI 0 := rfl
  have r0 : rI 0 := by unfold rI; omega
  exact lv_if_lt C.1 C.2.1 hd ht (fun z => kt ((vI_lt hx r0).mp (by rw [← z0]; exact z)) hσ H locs ls hP hD hS hv) (fun z => kf (fun q => z (by have t := (vI_lt hx r0).mpr q; rw [← z0] at t; exact t)) hσ H locs ls hP hD hS hv)
theorem r_icmp_ge (h : w_Cl l R D cs aS aV A cc nL own nm K) {x y off : Int} {tgt : Nat} (hd : decode cc pc = .ok (.if_icmp .ge off, 3)) (ht : (pc : Int) + off = (tgt : Int)) (hx : rI x) (hy : rI y) (kt : y ≤ x → K ad n nl ce sl tgt lv st σ) (kf : ¬ (y ≤ x) → K ad n nl ce sl (pc + 3) lv st σ) : K ad n nl ce sl pc lv (.int (vI y) :: .int (vI x) :: st) σ := by
  obtain ⟨p, e, s, m, args, below, meth, c, Q, C, rfl⟩ := h
  intro hσ H locs ls hP hD hS hv
  exact lv_icmp_ge C.1 C.2.1 hd ht (fun z => kt ((vI_le hy hx).mp z) hσ H locs ls hP hD hS hv) (fun z => kf (fun q => z ((vI_le hy hx).mpr q)) hσ H locs ls hP hD hS hv)
theorem r_if_ge (h : w_Cl l R D cs aS aV A cc nL own nm K) {x off : Int} {tgt : Nat} (hd : decode cc pc = .ok (.ifCond .ge off, 3)) (ht : (pc : Int) + off = (tgt : Int)) (hx : rI x) (kt : 0 ≤ x → K ad n nl ce sl tgt lv st σ) (kf : ¬ (0 ≤ x) → K ad n nl ce sl (pc + 3) lv st σ) : K ad n nl ce sl pc lv (.int (vI x) :: st) σ := by
  obtain ⟨p, e, s, m, args, below, meth, c, Q, C, rfl⟩ := h
  intro hσ H locs ls hP hD hS hv
  have z0 : (0 : Int32) = vI 0 := rfl
  have r0 : rI 0 := by unfold rI; omega
  exact lv_if_ge C.1 C.2.1 hd ht (fun z => kt ((vI_le r0 hx).mp (by rw [← z0]; exact z)) hσ H locs ls hP hD hS hv) (fun z => kf (fun q => z (by have t := (vI_le r0 hx).mpr q; rw [← z0] at t; exact t)) hσ H locs ls hP hD hS hv)
theorem r_icmp_gt (h : w_Cl l R D cs aS aV A cc nL own nm K) {x y off : Int} {tgt : Nat} (hd : decode cc pc = .ok (.if_icmp .gt off, 3)) (ht : (pc : Int) + off = (tgt : Int)) (hx : rI x) (hy : rI y) (kt : y < x → K ad n nl ce sl tgt lv st σ) (kf : ¬ (y < x) → K ad n nl ce sl (pc + 3) lv st σ) : K ad n nl ce sl pc lv (.int (vI y) :: .int (vI x) :: st) σ := by
  obtain ⟨p, e, s, m, args, below, meth, c, Q, C, rfl⟩ := h
  intro hσ H locs ls hP hD hS hv
  exact lv_icmp_gt C.1 C.2.1 hd ht (fun z => kt ((vI_lt hy hx).mp z) hσ H locs ls hP hD hS hv) (fun z => kf (fun q => z ((vI_lt hy hx).mpr q)) hσ H locs ls hP hD hS hv)
theorem r_if_gt (h : w_Cl l R D cs aS aV A cc nL own nm K) {x off : Int} {tgt : Nat} (hd : decode cc pc = .ok (.ifCond .gt off, 3)) (ht : (pc : Int) + off = (tgt : Int)) (hx : rI x) (kt : 0 < x → K ad n nl ce sl tgt lv st σ) (kf : ¬ (0 < x) → K ad n nl ce sl (pc + 3) lv st σ) : K ad n nl ce sl pc lv (.int (vI x) :: st) σ := by
  obtain ⟨p, e, s, m, args, below, meth, c, Q, C, rfl⟩ := h
  intro hσ H locs ls hP hD hS hv
  have z0 : (0 : Int32) = vI 0 := rfl
  have r0 : rI 0 := by unfold rI; omega
  exact lv_if_gt C.1 C.2.1 hd ht (fun z => kt ((vI_lt r0 hx).mp (by rw [← z0]; exact z)) hσ H locs ls hP hD hS hv) (fun z => kf (fun q => z (by have t := (vI_lt r0 hx).mpr q; rw [← z0] at t; exact t)) hσ H locs ls hP hD hS hv)
theorem r_icmp_le (h : w_Cl l R D cs aS aV A cc nL own nm K) {x y off : Int} {tgt : Nat} (hd : decode cc pc = .ok (.if_icmp .le off, 3)) (ht : (pc : Int) + off = (tgt : Int)) (hx : rI x) (hy : rI y) (kt : x ≤ y → K ad n nl ce sl tgt lv st σ) (kf : ¬ (x ≤ y) → K ad n nl ce sl (pc + 3) lv st σ) : K ad n nl ce sl pc lv (.int (vI y) :: .int (vI x) :: st) σ := by
  obtain ⟨p, e, s, m, args, below, meth, c, Q, C, rfl⟩ := h
  intro hσ H locs ls hP hD hS hv
  exact lv_icmp_le C.1 C.2.1 hd ht (fun z => kt ((vI_le hx hy).mp z) hσ H locs ls hP hD hS hv) (fun z => kf (fun q => z ((vI_le hx hy).mpr q)) hσ H locs ls hP hD hS hv)
theorem r_if_le (h : w_Cl l R D cs aS aV A cc nL own nm K) {x off : Int} {tgt : Nat} (hd : decode cc pc = .ok (.ifCond .le off, 3)) (ht : (pc : Int) + off = (tgt : Int)) (hx : rI x) (kt : x ≤ 0 → K ad n nl ce sl tgt lv st σ) (kf : ¬ (x ≤ 0) → K ad n nl ce sl (pc + 3) lv st σ) : K ad n nl ce sl pc lv (.int (vI x) :: st) σ := by
  obtain ⟨p, e, s, m, args, below, meth, c, Q, C, rfl⟩ := h
  intro hσ H locs ls hP hD hS hv
  have z0 : (0 : Int32) = vI 0 := rfl
  have r0 : rI 0 := by unfold rI; omega
  exact lv_if_le C.1 C.2.1 hd ht (fun z => kt ((vI_le hx r0).mp (by rw [← z0]; exact z)) hσ H locs ls hP hD hS hv) (fun z => kf (fun q => z (by have t := (vI_le hx r0).mpr q; rw [← z0] at t; exact t)) hσ H locs ls hP hD hS hv)
theorem r_goto (h : w_Cl l R D cs aS aV A cc nL own nm K) {off : Int} {tgt : Nat} (hd : decode cc pc = .ok (.goto off, 3)) (ht : (pc : Int) + off = (tgt : Int)) (kk : K ad n nl ce sl tgt lv st σ) : K ad n nl ce sl pc lv st σ := by
  obtain ⟨p, e, s, m, args, below, meth, c, Q, C, rfl⟩ := h
  intro hσ H locs ls hP hD hS hv
  exact lv_goto C.1 C.2.1 hd ht (kk hσ H locs ls hP hD hS hv)
theorem r_tableIn (h : w_Cl l R D cs aS aV A cc nL own nm K) {d lo hi off x v : Int} {offs : Array Int} {len tgt : Nat} (hd : decode cc pc = .ok (.tableswitch d lo hi offs, len)) (hx : x = v) (hv0 : rI v) (h1 : ¬ v < lo) (h2 : ¬ hi < v) (ho : offs[(v - lo).toNat]? = some off) (ht : (pc : Int) + off = (tgt : Int)) (kk : K ad n nl ce sl tgt lv st σ) : K ad n nl ce sl pc lv (.int (vI x) :: st) σ := by
  subst hx
  obtain ⟨p, e, s, m, args, below, meth, c, Q, C, rfl⟩ := h
  intro hσ H locs ls hP hD hS hv
  exact lv_tableIn C.1 C.2.1 hd (by rw [vI_to hv0]; exact h1) (by rw [vI_to hv0]; exact h2) (by rw [vI_to hv0]; exact ho) ht (kk hσ H locs ls hP hD hS hv)
theorem r_tableOut (h : w_Cl l R D cs aS aV A cc nL own nm K) {d lo hi v : Int} {offs : Array Int} {len tgt : Nat} (hd : decode cc pc = .ok (.tableswitch d lo hi offs, len)) (hv0 : rI v) (h1 : v < lo ∨ hi < v) (ht : (pc : Int) + d = (tgt : Int)) (kk : K ad n nl ce sl tgt lv st σ) : K ad n nl ce sl pc lv (.int (vI v) :: st) σ := by
  obtain ⟨p, e, s, m, args, below, meth, c, Q, C, rfl⟩ := h
  intro hσ H locs ls hP hD hS hv
  exact lv_tableOut C.1 C.2.1 hd (by rw [vI_to hv0]; exact h1) ht (kk hσ H locs ls hP hD hS hv)
theorem r_tableX (h : w_Cl l R D cs aS aV A cc nL own nm K) {d lo hi x : Int} {offs : Array Int} {len tgt : Nat} (hd : decode cc pc = .ok (.tableswitch d lo hi offs, len)) (hv0 : rI x) (hz : x < lo ∨ hi < x ∨ ∃ off : Int, offs[(x - lo).toNat]? = some off ∧ ¬ x < lo ∧ ¬ hi < x ∧ (pc : Int) + off = (tgt : Int)) (ht : (pc : Int) + d = (tgt : Int)) (kk : K ad n nl ce sl tgt lv st σ) : K ad n nl ce sl pc lv (.int (vI x) :: st) σ := by
  rcases hz with q | q | ⟨off, q1, q2, q3, q4⟩
  · exact r_tableOut h hd hv0 (Or.inl q) ht kk
  · exact r_tableOut h hd hv0 (Or.inr q) ht kk
  · exact r_tableIn h hd rfl hv0 q2 q3 q1 q4 kk
theorem r_lookup (h : w_Cl l R D cs aS aV A cc nL own nm K) {d off x : Int} {ps : Array (Int × Int)} {len tgt : Nat} (hd : decode cc pc = .ok (.lookupswitch d ps, len)) (hp : (ps.toList.zip (ps.toList.drop 1)).all (fun (a, next) => a.1 < next.1) = true) (hv0 : rI x) (ho : Op.lookupswitch.offset ps.toList d x = off) (ht : (pc : Int) + off = (tgt : Int)) (kk : K ad n nl ce sl tgt lv st σ) : K ad n nl ce sl pc lv (.int (vI x) :: st) σ := by
  obtain ⟨p, e, s, m, args, below, meth, c, Q, C, rfl⟩ := h
  intro hσ H locs ls hP hD hS hv
  exact lv_lookup C.1 C.2.1 hd hp (by rw [vI_to hv0]; exact ho) ht (kk hσ H locs ls hP hD hS hv)
theorem r_getI (h : w_Cl l R D cs aS aV A cc nL own nm K) {T : u_T} {N i k t co : Nat} {Cn : String} (hd : decode cc pc = .ok (.getfield i, 3)) (hin : ∀ w ∈ u_ws Cn T N, w ∈ GT) (hc : vwCl[co]? = some (Cn, T, N)) (hco : co < 13) (hlink : Cond.fieldLink own i (T k).1 (T k).2.1 (T k).2.2.1 ∈ GT) (hk : k < N) (ht : t < n) (hC : rC t = co) (hN : rN t = N) (hv0 : vt co k = 0) (kk : K ad n nl ce sl (pc + 3) lv (.int (vI (gi σ t k)) :: st) σ) : K ad n nl ce sl pc lv (.ref (ad t) :: st) σ := by
  obtain ⟨p, e, s, m, args, below, meth, c, Q, C, rfl⟩ := h
  intro hσ H locs ls hP hD hS hv
  exact va_get (D := D) (cl := vwCl) (tys := w_ty cs) C.1 C.2.1 C.2.2.2.2.1 hin C.2.2.2.1 C.2.2.2.2.2.1 hP t (by rw [w_wl_at ht, w_obj hC hco]) hc k hk (C.2.2.2.2.1 _ hlink) (fun _ z => z) (v := .int (vI (gi σ t k))) (by rw [w_fs_at (by rw [hN]; exact hk)]; unfold w_fv; rw [hC, hv0]; rfl) hd (kk hσ H locs ls hP hD hS hv)
theorem r_getJ (h : w_Cl l R D cs aS aV A cc nL own nm K) {T : u_T} {N i k t co : Nat} {Cn : String} (hd : decode cc pc = .ok (.getfield i, 3)) (hin : ∀ w ∈ u_ws Cn T N, w ∈ GT) (hc : vwCl[co]? = some (Cn, T, N)) (hco : co < 13) (hlink : Cond.fieldLink own i (T k).1 (T k).2.1 (T k).2.2.1 ∈ GT) (hk : k < N) (ht : t < n) (hC : rC t = co) (hN : rN t = N) (hv0 : vt co k = 1) (kk : K ad n nl ce sl (pc + 3) lv (.long (vJ (gj σ t k)) :: st) σ) : K ad n nl ce sl pc lv (.ref (ad t) :: st) σ := by
  obtain ⟨p, e, s, m, args, below, meth, c, Q, C, rfl⟩ := h
  intro hσ H locs ls hP hD hS hv
  exact va_get (D := D) (cl := vwCl) (tys := w_ty cs) C.1 C.2.1 C.2.2.2.2.1 hin C.2.2.2.1 C.2.2.2.2.2.1 hP t (by rw [w_wl_at ht, w_obj hC hco]) hc k hk (C.2.2.2.2.1 _ hlink) (fun _ z => z) (v := .long (vJ (gj σ t k))) (by rw [w_fs_at (by rw [hN]; exact hk)]; unfold w_fv; rw [hC, hv0]; rfl) hd (kk hσ H locs ls hP hD hS hv)
theorem r_getR (h : w_Cl l R D cs aS aV A cc nL own nm K) {T : u_T} {N i k t co : Nat} {Cn : String} (hd : decode cc pc = .ok (.getfield i, 3)) (hin : ∀ w ∈ u_ws Cn T N, w ∈ GT) (hc : vwCl[co]? = some (Cn, T, N)) (hco : co < 13) (hlink : Cond.fieldLink own i (T k).1 (T k).2.1 (T k).2.2.1 ∈ GT) (hk : k < N) (ht : t < n) (hC : rC t = co) (hN : rN t = N) (hv0 : vt co k = 2) (hnl : nl t k = true) (u : Nat) (hu : rf t k = u) (kk : K ad n nl ce sl (pc + 3) lv (.ref (ad u) :: st) σ) : K ad n nl ce sl pc lv (.ref (ad t) :: st) σ := by
  obtain ⟨p, e, s, m, args, below, meth, c, Q, C, rfl⟩ := h
  intro hσ H locs ls hP hD hS hv
  subst hu; exact va_get (D := D) (cl := vwCl) (tys := w_ty cs) C.1 C.2.1 C.2.2.2.2.1 hin C.2.2.2.1 C.2.2.2.2.2.1 hP t (by rw [w_wl_at ht, w_obj hC hco]) hc k hk (C.2.2.2.2.1 _ hlink) (fun _ z => z) (v := .ref (ad (rf t k))) (by rw [w_fs_at (by rw [hN]; exact hk)]; unfold w_fv; rw [hC, hv0, hnl]; rfl) hd (kk hσ H locs ls hP hD hS hv)
theorem r_putI (h : w_Cl l R D cs aS aV A cc nL own nm K) {x : Int} {T : u_T} {N i k t co : Nat} {Cn : String} (hd : decode cc pc = .ok (.putfield i, 3)) (hin : ∀ w ∈ u_ws Cn T N, w ∈ GT) (tyv : Nat → FieldType) (hty : ∀ k, k < N → parseFieldDescriptor (T k).2.2.1 = some (tyv k)) (hnm : ∀ a, a < N → ∀ b, b < N → a ≠ b → (T a).2.1 ≠ (T b).2.1) (hc : vwCl[co]? = some (Cn, T, N)) (hco : co < 13) (hlink : Cond.fieldLink own i (T k).1 (T k).2.1 (T k).2.2.1 ∈ GT) (hk : k < N) (ht : t < n) (hC : rC t = co) (hN : rN t = N) (hv0 : vt co k = 0) (hfin : (T k).2.2.2 = false) (htk : tyv k = .int) (hx : rI x) (kk : K ad n nl ce sl (pc + 3) lv st (si σ t k x)) : K ad n nl ce sl pc lv (.int (vI x) :: .ref (ad t) :: st) σ := by
  obtain ⟨p, e, s, m, args, below, meth, c, Q, C, rfl⟩ := h
  intro hσ H locs ls hP hD hS hv
  refine va_put (D := D) (cl := vwCl) (tys := w_ty cs) C.1 C.2.1 C.2.2.2.2.1 hin tyv hty hnm C.2.2.2.1 C.2.2.2.2.2.1 hP hD hS t (by rw [w_wl_at ht, w_obj hC hco]) hc k hk (C.2.2.2.2.1 _ hlink) (fun _ z => z) hfin (hty k hk) (by rw [htk]; rfl) (by rw [htk]; rfl) (by rw [w_fs_len, hN]; exact hk) hd (fun H1 locs1 hP1 hD1 hS1 => ?_)
  rw [w_putI hC hco hv0] at hP1 hD1
  exact kk (rS_si hσ t k hx) H1 locs1 ls hP1 hD1 hS1 hv
theorem r_putZ (h : w_Cl l R D cs aS aV A cc nL own nm K) {x : Int} {T : u_T} {N i k t co : Nat} {Cn : String} (hd : decode cc pc = .ok (.putfield i, 3)) (hin : ∀ w ∈ u_ws Cn T N, w ∈ GT) (tyv : Nat → FieldType) (hty : ∀ k, k < N → parseFieldDescriptor (T k).2.2.1 = some (tyv k)) (hnm : ∀ a, a < N → ∀ b, b < N → a ≠ b → (T a).2.1 ≠ (T b).2.1) (hc : vwCl[co]? = some (Cn, T, N)) (hco : co < 13) (hlink : Cond.fieldLink own i (T k).1 (T k).2.1 (T k).2.2.1 ∈ GT) (hk : k < N) (ht : t < n) (hC : rC t = co) (hN : rN t = N) (hv0 : vt co k = 0) (hfin : (T k).2.2.2 = false) (htk : tyv k = .boolean) (hx : x = 0 ∨ x = 1) (kk : K ad n nl ce sl (pc + 3) lv st (si σ t k x)) : K ad n nl ce sl pc lv (.int (vI x) :: .ref (ad t) :: st) σ := by
  obtain ⟨p, e, s, m, args, below, meth, c, Q, C, rfl⟩ := h
  intro hσ H locs ls hP hD hS hv
  refine va_put (D := D) (cl := vwCl) (tys := w_ty cs) C.1 C.2.1 C.2.2.2.2.1 hin tyv hty hnm C.2.2.2.1 C.2.2.2.2.2.1 hP hD hS t (by rw [w_wl_at ht, w_obj hC hco]) hc k hk (C.2.2.2.2.1 _ hlink) (fun _ z => z) hfin (hty k hk) (by rw [htk]; rcases hx with rfl | rfl <;> rfl) (by rw [htk]; rcases hx with rfl | rfl <;> rfl) (by rw [w_fs_len, hN]; exact hk) hd (fun H1 locs1 hP1 hD1 hS1 => ?_)
  rw [w_putI hC hco hv0] at hP1 hD1
  exact kk (rS_si hσ t k (by unfold rI; omega)) H1 locs1 ls hP1 hD1 hS1 hv
theorem r_putJ (h : w_Cl l R D cs aS aV A cc nL own nm K) {x : Int} {T : u_T} {N i k t co : Nat} {Cn : String} (hd : decode cc pc = .ok (.putfield i, 3)) (hin : ∀ w ∈ u_ws Cn T N, w ∈ GT) (tyv : Nat → FieldType) (hty : ∀ k, k < N → parseFieldDescriptor (T k).2.2.1 = some (tyv k)) (hnm : ∀ a, a < N → ∀ b, b < N → a ≠ b → (T a).2.1 ≠ (T b).2.1) (hc : vwCl[co]? = some (Cn, T, N)) (hco : co < 13) (hlink : Cond.fieldLink own i (T k).1 (T k).2.1 (T k).2.2.1 ∈ GT) (hk : k < N) (ht : t < n) (hC : rC t = co) (hN : rN t = N) (hv0 : vt co k = 1) (hfin : (T k).2.2.2 = false) (htk : tyv k = .long) (hx : rJ x) (kk : K ad n nl ce sl (pc + 3) lv st (sj σ t k x)) : K ad n nl ce sl pc lv (.long (vJ x) :: .ref (ad t) :: st) σ := by
  obtain ⟨p, e, s, m, args, below, meth, c, Q, C, rfl⟩ := h
  intro hσ H locs ls hP hD hS hv
  refine va_put (D := D) (cl := vwCl) (tys := w_ty cs) C.1 C.2.1 C.2.2.2.2.1 hin tyv hty hnm C.2.2.2.1 C.2.2.2.2.2.1 hP hD hS t (by rw [w_wl_at ht, w_obj hC hco]) hc k hk (C.2.2.2.2.1 _ hlink) (fun _ z => z) hfin (hty k hk) (by rw [htk]; rfl) (by rw [htk]; rfl) (by rw [w_fs_len, hN]; exact hk) hd (fun H1 locs1 hP1 hD1 hS1 => ?_)
  rw [w_putJ hC hco hv0] at hP1 hD1
  exact kk (rS_sj hσ t k hx) H1 locs1 ls hP1 hD1 hS1 hv
theorem r_putR (h : w_Cl l R D cs aS aV A cc nL own nm K) {T : u_T} {N i k t co : Nat} {Cn : String} (hd : decode cc pc = .ok (.putfield i, 3)) (hin : ∀ w ∈ u_ws Cn T N, w ∈ GT) (tyv : Nat → FieldType) (hty : ∀ k, k < N → parseFieldDescriptor (T k).2.2.1 = some (tyv k)) (hnm : ∀ a, a < N → ∀ b, b < N → a ≠ b → (T a).2.1 ≠ (T b).2.1) (hc : vwCl[co]? = some (Cn, T, N)) (hco : co < 13) (hlink : Cond.fieldLink own i (T k).1 (T k).2.1 (T k).2.2.1 ∈ GT) (hk : k < N) (ht : t < n) (hC : rC t = co) (hN : rN t = N) (hv0 : vt co k = 2) (hfin : (T k).2.2.2 = true) (hnm0 : nm = "<init>") (hdecl : (T k).1 = own) (hfit : ∀ a : Nat, narrow (tyv k) (.ref a) = .ref a ∧ fits (tyv k) (.ref a) = true) {u : Nat} (hu : rf t k = u) (kk : K ad n (nu nl t k) ce sl (pc + 3) lv st σ) : K ad n nl ce sl pc lv (.ref (ad u) :: .ref (ad t) :: st) σ := by
  obtain ⟨p, e, s, m, args, below, meth, c, Q, C, rfl⟩ := h
  intro hσ H locs ls hP hD hS hv
  subst hu
  refine va_putF (D := D) (cl := vwCl) (tys := w_ty cs) C.1 C.2.1 C.2.2.2.2.1 hin tyv hty hnm C.2.2.2.1 C.2.2.2.2.2.1 hP hD hS t (by rw [w_wl_at ht, w_obj hC hco]) hc k hk (C.2.2.2.2.1 _ hlink) (fun _ z => z) hfin (C.2.2.2.2.2.2.2.2.2.trans hnm0) hdecl (hty k hk) (hfit _).1 (hfit _).2 (by rw [w_fs_len, hN]; exact hk) hd (fun H1 locs1 hP1 hD1 hS1 => ?_)
  rw [w_putR hC hco hv0] at hP1 hD1
  exact kk hσ H1 locs1 ls hP1 hD1 hS1 hv
theorem r_iald (h : w_Cl l R D cs aS aV A cc nL own nm K) {t : Nat} {i : Int} (hd : decode cc pc = .ok (.iaload, 1)) (ht : t < n) (hC : rC t = 14) (hi : rI i) {N : Int} (hN : ((rN t : Nat) : Int) = N) {j : Nat} (hj : i.toNat = j) (hb : 0 ≤ i ∧ i < N) (kk : K ad n nl ce sl (pc + 1) lv (.int (vI (gi σ t j)) :: st) σ) : K ad n nl ce sl pc lv (.int (vI i) :: .ref (ad t) :: st) σ := by
  subst hN; subst hj
  obtain ⟨p, e, s, m, args, below, meth, c, Q, C, rfl⟩ := h
  intro hσ H locs ls hP hD hS hv
  have k2 := (kk hσ H locs ls hP hD hS hv)
  rw [← vI_clamp hi hb.1] at k2
  exact va_iald (D := D) (cl := vwCl) (tys := w_ty cs) C.1 C.2.1 C.2.2.2.2.2.1 hP t 1 (by rw [w_wl_at ht, w_arr hC (by decide) (by decide)]) rfl (vI_in hi hb) hd k2
theorem r_bald (h : w_Cl l R D cs aS aV A cc nL own nm K) {t : Nat} {i : Int} (hd : decode cc pc = .ok (.baload, 1)) (ht : t < n) (hC : rC t = 13) (hi : rI i) {N : Int} (hN : ((rN t : Nat) : Int) = N) {j : Nat} (hj : i.toNat = j) (hb : 0 ≤ i ∧ i < N) (kk : K ad n nl ce sl (pc + 1) lv (.int (vI (gi σ t j)) :: st) σ) : K ad n nl ce sl pc lv (.int (vI i) :: .ref (ad t) :: st) σ := by
  subst hN; subst hj
  obtain ⟨p, e, s, m, args, below, meth, c, Q, C, rfl⟩ := h
  intro hσ H locs ls hP hD hS hv
  have k2 := (kk hσ H locs ls hP hD hS hv)
  rw [← vI_clamp hi hb.1] at k2
  exact va_bald (D := D) (cl := vwCl) (tys := w_ty cs) C.1 C.2.1 C.2.2.2.2.2.1 hP t 0 (by rw [w_wl_at ht, w_arr hC (by decide) (by decide)]) rfl (vI_in hi hb) hd k2
theorem r_zald (h : w_Cl l R D cs aS aV A cc nL own nm K) {t : Nat} {i : Int} (hd : decode cc pc = .ok (.baload, 1)) (ht : t < n) (hC : rC t = 16) (hi : rI i) {N : Int} (hN : ((rN t : Nat) : Int) = N) {j : Nat} (hj : i.toNat = j) (hb : 0 ≤ i ∧ i < N) (kk : K ad n nl ce sl (pc + 1) lv (.int (vI (gi σ t j)) :: st) σ) : K ad n nl ce sl pc lv (.int (vI i) :: .ref (ad t) :: st) σ := by
  subst hN; subst hj
  obtain ⟨p, e, s, m, args, below, meth, c, Q, C, rfl⟩ := h
  intro hσ H locs ls hP hD hS hv
  have k2 := (kk hσ H locs ls hP hD hS hv)
  rw [← vI_clamp hi hb.1] at k2
  exact va_zald (D := D) (cl := vwCl) (tys := w_ty cs) C.1 C.2.1 C.2.2.2.2.2.1 hP t 3 (by rw [w_wl_at ht, w_arr hC (by decide) (by decide)]) rfl (vI_in hi hb) hd k2
theorem r_lald (h : w_Cl l R D cs aS aV A cc nL own nm K) {t : Nat} {i : Int} (hd : decode cc pc = .ok (.laload, 1)) (ht : t < n) (hC : rC t = 15) (hi : rI i) {N : Int} (hN : ((rN t : Nat) : Int) = N) {j : Nat} (hj : i.toNat = j) (hb : 0 ≤ i ∧ i < N) (kk : K ad n nl ce sl (pc + 1) lv (.long (vJ (gj σ t j)) :: st) σ) : K ad n nl ce sl pc lv (.int (vI i) :: .ref (ad t) :: st) σ := by
  subst hN; subst hj
  obtain ⟨p, e, s, m, args, below, meth, c, Q, C, rfl⟩ := h
  intro hσ H locs ls hP hD hS hv
  have k2 := (kk hσ H locs ls hP hD hS hv)
  rw [← vI_clamp hi hb.1] at k2
  exact va_lald (D := D) (cl := vwCl) (tys := w_ty cs) C.1 C.2.1 C.2.2.2.2.2.1 hP t 2 (by rw [w_wl_at ht, w_arJ hC]) rfl (vI_in hi hb) hd k2
theorem r_iast (h : w_Cl l R D cs aS aV A cc nL own nm K) {t : Nat} {i x : Int} (hd : decode cc pc = .ok (.iastore, 1)) (ht : t < n) (hC : rC t = 14) (hi : rI i) {N : Int} (hN : ((rN t : Nat) : Int) = N) {j : Nat} (hj : i.toNat = j) (hb : 0 ≤ i ∧ i < N) (hx : rI x) (kk : K ad n nl ce sl (pc + 1) lv st (si σ t j (x))) : K ad n nl ce sl pc lv (.int (vI x) :: .int (vI i) :: .ref (ad t) :: st) σ := by
  subst hN; subst hj
  obtain ⟨p, e, s, m, args, below, meth, c, Q, C, rfl⟩ := h
  intro hσ H locs ls hP hD hS hv
  refine va_iast (D := D) (cl := vwCl) (tys := w_ty cs) C.1 C.2.1 C.2.2.2.2.2.1 hP hD hS t 1 (by rw [w_wl_at ht, w_arr hC (by decide) (by decide)]) rfl (vI_in hi hb) hd (fun H1 locs1 hP1 hD1 hS1 => ?_)
  rw [vI_clamp hi hb.1, w_stI hC (by decide) (by decide)] at hP1 hD1
  exact kk (rS_si hσ t _ hx) H1 locs1 ls hP1 hD1 hS1 hv
theorem r_bast (h : w_Cl l R D cs aS aV A cc nL own nm K) {t : Nat} {i x : Int} (hd : decode cc pc = .ok (.bastore, 1)) (ht : t < n) (hC : rC t = 13) (hi : rI i) {N : Int} (hN : ((rN t : Nat) : Int) = N) {j : Nat} (hj : i.toNat = j) (hb : 0 ≤ i ∧ i < N)  (kk : K ad n nl ce sl (pc + 1) lv st (si σ t j (zi2b x))) : K ad n nl ce sl pc lv (.int (vI x) :: .int (vI i) :: .ref (ad t) :: st) σ := by
  subst hN; subst hj
  obtain ⟨p, e, s, m, args, below, meth, c, Q, C, rfl⟩ := h
  intro hσ H locs ls hP hD hS hv
  refine va_bast (D := D) (cl := vwCl) (tys := w_ty cs) C.1 C.2.1 C.2.2.2.2.2.1 hP hD hS t 0 (by rw [w_wl_at ht, w_arr hC (by decide) (by decide)]) rfl (vI_in hi hb) hd (fun H1 locs1 hP1 hD1 hS1 => ?_)
  rw [show vp_nar .byte (vI x) = vI (zi2b x) from by rw [vp_nar_byte, zi2b_def]; exact (Int32.toInt_inj.1 (by rw [Int8.toInt_toInt32, vI_to (by have h1 := Int8.toInt_lt (vI x).toInt8; have h2 := Int8.le_toInt (vI x).toInt8; unfold rI; omega)]))] at hP1 hD1
  rw [vI_clamp hi hb.1, w_stI hC (by decide) (by decide)] at hP1 hD1
  exact kk (rS_si hσ t _ (rI_zi2b x)) H1 locs1 ls hP1 hD1 hS1 hv
theorem r_zast (h : w_Cl l R D cs aS aV A cc nL own nm K) {t : Nat} {i x : Int} (hd : decode cc pc = .ok (.bastore, 1)) (ht : t < n) (hC : rC t = 16) (hi : rI i) {N : Int} (hN : ((rN t : Nat) : Int) = N) {j : Nat} (hj : i.toNat = j) (hb : 0 ≤ i ∧ i < N) (hx : x = 0 ∨ x = 1) (kk : K ad n nl ce sl (pc + 1) lv st (si σ t j (x))) : K ad n nl ce sl pc lv (.int (vI x) :: .int (vI i) :: .ref (ad t) :: st) σ := by
  subst hN; subst hj
  obtain ⟨p, e, s, m, args, below, meth, c, Q, C, rfl⟩ := h
  intro hσ H locs ls hP hD hS hv
  refine va_zast (D := D) (cl := vwCl) (tys := w_ty cs) C.1 C.2.1 C.2.2.2.2.2.1 hP hD hS t 3 (by rw [w_wl_at ht, w_arr hC (by decide) (by decide)]) rfl (vI_in hi hb) hd (fun H1 locs1 hP1 hD1 hS1 => ?_)
  rw [show vp_nar .boolean (vI x) = vI x from by rcases hx with rfl | rfl <;> rfl] at hP1 hD1
  rw [vI_clamp hi hb.1, w_stI hC (by decide) (by decide)] at hP1 hD1
  exact kk (rS_si hσ t _ (by unfold rI; omega)) H1 locs1 ls hP1 hD1 hS1 hv
theorem r_last (h : w_Cl l R D cs aS aV A cc nL own nm K) {t : Nat} {i x : Int} (hd : decode cc pc = .ok (.lastore, 1)) (ht : t < n) (hC : rC t = 15) (hi : rI i) {N : Int} (hN : ((rN t : Nat) : Int) = N) {j : Nat} (hj : i.toNat = j) (hb : 0 ≤ i ∧ i < N) (hx : rJ x) (kk : K ad n nl ce sl (pc + 1) lv st (sj σ t j x)) : K ad n nl ce sl pc lv (.long (vJ x) :: .int (vI i) :: .ref (ad t) :: st) σ := by
  subst hN; subst hj
  obtain ⟨p, e, s, m, args, below, meth, c, Q, C, rfl⟩ := h
  intro hσ H locs ls hP hD hS hv
  refine va_last (D := D) (cl := vwCl) (tys := w_ty cs) C.1 C.2.1 C.2.2.2.2.2.1 hP hD hS t 2 (by rw [w_wl_at ht, w_arJ hC]) rfl (vI_in hi hb) hd (fun H1 locs1 hP1 hD1 hS1 => ?_)
  rw [vI_clamp hi hb.1, w_stJ hC] at hP1 hD1
  exact kk (rS_sj hσ t _ hx) H1 locs1 ls hP1 hD1 hS1 hv
theorem r_alen (h : w_Cl l R D cs aS aV A cc nL own nm K) {t : Nat} {N : Int} (hd : decode cc pc = .ok (.arraylength, 1)) (ht : t < n) {c0 : Nat} (hC : rC t = c0) (h4 : c0 = 13 ∨ c0 = 14 ∨ c0 = 15 ∨ c0 = 16) (hN : ((rN t : Nat) : Int) = N) (kk : K ad n nl ce sl (pc + 1) lv (.int (vI N) :: st) σ) : K ad n nl ce sl pc lv (.ref (ad t) :: st) σ := by
  obtain ⟨p, e, s, m, args, below, meth, c, Q, C, rfl⟩ := h
  intro hσ H locs ls hP hD hS hv
  have k2 := (kk hσ H locs ls hP hD hS hv)
  subst hN
  have e : Int32.ofNat (rN t) = vI (rN t : Nat) := Int32.ofInt_eq_ofNat.symm
  rcases h4 with rfl | rfl | rfl | rfl
  · exact va_alen (D := D) (cl := vwCl) (tys := w_ty cs) C.1 C.2.1 C.2.2.2.2.2.1 hP t 0 (by rw [w_wl_at ht, w_arr hC (by decide) (by decide)]) (ty := .byte) rfl e hd k2
  · exact va_alen (D := D) (cl := vwCl) (tys := w_ty cs) C.1 C.2.1 C.2.2.2.2.2.1 hP t 1 (by rw [w_wl_at ht, w_arr hC (by decide) (by decide)]) (ty := .int) rfl e hd k2
  · exact va_alen (D := D) (cl := vwCl) (tys := w_ty cs) C.1 C.2.1 C.2.2.2.2.2.1 hP t 2 (by rw [w_wl_at ht, w_arJ hC]) (ty := .long) rfl e hd k2
  · exact va_alen (D := D) (cl := vwCl) (tys := w_ty cs) C.1 C.2.1 C.2.2.2.2.2.1 hP t 3 (by rw [w_wl_at ht, w_arr hC (by decide) (by decide)]) (ty := .boolean) rfl e hd k2
theorem r_mmax (h : w_Cl l R D cs aS aV A cc nL own nm K) {x y : Int} {i : Nat} (hd : decode cc pc = .ok (.invokestatic i, 3)) (hl : Cond.methodLink own i Lib.Math.max.name ∈ GT) (hs : Cond.static Lib.Math.max.name ∈ GT) (hi : Cond.initialized "java/lang/Math" ∈ GT) (hc : Cond.code Lib.Math.max.name Lib.Math.max.code 2 (some .int) ∈ GT) (hf : 1 ≤ R.frames) (hlo : (st.map fun v => v.category).sum + 13 ≤ R.locals) (hcs : ce ≤ R.cells) (hss : sl ≤ R.slots) (hx : rI x) (hy : rI y) (kk : K ad n nl ce sl (pc + 3) lv (.int (vI (zmax x y)) :: st) σ) : K ad n nl ce sl pc lv (.int (vI y) :: .int (vI x) :: st) σ := by
  obtain ⟨p, e, s, m, args, below, meth, c, Q, C, rfl⟩ := h
  intro hσ H locs ls hP hD hS hv
  have k2 := (kk hσ H locs ls hP hD hS hv)
  rw [← zmax_eq hx hy] at k2
  exact va_mmax C.1 C.2.1 (C.2.2.1.trans hv.1.symm) C.2.2.2.1 (C.2.2.2.2.1 _ hl) (C.2.2.2.2.1 _ hs) (C.2.2.2.2.1 _ hi) (C.2.2.2.2.1 _ hc) hf hlo hcs hss hd k2
theorem r_mmin (h : w_Cl l R D cs aS aV A cc nL own nm K) {x y : Int} {i : Nat} (hd : decode cc pc = .ok (.invokestatic i, 3)) (hl : Cond.methodLink own i Lib.Math.min.name ∈ GT) (hs : Cond.static Lib.Math.min.name ∈ GT) (hi : Cond.initialized "java/lang/Math" ∈ GT) (hc : Cond.code Lib.Math.min.name Lib.Math.min.code 2 (some .int) ∈ GT) (hf : 1 ≤ R.frames) (hlo : (st.map fun v => v.category).sum + 13 ≤ R.locals) (hcs : ce ≤ R.cells) (hss : sl ≤ R.slots) (hx : rI x) (hy : rI y) (kk : K ad n nl ce sl (pc + 3) lv (.int (vI (zmin x y)) :: st) σ) : K ad n nl ce sl pc lv (.int (vI y) :: .int (vI x) :: st) σ := by
  obtain ⟨p, e, s, m, args, below, meth, c, Q, C, rfl⟩ := h
  intro hσ H locs ls hP hD hS hv
  have k2 := (kk hσ H locs ls hP hD hS hv)
  rw [← zmin_eq hx hy] at k2
  exact va_mmin C.1 C.2.1 (C.2.2.1.trans hv.1.symm) C.2.2.2.1 (C.2.2.2.2.1 _ hl) (C.2.2.2.2.1 _ hs) (C.2.2.2.2.1 _ hi) (C.2.2.2.2.1 _ hc) hf hlo hcs hss hd k2
theorem r_mabs (h : w_Cl l R D cs aS aV A cc nL own nm K) {x : Int} {i : Nat} (hd : decode cc pc = .ok (.invokestatic i, 3)) (hl : Cond.methodLink own i Lib.Math.abs.name ∈ GT) (hs : Cond.static Lib.Math.abs.name ∈ GT) (hi : Cond.initialized "java/lang/Math" ∈ GT) (hc : Cond.code Lib.Math.abs.name Lib.Math.abs.code 1 (some .int) ∈ GT) (hf : 1 ≤ R.frames) (hlo : (st.map fun v => v.category).sum + 13 ≤ R.locals) (hcs : ce ≤ R.cells) (hss : sl ≤ R.slots) (hx : rI x)  (kk : K ad n nl ce sl (pc + 3) lv (.int (vI (zabs x)) :: st) σ) : K ad n nl ce sl pc lv (.int (vI x) :: st) σ := by
  obtain ⟨p, e, s, m, args, below, meth, c, Q, C, rfl⟩ := h
  intro hσ H locs ls hP hD hS hv
  have k2 := (kk hσ H locs ls hP hD hS hv)
  rw [← zabs_eq hx] at k2
  exact va_mabs C.1 C.2.1 (C.2.2.1.trans hv.1.symm) C.2.2.2.1 (C.2.2.2.2.1 _ hl) (C.2.2.2.2.1 _ hs) (C.2.2.2.2.1 _ hi) (C.2.2.2.2.1 _ hc) hf hlo hcs hss hd k2
theorem r_objInit (h : w_Cl l R D cs aS aV A cc nL own nm K) {i a : Nat} (hd : decode cc pc = .ok (.invokespecial i, 3)) (hl : Cond.methodLink own i Lib.objectInit ∈ GT) (hi : Cond.instanceMethod Lib.objectInit ∈ GT) (hc : Cond.code Lib.objectInit ⟨#[0xb1]⟩ 1 none ∈ GT) (hf : 1 ≤ R.frames) (hlo : (st.map fun v => v.category).sum + 12 ≤ R.locals) (kk : K ad n nl ce sl (pc + 3) lv st σ) : K ad n nl ce sl pc lv (.ref a :: st) σ := by
  obtain ⟨p, e, s, m, args, below, meth, c, Q, C, rfl⟩ := h
  intro hσ H locs ls hP hD hS hv
  exact W.objInit (rest := st) C.1 C.2.1 C.2.2.2.1 (C.2.2.2.2.1 _ hl) (C.2.2.2.2.1 _ hi) (C.2.2.2.2.1 _ hc) rfl (hv.1.trans C.2.2.1.symm) rfl hd hf (by show 2 * 0 + _ + 12 ≤ _; omega) (kk hσ H locs ls hP hD hS hv)
theorem r_ol {e : Int} {k : Int → OO} {o : Int × SS} (hf : ol e k = some o) (re : rI e) (kk : ∀ x, rI x → k x = some o → K ad n nl ce sl pc lv (.int (vI x) :: st) σ) : K ad n nl ce sl pc lv (.int (vI e) :: st) σ := kk e re hf
theorem r_olJ {e : Int} {k : Int → OO} {o : Int × SS} (hf : ol e k = some o) (re : rJ e) (kk : ∀ x, rJ x → k x = some o → K ad n nl ce sl pc lv (.long (vJ x) :: st) σ) : K ad n nl ce sl pc lv (.long (vJ e) :: st) σ := kk e re hf
theorem r_os {τ : SS} {k : SS → OO} {o : Int × SS} (hf : os τ k = some o) (kk : ∀ τ, k τ = some o → K ad n nl ce sl pc lv st τ) : K ad n nl ce sl pc lv st τ := kk τ hf
theorem r_rS (h : w_Cl l R D cs aS aV A cc nL own nm K) (kk : rS σ → K ad n nl ce sl pc lv st σ) : K ad n nl ce sl pc lv st σ := by
  obtain ⟨p, e, s, m, args, below, meth, c, Q, C, rfl⟩ := h
  exact fun hσ => kk hσ hσ
theorem r_ret0 {out : Int × SS} {ad0 : Nat → Nat} {n0 : Nat} {nl0 : Nat → Nat → Bool} {x : Int} (h : w_Rt 0 cc 0 0 (w_Po ad0 n0 nl0 out) K) (hd : decode cc pc = .ok (.return_, 1)) (hf : (some (x, σ) : OO) = some out) : K ad0 n0 nl0 0 0 pc lv [] σ := by
  cases hf
  exact h ad0 n0 nl0 pc lv x σ hd ⟨rfl, rfl, rfl, rfl, rfl⟩ trivial
theorem r_ret1 {out : Int × SS} {ad0 : Nat → Nat} {n0 : Nat} {nl0 : Nat → Nat → Bool} {x : Int} (h : w_Rt 1 cc 0 0 (w_Po ad0 n0 nl0 out) K) (hd : decode cc pc = .ok (.ireturn, 1)) (hx : rI x) (hf : (some (x, σ) : OO) = some out) : K ad0 n0 nl0 0 0 pc lv [.int (vI x)] σ := by
  cases hf
  exact h ad0 n0 nl0 pc lv x σ hd ⟨rfl, rfl, rfl, rfl, rfl⟩ hx
theorem r_ret2 {out : Int × SS} {ad0 : Nat → Nat} {n0 : Nat} {nl0 : Nat → Nat → Bool} {x : Int} (h : w_Rt 2 cc 0 0 (w_Po ad0 n0 nl0 out) K) (hd : decode cc pc = .ok (.ireturn, 1)) (hx : x = 0 ∨ x = 1) (hf : (some (x, σ) : OO) = some out) : K ad0 n0 nl0 0 0 pc lv [.int (vI x)] σ := by
  cases hf
  exact h ad0 n0 nl0 pc lv x σ hd ⟨rfl, rfl, rfl, rfl, rfl⟩ hx
theorem r_ret3 {out : Int × SS} {ad0 : Nat → Nat} {n0 : Nat} {nl0 : Nat → Nat → Bool} {x : Int} (h : w_Rt 3 cc 0 0 (w_Po ad0 n0 nl0 out) K) (hd : decode cc pc = .ok (.lreturn, 1)) (hx : rJ x) (hf : (some (x, σ) : OO) = some out) : K ad0 n0 nl0 0 0 pc lv [.long (vJ x)] σ := by
  cases hf
  exact h ad0 n0 nl0 pc lv x σ hd ⟨rfl, rfl, rfl, rfl, rfl⟩ hx
theorem r_ret4 {out : Int × SS} {ad0 : Nat → Nat} {n0 : Nat} {nl0 : Nat → Nat → Bool} {x : Int} (h : w_Rt 4 cc 0 0 (w_Po ad0 n0 nl0 out) K) (hd : decode cc pc = .ok (.ireturn, 1)) (hx : x = 0) (hf : (some (x, σ) : OO) = some out) : K ad0 n0 nl0 0 0 pc lv [.int (vI x)] σ := by
  cases hf
  exact h ad0 n0 nl0 pc lv x σ hd ⟨rfl, rfl, rfl, rfl, rfl⟩ hx
theorem r_ret5 {out : Int × SS} {ad0 : Nat → Nat} {n0 : Nat} {nl0 : Nat → Nat → Bool} {x : Int} (h : w_Rt 5 cc 0 0 (w_Po ad0 n0 nl0 out) K) (hd : decode cc pc = .ok (.ireturn, 1)) (hx : 0 ≤ x ∧ x < 128) (hf : (some (x, σ) : OO) = some out) : K ad0 n0 nl0 0 0 pc lv [.int (vI x)] σ := by
  cases hf
  exact h ad0 n0 nl0 pc lv x σ hd ⟨rfl, rfl, rfl, rfl, rfl⟩ hx
end RW
