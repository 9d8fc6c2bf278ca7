/-! making: the cells come one behind the other; a new one holds zeros and nothing -/
def zr (σ : SS) (n : Nat) : SS := (fun r k => if r = n then 0 else σ.1 r k, fun r k => if r = n then 0 else σ.2 r k)
theorem gi_zr (σ : SS) (n r k : Nat) : gi (zr σ n) r k = if r = n then 0 else gi σ r k := rfl
theorem gj_zr (σ : SS) (n r k : Nat) : gj (zr σ n) r k = if r = n then 0 else gj σ r k := rfl
theorem rS_zr {σ : SS} (h : rS σ) (n : Nat) : rS (zr σ n) := ⟨fun r k => by rw [gi_zr]; split; exact rIc rfl; exact h.1 _ _, fun r k => by rw [gj_zr]; split; exact rJc rfl; exact h.2 _ _⟩
def w_dv (c j : Nat) : Value := if vt c j = 0 then .int (vI 0) else if vt c j = 1 then .long (vJ 0) else .null
theorem w_en_zr {cs : Nat → ClassId} {ad ad' : Nat → Nat} {nl : Nat → Nat → Bool} {σ : SS} {n i : Nat} (hi : i < n) (hE : ∀ j, j ≠ n → ad' j = ad j) (hcl : ∀ k, nl i k = true → rf i k < n) : w_en cs ad' nl (zr σ n) i = w_en cs ad nl σ i := by
  have hne : ¬ i = n := by omega
  have h1 : ∀ k, gi (zr σ n) i k = gi σ i k := fun k => by rw [gi_zr, if_neg hne]
  have h2 : ∀ k, gj (zr σ n) i k = gj σ i k := fun k => by rw [gj_zr, if_neg hne]
  rw [w_en_ne h1 h2]
  have hf : w_fs ad' nl σ i = w_fs ad nl σ i := by
    unfold w_fs
    apply List.map_congr_left
    intro k _
    unfold w_fv
    by_cases hk : nl i k = true
    · rw [hE _ (by have := hcl k hk; omega)]
    · rw [if_neg hk, if_neg hk]
  unfold w_en; rw [hf]
theorem w_push {cs : Nat → ClassId} {ad ad' : Nat → Nat} {nl : Nat → Nat → Bool} {σ : SS} {n q : Nat} {e : va_E} (hE : ∀ j, j ≠ n → ad' j = ad j) (hq : ad' n = q) (hcl : ∀ i, i < n → ∀ k, nl i k = true → rf i k < n) (he : w_en cs ad' nl (zr σ n) n = e) : w_wl cs ad nl σ n ++ [(q, e)] = w_wl cs ad' nl (zr σ n) (n + 1) := by
  unfold w_wl
  rw [List.range_succ, List.map_append]
  congr 1
  · apply List.map_congr_left
    intro i hi
    have hi : i < n := List.mem_range.mp hi
    rw [hE i (by omega), w_en_zr hi hE (hcl i hi)]
  · show [(q, e)] = [(ad' n, w_en cs ad' nl (zr σ n) n)]
    rw [hq, he]
theorem w_mapeq {α β : Type} {N : Nat} {f g : Nat → α} (h : ∀ k, k < N → f k = g k) : (List.range N).map f = (List.range N).map g := List.map_congr_left (fun k hk => h k (List.mem_range.mp hk))
section RN
variable {l : Launch} {R : Room} {D : va_G} {cs : Nat → ClassId} {aS aV : Nat} {A : Nat → Prop} {cc : ByteArray} {nL : Nat} {own nm : String} {K : KT}
variable {ad : Nat → Nat} {n : Nat} {nl : Nat → Nat → Bool} {ce sl pc : Nat} {lv : List (Nat × Value)} {st : List Value} {σ : SS}
theorem r_new (h : w_Cl l R D cs aS aV A cc nL own nm K) {T : u_T} {N i co : Nat} {Cn : String} (hd : decode cc pc = .ok (.new i, 3)) (hcl : Cond.classLink own i Cn ∈ GT) (hins : Cond.instantiable Cn N ∈ GT) (hini : Cond.initialized Cn ∈ GT) (hin : ∀ w ∈ u_ws Cn T N, w ∈ GT) (tyv : Nat → FieldType) (hty : ∀ k, k < N → parseFieldDescriptor (T k).2.2.1 = some (tyv k)) (hc : vwCl[co]? = some (Cn, T, N)) (hco : co < 13) (hCn : rC n = co) (hNn : rN n = N)
    (hdef : ∀ j, j < N → defaultValue (tyv j) = w_dv co j) (hnl0 : ∀ k, nl n k = false) (hcl0 : ∀ i, i < n → ∀ k, nl i k = true → rf i k < n) (hcells : ce + 1 ≤ R.cells) (hslots : sl + N ≤ R.slots)
    (kk : ∀ ad' : Nat → Nat, (∀ j, j ≠ n → ad' j = ad j) → K ad' (n + 1) nl (ce + 1) (sl + N) (pc + 3) lv (.ref (ad' n) :: st) (zr σ n)) : K ad n nl ce sl pc lv st σ := by
  obtain ⟨p, e, s, m, args, below, meth, c, Q, C, rfl⟩ := h
  intro hσ H locs ls hP hD hS hv
  refine va_new (D := D) (cl := vwCl) (tys := w_ty cs) (fs := (List.range N).map (w_dv co)) (T := T) (N := N) (C := Cn) (ci := co) C.1 C.2.1 C.2.2.2.2.1 hin tyv hty C.2.2.2.1 (C.2.2.2.2.1 _ hcl) (C.2.2.2.2.1 _ hins) (C.2.2.2.2.1 _ hini) C.2.2.2.2.2.1 hP hD hS C.2.2.2.2.2.2.2.1 hc (fun j hj => ?_) hcells hslots hd (fun q H1 hP1 hD1 hS1 => ?_)
  · unfold vp_V
    rw [List.getD_eq_getElem?_getD, List.getElem?_map, List.getElem?_range hj]
    exact hdef j hj
  · have hE : ∀ j, j ≠ n → (fun j => if j = n then q else ad j) j = ad j := fun j hj => if_neg hj
    have hq : (fun j => if j = n then q else ad j) n = q := if_pos rfl
    have he : w_en cs (fun j => if j = n then q else ad j) nl (zr σ n) n = .inr (co, (List.range N).map (w_dv co)) := by
      rw [w_obj hCn hco]
      unfold w_fs
      rw [hNn]
      congr 2
      apply w_mapeq (β := Nat)
      intro k hk
      unfold w_fv w_dv
      rw [gi_zr, gj_zr, if_pos rfl, if_pos rfl, hnl0 k, hCn]
      rfl
    rw [w_push hE hq hcl0 he] at hP1 hD1
    have k2 := kk _ hE (rS_zr hσ n) H1 locs ls hP1 hD1 hS1 hv
    rw [if_pos rfl] at k2
    exact k2
theorem r_newaI (h : w_Cl l R D cs aS aV A cc nL own nm K) {atype : ArrayType} {ty : FieldType} {N : Nat} {co t0 : Nat} (hd : decode cc pc = .ok (.newarray atype, 2)) (harr : Cond.arrayClass (newarray.typeOf atype) ∈ GT) (hty : newarray.typeOf atype = ty) (ht0 : (w_ty cs)[t0]? = some (cs co, ty)) (hRA : ∀ (U : State) (c : ClassId), va_RA U c ty = (U.vm.findClass ("[" ++ ty.toString) = some c)) (hdv : defaultValue ty = .int 0) (hco : ¬ co < 13) (h15 : ¬ co = 15) (hCn : rC n = co) (hNn : rN n = N) (hN : N < 2000) (hbytes : N * componentBytes ty ≤ 536870912)
    (hcl0 : ∀ i, i < n → ∀ k, nl i k = true → rf i k < n) (hcells : ce + 1 ≤ R.cells) (hslots : sl + N ≤ R.slots)
    (kk : ∀ ad' : Nat → Nat, (∀ j, j ≠ n → ad' j = ad j) → K ad' (n + 1) nl (ce + 1) (sl + N) (pc + 2) lv (.ref (ad' n) :: st) (zr σ n)) : K ad n nl ce sl pc lv (.int (vI (N : Int)) :: st) σ := by
  obtain ⟨p, e, s, m, args, below, meth, c, Q, C, rfl⟩ := h
  intro hσ H locs ls hP hD hS hv
  have rN' : rI (N : Int) := by unfold rI; omega
  refine va_newa (D := D) (cl := vwCl) (tys := w_ty cs) (a0 := (N, .inl fun _ => 0)) (N' := N) C.1 C.2.1 (C.2.2.2.2.1 _ harr) hty C.2.2.2.2.2.1 hP hD hS C.2.2.2.2.2.2.2.1 (fun cA => by rw [vp_cell_i, hdv]) (fun z => by rw [Int32.lt_iff_toInt_lt, vI_to rN'] at z; have : (0 : Int32).toInt = 0 := rfl; omega) (by rw [vI_clamp rN' (by omega)]; omega) hbytes hcells hslots hd (fun q cA H1 hK1 hP1 hD1 hS1 => ?_)
  have hcA : cA = cs co := by
    have h1 := (hK1.2 (w_ty cs).length (cA, ty) (by simp)).2
    have h2 := (C.2.2.2.2.2.1.2 t0 (cs co, ty) ht0).2
    rw [hRA] at h1 h2
    exact Option.some.inj (h1.symm.trans h2)
  subst hcA
  have hE : ∀ j, j ≠ n → (fun j => if j = n then q else ad j) j = ad j := fun j hj => if_neg hj
  have hq : (fun j => if j = n then q else ad j) n = q := if_pos rfl
  have he : w_en cs (fun j => if j = n then q else ad j) nl (zr σ n) n = .inl (cs co, N, .inl fun _ => 0) := by
    rw [w_arr hCn hco h15, hNn]
    congr 3
    congr 1
    funext j
    rw [gi_zr, if_pos rfl]
    rfl
  rw [w_push hE hq hcl0 he] at hP1 hD1
  have k2 := kk _ hE (rS_zr hσ n) H1 locs ls hP1 hD1 hS1 hv
  rw [if_pos rfl] at k2
  exact k2
theorem r_newaJ (h : w_Cl l R D cs aS aV A cc nL own nm K) {atype : ArrayType} {N : Nat} (hd : decode cc pc = .ok (.newarray atype, 2)) (harr : Cond.arrayClass (newarray.typeOf atype) ∈ GT) (hty : newarray.typeOf atype = .long) (hCn : rC n = 15) (hNn : rN n = N) (hN : N < 2000) (hbytes : N * componentBytes .long ≤ 536870912)
    (hcl0 : ∀ i, i < n → ∀ k, nl i k = true → rf i k < n) (hcells : ce + 1 ≤ R.cells) (hslots : sl + N ≤ R.slots)
    (kk : ∀ ad' : Nat → Nat, (∀ j, j ≠ n → ad' j = ad j) → K ad' (n + 1) nl (ce + 1) (sl + N) (pc + 2) lv (.ref (ad' n) :: st) (zr σ n)) : K ad n nl ce sl pc lv (.int (vI (N : Int)) :: st) σ := by
  obtain ⟨p, e, s, m, args, below, meth, c, Q, C, rfl⟩ := h
  intro hσ H locs ls hP hD hS hv
  have rN' : rI (N : Int) := by unfold rI; omega
  refine va_newa (D := D) (cl := vwCl) (tys := w_ty cs) (a0 := (N, .inr (.inl fun _ => 0))) (N' := N) C.1 C.2.1 (C.2.2.2.2.1 _ harr) hty C.2.2.2.2.2.1 hP hD hS C.2.2.2.2.2.2.2.1 (fun cA => by rw [vp_cell_l]; rfl) (fun z => by rw [Int32.lt_iff_toInt_lt, vI_to rN'] at z; have : (0 : Int32).toInt = 0 := rfl; omega) (by rw [vI_clamp rN' (by omega)]; omega) hbytes hcells hslots hd (fun q cA H1 hK1 hP1 hD1 hS1 => ?_)
  have hcA : cA = cs 15 := by
    have h1 : s.vm.findClass _ = some cA := (hK1.2 (w_ty cs).length (cA, .long) (by simp)).2
    have h2 : s.vm.findClass _ = some (cs 15) := (C.2.2.2.2.2.1.2 2 (cs 15, .long) rfl).2
    exact Option.some.inj (h1.symm.trans h2)
  subst hcA
  have hE : ∀ j, j ≠ n → (fun j => if j = n then q else ad j) j = ad j := fun j hj => if_neg hj
  have hq : (fun j => if j = n then q else ad j) n = q := if_pos rfl
  have he : w_en cs (fun j => if j = n then q else ad j) nl (zr σ n) n = .inl (cs 15, N, .inr (.inl fun _ => 0)) := by
    rw [w_arJ hCn, hNn]
    congr 4
    congr 1
    funext j
    rw [gj_zr, if_pos rfl]
    rfl
  rw [w_push hE hq hcl0 he] at hP1 hD1
  have k2 := kk _ hE (rS_zr hσ n) H1 locs ls hP1 hD1 hS1 hv
  rw [if_pos rfl] at k2
  exact k2
end RN
def w_Pi (ad : Nat → Nat) (n n1 e1 : Nat) (nlE : Nat → Nat → Nat → Bool) (out : Int × SS) : PT := fun ad' n' nl' r σ => (∀ j, j < n → ad' j = ad j) ∧ n' = n1 ∧ nl' = nlE e1 ∧ r = out.1 ∧ σ = out.2
