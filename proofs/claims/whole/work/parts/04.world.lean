/-! the world: the cells made so far, what each holds -/
def w_fv (ad : Nat → Nat) (nl : Nat → Nat → Bool) (σ : SS) (i k : Nat) : Value :=
  if vt (rC i) k = 0 then .int (vI (gi σ i k)) else if vt (rC i) k = 1 then .long (vJ (gj σ i k)) else if nl i k then .ref (ad (rf i k)) else .null
def w_fs (ad : Nat → Nat) (nl : Nat → Nat → Bool) (σ : SS) (i : Nat) : List Value := (List.range (rN i)).map (w_fv ad nl σ i)
def w_ar (σ : SS) (i : Nat) : vp_A := if rC i = 15 then (rN i, .inr (.inl fun j => vJ (gj σ i j))) else (rN i, .inl fun j => vI (gi σ i j))
def w_en (cs : Nat → ClassId) (ad : Nat → Nat) (nl : Nat → Nat → Bool) (σ : SS) (i : Nat) : va_E := if rC i < 13 then .inr (rC i, w_fs ad nl σ i) else .inl (cs (rC i), w_ar σ i)
def w_wl (cs : Nat → ClassId) (ad : Nat → Nat) (nl : Nat → Nat → Bool) (σ : SS) (n : Nat) : va_W := (List.range n).map fun i => (ad i, w_en cs ad nl σ i)
def w_ty (cs : Nat → ClassId) : List (ClassId × FieldType) := [(cs 13, .byte), (cs 14, .int), (cs 15, .long), (cs 16, .boolean)]
theorem w_wl_at {cs : Nat → ClassId} {ad : Nat → Nat} {nl : Nat → Nat → Bool} {σ : SS} {n i : Nat} (hi : i < n) : (w_wl cs ad nl σ n)[i]? = some (ad i, w_en cs ad nl σ i) := by
  unfold w_wl
  rw [List.getElem?_map, List.getElem?_range hi]; rfl
theorem w_wl_out {cs : Nat → ClassId} {ad : Nat → Nat} {nl : Nat → Nat → Bool} {σ : SS} {n i : Nat} (hi : n ≤ i) : (w_wl cs ad nl σ n)[i]? = none := by
  rw [List.getElem?_eq_none]; unfold w_wl; simpa using hi
theorem w_wl_len (cs : Nat → ClassId) (ad : Nat → Nat) (nl : Nat → Nat → Bool) (σ : SS) (n : Nat) : (w_wl cs ad nl σ n).length = n := by simp [w_wl]
theorem w_obj {cs : Nat → ClassId} {ad : Nat → Nat} {nl : Nat → Nat → Bool} {σ : SS} {i c : Nat} (h : rC i = c) (hc : c < 13) : w_en cs ad nl σ i = .inr (c, w_fs ad nl σ i) := by
  subst h; unfold w_en; rw [if_pos hc]
theorem w_arr {cs : Nat → ClassId} {ad : Nat → Nat} {nl : Nat → Nat → Bool} {σ : SS} {i c : Nat} (h : rC i = c) (hc : ¬ c < 13) (h15 : ¬ c = 15) : w_en cs ad nl σ i = .inl (cs c, rN i, .inl fun j => vI (gi σ i j)) := by
  subst h; unfold w_en w_ar; rw [if_neg hc, if_neg h15]
theorem w_arJ {cs : Nat → ClassId} {ad : Nat → Nat} {nl : Nat → Nat → Bool} {σ : SS} {i : Nat} (h : rC i = 15) : w_en cs ad nl σ i = .inl (cs 15, rN i, .inr (.inl fun j => vJ (gj σ i j))) := by
  unfold w_en w_ar; rw [h, if_neg (by decide), if_pos rfl]
theorem w_fs_at {ad : Nat → Nat} {nl : Nat → Nat → Bool} {σ : SS} {i k : Nat} (hk : k < rN i) : (w_fs ad nl σ i)[k]? = some (w_fv ad nl σ i k) := by
  unfold w_fs
  rw [List.getElem?_map, List.getElem?_range hk]; rfl
theorem w_fs_len (ad : Nat → Nat) (nl : Nat → Nat → Bool) (σ : SS) (i : Nat) : (w_fs ad nl σ i).length = rN i := by simp [w_fs]
def nu (nl : Nat → Nat → Bool) (i k : Nat) : Nat → Nat → Bool := fun i' k' => if i' = i ∧ k' = k then true else nl i' k'
theorem w_fsI {ad : Nat → Nat} {nl : Nat → Nat → Bool} {σ : SS} {i k : Nat} {x : Int} (hv : vt (rC i) k = 0) : (w_fs ad nl σ i).set k (.int (vI x)) = w_fs ad nl (si σ i k x) i := by
  apply List.ext_getElem?
  intro j
  rw [List.getElem?_set]
  by_cases hj : j < rN i
  · rw [w_fs_at hj, w_fs_at hj, w_fs_len]
    by_cases e : k = j
    · subst e
      rw [if_pos rfl, if_pos hj]
      simp [w_fv, hv, gi_si]
    · rw [if_neg e]
      have e2 : ¬ j = k := fun z => e z.symm
      simp [w_fv, gi_si, gj_si, e2]
  · have h1 : ∀ σ, (w_fs ad nl σ i)[j]? = none := fun σ => List.getElem?_eq_none (by rw [w_fs_len]; omega)
    rw [h1, h1, w_fs_len]
    by_cases e : k = j
    · rw [if_pos e, if_neg (by omega)]
    · rw [if_neg e]
theorem w_fsJ {ad : Nat → Nat} {nl : Nat → Nat → Bool} {σ : SS} {i k : Nat} {x : Int} (hv : vt (rC i) k = 1) : (w_fs ad nl σ i).set k (.long (vJ x)) = w_fs ad nl (sj σ i k x) i := by
  apply List.ext_getElem?
  intro j
  rw [List.getElem?_set]
  by_cases hj : j < rN i
  · rw [w_fs_at hj, w_fs_at hj, w_fs_len]
    by_cases e : k = j
    · subst e
      rw [if_pos rfl, if_pos hj]
      simp [w_fv, hv, gj_sj]
    · rw [if_neg e]
      have e2 : ¬ j = k := fun z => e z.symm
      simp [w_fv, gj_sj, gi_sj, e2]
  · have h1 : ∀ σ, (w_fs ad nl σ i)[j]? = none := fun σ => List.getElem?_eq_none (by rw [w_fs_len]; omega)
    rw [h1, h1, w_fs_len]
    by_cases e : k = j
    · rw [if_pos e, if_neg (by omega)]
    · rw [if_neg e]
theorem w_fsR {ad : Nat → Nat} {nl : Nat → Nat → Bool} {σ : SS} {i k : Nat} (hv : vt (rC i) k = 2) : (w_fs ad nl σ i).set k (.ref (ad (rf i k))) = w_fs ad (nu nl i k) σ i := by
  apply List.ext_getElem?
  intro j
  rw [List.getElem?_set]
  by_cases hj : j < rN i
  · rw [w_fs_at hj, w_fs_at hj, w_fs_len]
    by_cases e : k = j
    · subst e
      rw [if_pos rfl, if_pos hj]
      simp [w_fv, hv, nu]
    · rw [if_neg e]
      have e2 : ¬ j = k := fun z => e z.symm
      simp [w_fv, nu, e2]
  · have h1 : ∀ nl, (w_fs ad nl σ i)[j]? = none := fun nl => List.getElem?_eq_none (by rw [w_fs_len]; omega)
    rw [h1, h1, w_fs_len]
    by_cases e : k = j
    · rw [if_pos e, if_neg (by omega)]
    · rw [if_neg e]
theorem w_en_ne {cs : Nat → ClassId} {ad : Nat → Nat} {nl : Nat → Nat → Bool} {σ τ : SS} {i : Nat} (h1 : ∀ k, gi τ i k = gi σ i k) (h2 : ∀ k, gj τ i k = gj σ i k) : w_en cs ad nl τ i = w_en cs ad nl σ i := by
  have hf : w_fs ad nl τ i = w_fs ad nl σ i := by
    unfold w_fs
    apply List.map_congr_left
    intro k _
    unfold w_fv; rw [h1, h2]
  have ha : w_ar τ i = w_ar σ i := by
    unfold w_ar
    simp only [h1, h2]
  unfold w_en; rw [hf, ha]
theorem w_set {cs : Nat → ClassId} {ad : Nat → Nat} {nl : Nat → Nat → Bool} {σ τ : SS} {n i : Nat} {e : va_E} (he : e = w_en cs ad nl τ i) (h1 : ∀ j k, j ≠ i → gi τ j k = gi σ j k) (h2 : ∀ j k, j ≠ i → gj τ j k = gj σ j k) : (w_wl cs ad nl σ n).set i (ad i, e) = w_wl cs ad nl τ n := by
  apply List.ext_getElem?
  intro j
  rw [List.getElem?_set, w_wl_len]
  by_cases hj : j < n
  · rw [w_wl_at hj, w_wl_at hj]
    by_cases q : i = j
    · subst q
      rw [if_pos rfl, if_pos hj, he]
    · rw [if_neg q, w_en_ne (fun k => h1 j k (fun z => q z.symm)) (fun k => h2 j k (fun z => q z.symm))]
  · rw [w_wl_out (by omega), w_wl_out (by omega)]
    by_cases q : i = j
    · rw [if_pos q, if_neg (by omega)]
    · rw [if_neg q]
theorem si_ne {σ : SS} {r k : Nat} {v : Int} : ∀ j k', j ≠ r → gi (si σ r k v) j k' = gi σ j k' := fun j k' h => by rw [gi_si, if_neg (fun z => h z.1)]
theorem sj_ne {σ : SS} {r k : Nat} {v : Int} : ∀ j k', j ≠ r → gj (sj σ r k v) j k' = gj σ j k' := fun j k' h => by rw [gj_sj, if_neg (fun z => h z.1)]
theorem w_putI {cs : Nat → ClassId} {ad : Nat → Nat} {nl : Nat → Nat → Bool} {σ : SS} {n i c k : Nat} {x : Int} (hC : rC i = c) (hc : c < 13) (hv : vt c k = 0) : (w_wl cs ad nl σ n).set i (ad i, .inr (c, (w_fs ad nl σ i).set k (.int (vI x)))) = w_wl cs ad nl (si σ i k x) n :=
  w_set (by rw [w_obj hC hc, w_fsI (by rw [hC]; exact hv)]) si_ne (fun _ _ _ => rfl)
theorem w_putJ {cs : Nat → ClassId} {ad : Nat → Nat} {nl : Nat → Nat → Bool} {σ : SS} {n i c k : Nat} {x : Int} (hC : rC i = c) (hc : c < 13) (hv : vt c k = 1) : (w_wl cs ad nl σ n).set i (ad i, .inr (c, (w_fs ad nl σ i).set k (.long (vJ x)))) = w_wl cs ad nl (sj σ i k x) n :=
  w_set (by rw [w_obj hC hc, w_fsJ (by rw [hC]; exact hv)]) (fun _ _ _ => rfl) sj_ne
theorem w_stI {cs : Nat → ClassId} {ad : Nat → Nat} {nl : Nat → Nat → Bool} {σ : SS} {n i c k : Nat} {x : Int} (hC : rC i = c) (hc : ¬ c < 13) (h15 : ¬ c = 15) : (w_wl cs ad nl σ n).set i (ad i, .inl (cs c, rN i, .inl (upd (fun j => vI (gi σ i j)) k (vI x)))) = w_wl cs ad nl (si σ i k x) n :=
  w_set (by
    rw [w_arr hC hc h15]
    congr 3
    congr 1
    funext j
    unfold upd
    rw [gi_si]
    by_cases e : j = k
    · rw [if_pos e, if_pos ⟨rfl, e⟩]
    · rw [if_neg e, if_neg (fun z => e z.2)]) si_ne (fun _ _ _ => rfl)
theorem w_stJ {cs : Nat → ClassId} {ad : Nat → Nat} {nl : Nat → Nat → Bool} {σ : SS} {n i k : Nat} {x : Int} (hC : rC i = 15) : (w_wl cs ad nl σ n).set i (ad i, .inl (cs 15, rN i, .inr (.inl (vp_updL (fun j => vJ (gj σ i j)) k (vJ x))))) = w_wl cs ad nl (sj σ i k x) n :=
  w_set (by
    rw [w_arJ hC]
    congr 4
    congr 1
    funext j
    unfold vp_updL
    rw [gj_sj]
    by_cases e : j = k
    · rw [if_pos e, if_pos ⟨rfl, e⟩]
    · rw [if_neg e, if_neg (fun z => e z.2)]) (fun _ _ _ => rfl) sj_ne
/-! the words that hold at every method's entry -/
def GT : List Cond := lw_tbl.filter goodWord
theorem gt_of {w : Cond} (h : w ∈ lw_tbl) (g : goodWord w = true) : w ∈ GT := List.mem_filter.mpr ⟨h, g⟩
theorem gt_in (i : Nat) {w : Cond} (h : tables_1[i]? = some w) (g : goodWord w = true) : w ∈ GT := gt_of (List.mem_append_right _ (List.mem_of_getElem? h)) g
theorem gt_sel (i : Nat) {w : Cond} (h : (k2_sels lw_privs)[i]? = some w) (g : goodWord w = true) : w ∈ GT := gt_of (List.mem_append_left _ (List.mem_of_getElem? h)) g
theorem gt_good {y : MethodName} {cc : ByteArray} {mL : Nat} {ret : Option FieldType} {y2 : MethodName} {c2 : ByteArray} {mL2 : Nat} {ret2 : Option FieldType} (h : Cond.code y2 c2 mL2 ret2 ∈ GT) : GoodIn (.code y cc mL ret :: GT) (.code y2 c2 mL2 ret2 :: GT) := by
  intro w hw
  rcases List.mem_cons.mp hw with e | e
  · subst e
    exact ⟨List.mem_cons_of_mem _ h, good_of_word (List.mem_filter.mp h).2⟩
  · exact ⟨List.mem_cons_of_mem _ e, good_of_word (List.mem_filter.mp e).2⟩
theorem w_putR {cs : Nat → ClassId} {ad : Nat → Nat} {nl : Nat → Nat → Bool} {σ : SS} {n i c k : Nat} (hC : rC i = c) (hc : c < 13) (hv : vt c k = 2) : (w_wl cs ad nl σ n).set i (ad i, .inr (c, (w_fs ad nl σ i).set k (.ref (ad (rf i k))))) = w_wl cs ad (nu nl i k) σ n := by
  apply List.ext_getElem?
  intro j
  rw [List.getElem?_set, w_wl_len]
  by_cases hj : j < n
  · rw [w_wl_at hj, w_wl_at hj]
    by_cases q : i = j
    · subst q
      rw [if_pos rfl, if_pos hj, w_obj hC hc, w_fsR (by rw [hC]; exact hv)]
    · have e : w_en cs ad (nu nl i k) σ j = w_en cs ad nl σ j := by
        have hf : w_fs ad (nu nl i k) σ j = w_fs ad nl σ j := by
          unfold w_fs
          apply List.map_congr_left
          intro k' _
          unfold w_fv nu; rw [if_neg (fun z : j = i ∧ k' = k => q z.1.symm)]
        unfold w_en; rw [hf]
      rw [if_neg q, e]
  · rw [w_wl_out (by omega), w_wl_out (by omega)]
    by_cases q : i = j
    · rw [if_pos q, if_neg (by omega)]
    · rw [if_neg q]
