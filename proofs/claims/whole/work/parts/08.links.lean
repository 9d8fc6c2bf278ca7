/-! words of the tables by their places; rows of fields by their links; what a call wants -/
theorem gt_list (ws : List Cond) (ps : List Nat) (hp : ws = ps.filterMap (fun i => tables_1[i]?)) (h : ws.all goodWord = true) : ∀ w ∈ ws, w ∈ GT := fun w hw => by
  have h1 := List.all_eq_true.mp h w hw
  rw [hp] at hw
  obtain ⟨i, -, hi⟩ := List.mem_filterMap.mp hw
  exact gt_in i hi h1
theorem gt_in1 (i : Nat) {w : Cond} (h : tables_1_1[i]? = some w) (g : goodWord w = true) : w ∈ GT := gt_of (List.mem_append_right _ (by have h := List.mem_of_getElem? h; exact (List.mem_append_left _ h))) g
theorem gt_in2 (i : Nat) {w : Cond} (h : tables_1_2[i]? = some w) (g : goodWord w = true) : w ∈ GT := gt_of (List.mem_append_right _ (by have h := List.mem_of_getElem? h; exact (List.mem_append_right _ (List.mem_append_left _ h)))) g
theorem gt_in3 (i : Nat) {w : Cond} (h : tables_1_3[i]? = some w) (g : goodWord w = true) : w ∈ GT := gt_of (List.mem_append_right _ (by have h := List.mem_of_getElem? h; exact (List.mem_append_right _ (List.mem_append_right _ (List.mem_append_left _ h))))) g
theorem gt_in4 (i : Nat) {w : Cond} (h : tables_1_4[i]? = some w) (g : goodWord w = true) : w ∈ GT := gt_of (List.mem_append_right _ (by have h := List.mem_of_getElem? h; exact (List.mem_append_right _ (List.mem_append_right _ (List.mem_append_right _ (List.mem_append_left _ h)))))) g
theorem gt_in5 (i : Nat) {w : Cond} (h : tables_1_5[i]? = some w) (g : goodWord w = true) : w ∈ GT := gt_of (List.mem_append_right _ (by have h := List.mem_of_getElem? h; exact (List.mem_append_right _ (List.mem_append_right _ (List.mem_append_right _ (List.mem_append_right _ (List.mem_append_left _ h))))))) g
theorem gt_in6 (i : Nat) {w : Cond} (h : tables_1_6[i]? = some w) (g : goodWord w = true) : w ∈ GT := gt_of (List.mem_append_right _ (by have h := List.mem_of_getElem? h; exact (List.mem_append_right _ (List.mem_append_right _ (List.mem_append_right _ (List.mem_append_right _ (List.mem_append_right _ (List.mem_append_left _ h)))))))) g
theorem gt_in7 (i : Nat) {w : Cond} (h : tables_1_7[i]? = some w) (g : goodWord w = true) : w ∈ GT := gt_of (List.mem_append_right _ (by have h := List.mem_of_getElem? h; exact (List.mem_append_right _ (List.mem_append_right _ (List.mem_append_right _ (List.mem_append_right _ (List.mem_append_right _ (List.mem_append_right _ (List.mem_append_left _ h))))))))) g
theorem gt_in8 (i : Nat) {w : Cond} (h : tables_1_8[i]? = some w) (g : goodWord w = true) : w ∈ GT := gt_of (List.mem_append_right _ (by have h := List.mem_of_getElem? h; exact (List.mem_append_right _ (List.mem_append_right _ (List.mem_append_right _ (List.mem_append_right _ (List.mem_append_right _ (List.mem_append_right _ (List.mem_append_right _ (List.mem_append_left _ h)))))))))) g
theorem gt_in9 (i : Nat) {w : Cond} (h : tables_1_9[i]? = some w) (g : goodWord w = true) : w ∈ GT := gt_of (List.mem_append_right _ (by have h := List.mem_of_getElem? h; exact (List.mem_append_right _ (List.mem_append_right _ (List.mem_append_right _ (List.mem_append_right _ (List.mem_append_right _ (List.mem_append_right _ (List.mem_append_right _ (List.mem_append_right _ h)))))))))) g
theorem rC_uni0 : ∀ i, rC i = 0 → i = 46 := rf_rel (by decide +kernel)
theorem rC_uni1 : ∀ i, rC i = 1 → i = 61 := rf_rel (by decide +kernel)
theorem rC_uni3 : ∀ i, rC i = 3 → i = 44 := rf_rel (by decide +kernel)
theorem rC_uni5 : ∀ i, rC i = 5 → i = 42 := rf_rel (by decide +kernel)
theorem rC_uni6 : ∀ i, rC i = 6 → i = 79 := rf_rel (by decide +kernel)
theorem rC_uni10 : ∀ i, rC i = 10 → i = 43 := rf_rel (by decide +kernel)
theorem rC_uni11 : ∀ i, rC i = 11 → i = 0 := rf_rel (by decide +kernel)
theorem rC_uni12 : ∀ i, rC i = 12 → i = 86 := rf_rel (by decide +kernel)
theorem inG0 : ∀ w ∈ u_ws RX0 TX0 14, w ∈ GT := gt_list _ [330, 332, 334, 336, 338, 340, 342, 344, 346, 348, 350, 352, 354, 356] (by decide +kernel) (by decide +kernel)
theorem inG1 : ∀ w ∈ u_ws RX1 TX1 20, w ∈ GT := gt_list _ [442, 444, 446, 448, 450, 452, 454, 456, 458, 460, 462, 464, 466, 468, 470, 472, 474, 476, 478, 480] (by decide +kernel) (by decide +kernel)
theorem inG2 : ∀ w ∈ u_ws RX2 TX2 4, w ∈ GT := gt_list _ [46, 48, 50, 52] (by decide +kernel) (by decide +kernel)
theorem inG3 : ∀ w ∈ u_ws RX3 TX3 5, w ∈ GT := gt_list _ [220, 222, 224, 226, 228] (by decide +kernel) (by decide +kernel)
theorem inG4 : ∀ w ∈ u_ws RX4 TX4 20, w ∈ GT := gt_list _ [128, 130, 132, 134, 136, 138, 140, 142, 144, 146, 148, 150, 152, 154, 156, 158, 160, 162, 164, 166] (by decide +kernel) (by decide +kernel)
theorem inG5 : ∀ w ∈ u_ws RX5 TX5 6, w ∈ GT := gt_list _ [239, 241, 243, 245, 247, 249] (by decide +kernel) (by decide +kernel)
theorem inG6 : ∀ w ∈ u_ws RX6 TX6 7, w ∈ GT := gt_list _ [500, 502, 504, 506, 508, 510, 512] (by decide +kernel) (by decide +kernel)
theorem inG7 : ∀ w ∈ u_ws RX7 TX7 4, w ∈ GT := gt_list _ [377, 379, 381, 383] (by decide +kernel) (by decide +kernel)
theorem inG8 : ∀ w ∈ u_ws RX8 TX8 4, w ∈ GT := gt_list _ [402, 404, 406, 408] (by decide +kernel) (by decide +kernel)
theorem inG9 : ∀ w ∈ u_ws RX9 TX9 7, w ∈ GT := gt_list _ [276, 278, 280, 282, 284, 286, 288] (by decide +kernel) (by decide +kernel)
theorem inG10 : ∀ w ∈ u_ws RX10 TX10 7, w ∈ GT := gt_list _ [190, 192, 194, 196, 198, 200, 202] (by decide +kernel) (by decide +kernel)
theorem inG11 : ∀ w ∈ u_ws RX11 TX11 10, w ∈ GT := gt_list _ [525, 527, 529, 531, 533, 535, 537, 539, 541, 543] (by decide +kernel) (by decide +kernel)
theorem inG12 : ∀ w ∈ u_ws RX12 TX12 84, w ∈ GT := gt_list _ [1377, 1379, 1381, 1383, 1385, 1387, 1389, 1391, 1393, 1395, 1397, 1399, 1401, 1403, 1405, 1407, 1409, 1411, 1413, 1415, 1417, 1419, 1421, 1423, 1425, 1427, 1429, 1431, 1433, 1435, 1437, 1439, 1441, 1443, 1445, 1447, 1449, 1451, 1453, 1455, 1457, 1459, 1461, 1463, 1465, 1467, 1469, 1471, 1473, 1475, 1477, 1479, 1481, 1483, 1485, 1487, 1489, 1491, 1493, 1495, 1497, 1499, 1501, 1503, 1505, 1507, 1509, 1511, 1513, 1515, 1517, 1519, 1521, 1523, 1525, 1527, 1529, 1531, 1533, 1535, 1537, 1539, 1541, 1543] (by decide +kernel) (by decide +kernel)
section LK
variable {l : Launch} {R : Room} {D : va_G} {cs : Nat → ClassId} {aS aV : Nat} {A : Nat → Prop} {cc : ByteArray} {nL : Nat} {nm : String} {K : KT}
variable {ad : Nat → Nat} {n : Nat} {nl : Nat → Nat → Bool} {ce sl pc : Nat} {lv : List (Nat × Value)} {st : List Value} {σ : SS} {t : Nat}
set_option maxRecDepth 100000 in
theorem fl_X0_9 : Cond.fieldLink RX0 9 (TX0 1).1 (TX0 1).2.1 (TX0 1).2.2.1 ∈ GT := gt_in2 73 rfl rfl
theorem g_X0_9 (h : w_Cl l R D cs aS aV A cc nL RX0 nm K) (hd : decode cc pc = .ok (.getfield 9, 3)) (ht : t < n) (hC : rC t = 0) (hnl : nl t 1 = true) (kk : K ad n nl ce sl (pc + 3) lv (.ref (ad (47)) :: st) σ) : K ad n nl ce sl pc lv (.ref (ad t) :: st) σ := r_getR (T := TX0) (N := 14) (k := 1) (co := 0) (Cn := RX0) h hd inG0 rfl (by decide) fl_X0_9 (by decide) ht hC (rNo_0 t hC) (by decide) hnl (47) (by have z : t = 46 := rC_uni0 t hC; subst z; exact rf_0_1) kk
theorem p_X0_9 (h : w_Cl l R D cs aS aV A cc nL RX0 "<init>" K) (hd : decode cc pc = .ok (.putfield 9, 3)) (ht : t < n) (hC : rC t = 0) (kk : K ad n (nu nl t 1) ce sl (pc + 3) lv st σ) : K ad n nl ce sl pc lv (.ref (ad (47)) :: .ref (ad t) :: st) σ := r_putR (T := TX0) (N := 14) (k := 1) (co := 0) (Cn := RX0) h hd inG0 tyX0 tyX0_ok nmX0 rfl (by decide) fl_X0_9 (by decide) ht hC (rNo_0 t hC) (by decide) rfl rfl rfl (fun _ => ⟨rfl, rfl⟩) (by have z : t = 46 := rC_uni0 t hC; subst z; exact rf_0_1) kk
set_option maxRecDepth 100000 in
theorem fl_X0_15 : Cond.fieldLink RX0 15 (TX0 8).1 (TX0 8).2.1 (TX0 8).2.2.1 ∈ GT := gt_in2 82 rfl rfl
theorem g_X0_15 (h : w_Cl l R D cs aS aV A cc nL RX0 nm K) (hd : decode cc pc = .ok (.getfield 15, 3)) (ht : t < n) (hC : rC t = 0) (hnl : nl t 8 = true) (kk : K ad n nl ce sl (pc + 3) lv (.ref (ad (48)) :: st) σ) : K ad n nl ce sl pc lv (.ref (ad t) :: st) σ := r_getR (T := TX0) (N := 14) (k := 8) (co := 0) (Cn := RX0) h hd inG0 rfl (by decide) fl_X0_15 (by decide) ht hC (rNo_0 t hC) (by decide) hnl (48) (by have z : t = 46 := rC_uni0 t hC; subst z; exact rf_0_8) kk
theorem p_X0_15 (h : w_Cl l R D cs aS aV A cc nL RX0 "<init>" K) (hd : decode cc pc = .ok (.putfield 15, 3)) (ht : t < n) (hC : rC t = 0) (kk : K ad n (nu nl t 8) ce sl (pc + 3) lv st σ) : K ad n nl ce sl pc lv (.ref (ad (48)) :: .ref (ad t) :: st) σ := r_putR (T := TX0) (N := 14) (k := 8) (co := 0) (Cn := RX0) h hd inG0 tyX0 tyX0_ok nmX0 rfl (by decide) fl_X0_15 (by decide) ht hC (rNo_0 t hC) (by decide) rfl rfl rfl (fun _ => ⟨rfl, rfl⟩) (by have z : t = 46 := rC_uni0 t hC; subst z; exact rf_0_8) kk
set_option maxRecDepth 100000 in
theorem fl_X0_18 : Cond.fieldLink RX0 18 (TX0 12).1 (TX0 12).2.1 (TX0 12).2.2.1 ∈ GT := gt_in2 88 rfl rfl
theorem g_X0_18 (h : w_Cl l R D cs aS aV A cc nL RX0 nm K) (hd : decode cc pc = .ok (.getfield 18, 3)) (ht : t < n) (hC : rC t = 0) (hnl : nl t 12 = true) (kk : K ad n nl ce sl (pc + 3) lv (.ref (ad (49)) :: st) σ) : K ad n nl ce sl pc lv (.ref (ad t) :: st) σ := r_getR (T := TX0) (N := 14) (k := 12) (co := 0) (Cn := RX0) h hd inG0 rfl (by decide) fl_X0_18 (by decide) ht hC (rNo_0 t hC) (by decide) hnl (49) (by have z : t = 46 := rC_uni0 t hC; subst z; exact rf_0_12) kk
theorem p_X0_18 (h : w_Cl l R D cs aS aV A cc nL RX0 "<init>" K) (hd : decode cc pc = .ok (.putfield 18, 3)) (ht : t < n) (hC : rC t = 0) (kk : K ad n (nu nl t 12) ce sl (pc + 3) lv st σ) : K ad n nl ce sl pc lv (.ref (ad (49)) :: .ref (ad t) :: st) σ := r_putR (T := TX0) (N := 14) (k := 12) (co := 0) (Cn := RX0) h hd inG0 tyX0 tyX0_ok nmX0 rfl (by decide) fl_X0_18 (by decide) ht hC (rNo_0 t hC) (by decide) rfl rfl rfl (fun _ => ⟨rfl, rfl⟩) (by have z : t = 46 := rC_uni0 t hC; subst z; exact rf_0_12) kk
set_option maxRecDepth 100000 in
theorem fl_X0_21 : Cond.fieldLink RX0 21 (TX0 13).1 (TX0 13).2.1 (TX0 13).2.2.1 ∈ GT := gt_in2 89 rfl rfl
theorem g_X0_21 (h : w_Cl l R D cs aS aV A cc nL RX0 nm K) (hd : decode cc pc = .ok (.getfield 21, 3)) (ht : t < n) (hC : rC t = 0) (hnl : nl t 13 = true) (kk : K ad n nl ce sl (pc + 3) lv (.ref (ad (50)) :: st) σ) : K ad n nl ce sl pc lv (.ref (ad t) :: st) σ := r_getR (T := TX0) (N := 14) (k := 13) (co := 0) (Cn := RX0) h hd inG0 rfl (by decide) fl_X0_21 (by decide) ht hC (rNo_0 t hC) (by decide) hnl (50) (by have z : t = 46 := rC_uni0 t hC; subst z; exact rf_0_13) kk
theorem p_X0_21 (h : w_Cl l R D cs aS aV A cc nL RX0 "<init>" K) (hd : decode cc pc = .ok (.putfield 21, 3)) (ht : t < n) (hC : rC t = 0) (kk : K ad n (nu nl t 13) ce sl (pc + 3) lv st σ) : K ad n nl ce sl pc lv (.ref (ad (50)) :: .ref (ad t) :: st) σ := r_putR (T := TX0) (N := 14) (k := 13) (co := 0) (Cn := RX0) h hd inG0 tyX0 tyX0_ok nmX0 rfl (by decide) fl_X0_21 (by decide) ht hC (rNo_0 t hC) (by decide) rfl rfl rfl (fun _ => ⟨rfl, rfl⟩) (by have z : t = 46 := rC_uni0 t hC; subst z; exact rf_0_13) kk
set_option maxRecDepth 100000 in
theorem fl_X0_25 : Cond.fieldLink RX0 25 (TX0 0).1 (TX0 0).2.1 (TX0 0).2.2.1 ∈ GT := gt_in2 72 rfl rfl
theorem g_X0_25 (h : w_Cl l R D cs aS aV A cc nL RX0 nm K) (hd : decode cc pc = .ok (.getfield 25, 3)) (ht : t < n) (hC : rC t = 0) (hnl : nl t 0 = true) (kk : K ad n nl ce sl (pc + 3) lv (.ref (ad (2)) :: st) σ) : K ad n nl ce sl pc lv (.ref (ad t) :: st) σ := r_getR (T := TX0) (N := 14) (k := 0) (co := 0) (Cn := RX0) h hd inG0 rfl (by decide) fl_X0_25 (by decide) ht hC (rNo_0 t hC) (by decide) hnl (2) (by have z : t = 46 := rC_uni0 t hC; subst z; exact rf_0_0) kk
theorem p_X0_25 (h : w_Cl l R D cs aS aV A cc nL RX0 "<init>" K) (hd : decode cc pc = .ok (.putfield 25, 3)) (ht : t < n) (hC : rC t = 0) (kk : K ad n (nu nl t 0) ce sl (pc + 3) lv st σ) : K ad n nl ce sl pc lv (.ref (ad (2)) :: .ref (ad t) :: st) σ := r_putR (T := TX0) (N := 14) (k := 0) (co := 0) (Cn := RX0) h hd inG0 tyX0 tyX0_ok nmX0 rfl (by decide) fl_X0_25 (by decide) ht hC (rNo_0 t hC) (by decide) rfl rfl rfl (fun _ => ⟨rfl, rfl⟩) (by have z : t = 46 := rC_uni0 t hC; subst z; exact rf_0_0) kk
set_option maxRecDepth 100000 in
theorem fl_X0_34 : Cond.fieldLink RX0 34 (TX0 3).1 (TX0 3).2.1 (TX0 3).2.2.1 ∈ GT := gt_in2 77 rfl rfl
theorem g_X0_34 (h : w_Cl l R D cs aS aV A cc nL RX0 nm K) (hd : decode cc pc = .ok (.getfield 34, 3)) (ht : t < n) (hC : rC t = 0) (hnl : nl t 3 = true) (kk : K ad n nl ce sl (pc + 3) lv (.ref (ad (51)) :: st) σ) : K ad n nl ce sl pc lv (.ref (ad t) :: st) σ := r_getR (T := TX0) (N := 14) (k := 3) (co := 0) (Cn := RX0) h hd inG0 rfl (by decide) fl_X0_34 (by decide) ht hC (rNo_0 t hC) (by decide) hnl (51) (by have z : t = 46 := rC_uni0 t hC; subst z; exact rf_0_3) kk
theorem p_X0_34 (h : w_Cl l R D cs aS aV A cc nL RX0 "<init>" K) (hd : decode cc pc = .ok (.putfield 34, 3)) (ht : t < n) (hC : rC t = 0) (kk : K ad n (nu nl t 3) ce sl (pc + 3) lv st σ) : K ad n nl ce sl pc lv (.ref (ad (51)) :: .ref (ad t) :: st) σ := r_putR (T := TX0) (N := 14) (k := 3) (co := 0) (Cn := RX0) h hd inG0 tyX0 tyX0_ok nmX0 rfl (by decide) fl_X0_34 (by decide) ht hC (rNo_0 t hC) (by decide) rfl rfl rfl (fun _ => ⟨rfl, rfl⟩) (by have z : t = 46 := rC_uni0 t hC; subst z; exact rf_0_3) kk
set_option maxRecDepth 100000 in
theorem fl_X0_41 : Cond.fieldLink RX0 41 (TX4 9).1 (TX4 9).2.1 (TX4 9).2.2.1 ∈ GT := gt_in1 92 rfl rfl
theorem g_X0_41 (h : w_Cl l R D cs aS aV A cc nL RX0 nm K) (hd : decode cc pc = .ok (.getfield 41, 3)) (ht : t < n) (hC : rC t = 4) (kk : K ad n nl ce sl (pc + 3) lv (.int (vI (gi σ t 9)) :: st) σ) : K ad n nl ce sl pc lv (.ref (ad t) :: st) σ := r_getI (T := TX4) (N := 20) (k := 9) (co := 4) (Cn := RX4) h hd inG4 rfl (by decide) fl_X0_41 (by decide) ht hC (rNo_4 t hC) (by decide) kk
set_option maxRecDepth 100000 in
theorem fl_X0_47 : Cond.fieldLink RX0 47 (TX4 11).1 (TX4 11).2.1 (TX4 11).2.2.1 ∈ GT := gt_in1 98 rfl rfl
theorem g_X0_47 (h : w_Cl l R D cs aS aV A cc nL RX0 nm K) (hd : decode cc pc = .ok (.getfield 47, 3)) (ht : t < n) (hC : rC t = 4) (hnl : nl t 11 = true) (kk : K ad n nl ce sl (pc + 3) lv (.ref (ad (t + 9)) :: st) σ) : K ad n nl ce sl pc lv (.ref (ad t) :: st) σ := r_getR (T := TX4) (N := 20) (k := 11) (co := 4) (Cn := RX4) h hd inG4 rfl (by decide) fl_X0_47 (by decide) ht hC (rNo_4 t hC) (by decide) hnl (t + 9) (rf_4_11 t hC).1 kk
set_option maxRecDepth 100000 in
theorem fl_X0_48 : Cond.fieldLink RX0 48 (TX4 17).1 (TX4 17).2.1 (TX4 17).2.2.1 ∈ GT := gt_in1 116 rfl rfl
theorem g_X0_48 (h : w_Cl l R D cs aS aV A cc nL RX0 nm K) (hd : decode cc pc = .ok (.getfield 48, 3)) (ht : t < n) (hC : rC t = 4) (kk : K ad n nl ce sl (pc + 3) lv (.int (vI (gi σ t 17)) :: st) σ) : K ad n nl ce sl pc lv (.ref (ad t) :: st) σ := r_getI (T := TX4) (N := 20) (k := 17) (co := 4) (Cn := RX4) h hd inG4 rfl (by decide) fl_X0_48 (by decide) ht hC (rNo_4 t hC) (by decide) kk
set_option maxRecDepth 100000 in
theorem fl_X0_51 : Cond.fieldLink RX0 51 (TX0 2).1 (TX0 2).2.1 (TX0 2).2.2.1 ∈ GT := gt_in2 75 rfl rfl
theorem g_X0_51 (h : w_Cl l R D cs aS aV A cc nL RX0 nm K) (hd : decode cc pc = .ok (.getfield 51, 3)) (ht : t < n) (hC : rC t = 0) (kk : K ad n nl ce sl (pc + 3) lv (.int (vI (gi σ t 2)) :: st) σ) : K ad n nl ce sl pc lv (.ref (ad t) :: st) σ := r_getI (T := TX0) (N := 14) (k := 2) (co := 0) (Cn := RX0) h hd inG0 rfl (by decide) fl_X0_51 (by decide) ht hC (rNo_0 t hC) (by decide) kk
theorem p_X0_51 {x : Int} (h : w_Cl l R D cs aS aV A cc nL RX0 nm K) (hd : decode cc pc = .ok (.putfield 51, 3)) (ht : t < n) (hC : rC t = 0) (hx : rI x) (kk : K ad n nl ce sl (pc + 3) lv st (si σ t 2 x)) : K ad n nl ce sl pc lv (.int (vI x) :: .ref (ad t) :: st) σ := r_putI (T := TX0) (N := 14) (k := 2) (co := 0) (Cn := RX0) h hd inG0 tyX0 tyX0_ok nmX0 rfl (by decide) fl_X0_51 (by decide) ht hC (rNo_0 t hC) (by decide) rfl rfl hx kk
set_option maxRecDepth 100000 in
theorem fl_X0_54 : Cond.fieldLink RX0 54 (TX0 4).1 (TX0 4).2.1 (TX0 4).2.2.1 ∈ GT := gt_in2 78 rfl rfl
theorem g_X0_54 (h : w_Cl l R D cs aS aV A cc nL RX0 nm K) (hd : decode cc pc = .ok (.getfield 54, 3)) (ht : t < n) (hC : rC t = 0) (kk : K ad n nl ce sl (pc + 3) lv (.int (vI (gi σ t 4)) :: st) σ) : K ad n nl ce sl pc lv (.ref (ad t) :: st) σ := r_getI (T := TX0) (N := 14) (k := 4) (co := 0) (Cn := RX0) h hd inG0 rfl (by decide) fl_X0_54 (by decide) ht hC (rNo_0 t hC) (by decide) kk
theorem p_X0_54 {x : Int} (h : w_Cl l R D cs aS aV A cc nL RX0 nm K) (hd : decode cc pc = .ok (.putfield 54, 3)) (ht : t < n) (hC : rC t = 0) (hx : x = 0 ∨ x = 1) (kk : K ad n nl ce sl (pc + 3) lv st (si σ t 4 x)) : K ad n nl ce sl pc lv (.int (vI x) :: .ref (ad t) :: st) σ := r_putZ (T := TX0) (N := 14) (k := 4) (co := 0) (Cn := RX0) h hd inG0 tyX0 tyX0_ok nmX0 rfl (by decide) fl_X0_54 (by decide) ht hC (rNo_0 t hC) (by decide) rfl rfl hx kk
set_option maxRecDepth 100000 in
theorem fl_X0_58 : Cond.fieldLink RX0 58 (TX0 5).1 (TX0 5).2.1 (TX0 5).2.2.1 ∈ GT := gt_in2 79 rfl rfl
theorem g_X0_58 (h : w_Cl l R D cs aS aV A cc nL RX0 nm K) (hd : decode cc pc = .ok (.getfield 58, 3)) (ht : t < n) (hC : rC t = 0) (kk : K ad n nl ce sl (pc + 3) lv (.int (vI (gi σ t 5)) :: st) σ) : K ad n nl ce sl pc lv (.ref (ad t) :: st) σ := r_getI (T := TX0) (N := 14) (k := 5) (co := 0) (Cn := RX0) h hd inG0 rfl (by decide) fl_X0_58 (by decide) ht hC (rNo_0 t hC) (by decide) kk
theorem p_X0_58 {x : Int} (h : w_Cl l R D cs aS aV A cc nL RX0 nm K) (hd : decode cc pc = .ok (.putfield 58, 3)) (ht : t < n) (hC : rC t = 0) (hx : rI x) (kk : K ad n nl ce sl (pc + 3) lv st (si σ t 5 x)) : K ad n nl ce sl pc lv (.int (vI x) :: .ref (ad t) :: st) σ := r_putI (T := TX0) (N := 14) (k := 5) (co := 0) (Cn := RX0) h hd inG0 tyX0 tyX0_ok nmX0 rfl (by decide) fl_X0_58 (by decide) ht hC (rNo_0 t hC) (by decide) rfl rfl hx kk
set_option maxRecDepth 100000 in
theorem fl_X0_61 : Cond.fieldLink RX0 61 (TX0 6).1 (TX0 6).2.1 (TX0 6).2.2.1 ∈ GT := gt_in2 80 rfl rfl
theorem g_X0_61 (h : w_Cl l R D cs aS aV A cc nL RX0 nm K) (hd : decode cc pc = .ok (.getfield 61, 3)) (ht : t < n) (hC : rC t = 0) (kk : K ad n nl ce sl (pc + 3) lv (.int (vI (gi σ t 6)) :: st) σ) : K ad n nl ce sl pc lv (.ref (ad t) :: st) σ := r_getI (T := TX0) (N := 14) (k := 6) (co := 0) (Cn := RX0) h hd inG0 rfl (by decide) fl_X0_61 (by decide) ht hC (rNo_0 t hC) (by decide) kk
theorem p_X0_61 {x : Int} (h : w_Cl l R D cs aS aV A cc nL RX0 nm K) (hd : decode cc pc = .ok (.putfield 61, 3)) (ht : t < n) (hC : rC t = 0) (hx : rI x) (kk : K ad n nl ce sl (pc + 3) lv st (si σ t 6 x)) : K ad n nl ce sl pc lv (.int (vI x) :: .ref (ad t) :: st) σ := r_putI (T := TX0) (N := 14) (k := 6) (co := 0) (Cn := RX0) h hd inG0 tyX0 tyX0_ok nmX0 rfl (by decide) fl_X0_61 (by decide) ht hC (rNo_0 t hC) (by decide) rfl rfl hx kk
set_option maxRecDepth 100000 in
theorem fl_X0_64 : Cond.fieldLink RX0 64 (TX0 7).1 (TX0 7).2.1 (TX0 7).2.2.1 ∈ GT := gt_in2 81 rfl rfl
theorem g_X0_64 (h : w_Cl l R D cs aS aV A cc nL RX0 nm K) (hd : decode cc pc = .ok (.getfield 64, 3)) (ht : t < n) (hC : rC t = 0) (kk : K ad n nl ce sl (pc + 3) lv (.int (vI (gi σ t 7)) :: st) σ) : K ad n nl ce sl pc lv (.ref (ad t) :: st) σ := r_getI (T := TX0) (N := 14) (k := 7) (co := 0) (Cn := RX0) h hd inG0 rfl (by decide) fl_X0_64 (by decide) ht hC (rNo_0 t hC) (by decide) kk
theorem p_X0_64 {x : Int} (h : w_Cl l R D cs aS aV A cc nL RX0 nm K) (hd : decode cc pc = .ok (.putfield 64, 3)) (ht : t < n) (hC : rC t = 0) (hx : rI x) (kk : K ad n nl ce sl (pc + 3) lv st (si σ t 7 x)) : K ad n nl ce sl pc lv (.int (vI x) :: .ref (ad t) :: st) σ := r_putI (T := TX0) (N := 14) (k := 7) (co := 0) (Cn := RX0) h hd inG0 tyX0 tyX0_ok nmX0 rfl (by decide) fl_X0_64 (by decide) ht hC (rNo_0 t hC) (by decide) rfl rfl hx kk
set_option maxRecDepth 100000 in
theorem fl_X0_85 : Cond.fieldLink RX0 85 (TX4 7).1 (TX4 7).2.1 (TX4 7).2.2.1 ∈ GT := gt_in1 82 rfl rfl
theorem g_X0_85 (h : w_Cl l R D cs aS aV A cc nL RX0 nm K) (hd : decode cc pc = .ok (.getfield 85, 3)) (ht : t < n) (hC : rC t = 4) (hnl : nl t 7 = true) (kk : K ad n nl ce sl (pc + 3) lv (.ref (ad (t + 6)) :: st) σ) : K ad n nl ce sl pc lv (.ref (ad t) :: st) σ := r_getR (T := TX4) (N := 20) (k := 7) (co := 4) (Cn := RX4) h hd inG4 rfl (by decide) fl_X0_85 (by decide) ht hC (rNo_4 t hC) (by decide) hnl (t + 6) (rf_4_7 t hC).1 kk
set_option maxRecDepth 100000 in
theorem fl_X0_104 : Cond.fieldLink RX0 104 (TX9 5).1 (TX9 5).2.1 (TX9 5).2.2.1 ∈ GT := gt_in2 32 rfl rfl
theorem g_X0_104 (h : w_Cl l R D cs aS aV A cc nL RX0 nm K) (hd : decode cc pc = .ok (.getfield 104, 3)) (ht : t < n) (hC : rC t = 9) (kk : K ad n nl ce sl (pc + 3) lv (.int (vI (gi σ t 5)) :: st) σ) : K ad n nl ce sl pc lv (.ref (ad t) :: st) σ := r_getI (T := TX9) (N := 7) (k := 5) (co := 9) (Cn := RX9) h hd inG9 rfl (by decide) fl_X0_104 (by decide) ht hC (rNo_9 t hC) (by decide) kk
set_option maxRecDepth 100000 in
theorem fl_X0_107 : Cond.fieldLink RX0 107 (TX9 4).1 (TX9 4).2.1 (TX9 4).2.2.1 ∈ GT := gt_in2 29 rfl rfl
theorem g_X0_107 (h : w_Cl l R D cs aS aV A cc nL RX0 nm K) (hd : decode cc pc = .ok (.getfield 107, 3)) (ht : t < n) (hC : rC t = 9) (kk : K ad n nl ce sl (pc + 3) lv (.int (vI (gi σ t 4)) :: st) σ) : K ad n nl ce sl pc lv (.ref (ad t) :: st) σ := r_getI (T := TX9) (N := 7) (k := 4) (co := 9) (Cn := RX9) h hd inG9 rfl (by decide) fl_X0_107 (by decide) ht hC (rNo_9 t hC) (by decide) kk
set_option maxRecDepth 100000 in
theorem fl_X0_110 : Cond.fieldLink RX0 110 (TX9 6).1 (TX9 6).2.1 (TX9 6).2.2.1 ∈ GT := gt_in2 35 rfl rfl
theorem g_X0_110 (h : w_Cl l R D cs aS aV A cc nL RX0 nm K) (hd : decode cc pc = .ok (.getfield 110, 3)) (ht : t < n) (hC : rC t = 9) (kk : K ad n nl ce sl (pc + 3) lv (.int (vI (gi σ t 6)) :: st) σ) : K ad n nl ce sl pc lv (.ref (ad t) :: st) σ := r_getI (T := TX9) (N := 7) (k := 6) (co := 9) (Cn := RX9) h hd inG9 rfl (by decide) fl_X0_110 (by decide) ht hC (rNo_9 t hC) (by decide) kk
set_option maxRecDepth 100000 in
theorem fl_X0_113 : Cond.fieldLink RX0 113 (TX0 10).1 (TX0 10).2.1 (TX0 10).2.2.1 ∈ GT := gt_in2 84 rfl rfl
theorem g_X0_113 (h : w_Cl l R D cs aS aV A cc nL RX0 nm K) (hd : decode cc pc = .ok (.getfield 113, 3)) (ht : t < n) (hC : rC t = 0) (kk : K ad n nl ce sl (pc + 3) lv (.int (vI (gi σ t 10)) :: st) σ) : K ad n nl ce sl pc lv (.ref (ad t) :: st) σ := r_getI (T := TX0) (N := 14) (k := 10) (co := 0) (Cn := RX0) h hd inG0 rfl (by decide) fl_X0_113 (by decide) ht hC (rNo_0 t hC) (by decide) kk
theorem p_X0_113 {x : Int} (h : w_Cl l R D cs aS aV A cc nL RX0 nm K) (hd : decode cc pc = .ok (.putfield 113, 3)) (ht : t < n) (hC : rC t = 0) (hx : rI x) (kk : K ad n nl ce sl (pc + 3) lv st (si σ t 10 x)) : K ad n nl ce sl pc lv (.int (vI x) :: .ref (ad t) :: st) σ := r_putI (T := TX0) (N := 14) (k := 10) (co := 0) (Cn := RX0) h hd inG0 tyX0 tyX0_ok nmX0 rfl (by decide) fl_X0_113 (by decide) ht hC (rNo_0 t hC) (by decide) rfl rfl hx kk
set_option maxRecDepth 100000 in
theorem fl_X0_116 : Cond.fieldLink RX0 116 (TX0 11).1 (TX0 11).2.1 (TX0 11).2.2.1 ∈ GT := gt_in2 86 rfl rfl
theorem g_X0_116 (h : w_Cl l R D cs aS aV A cc nL RX0 nm K) (hd : decode cc pc = .ok (.getfield 116, 3)) (ht : t < n) (hC : rC t = 0) (kk : K ad n nl ce sl (pc + 3) lv (.int (vI (gi σ t 11)) :: st) σ) : K ad n nl ce sl pc lv (.ref (ad t) :: st) σ := r_getI (T := TX0) (N := 14) (k := 11) (co := 0) (Cn := RX0) h hd inG0 rfl (by decide) fl_X0_116 (by decide) ht hC (rNo_0 t hC) (by decide) kk
theorem p_X0_116 {x : Int} (h : w_Cl l R D cs aS aV A cc nL RX0 nm K) (hd : decode cc pc = .ok (.putfield 116, 3)) (ht : t < n) (hC : rC t = 0) (hx : rI x) (kk : K ad n nl ce sl (pc + 3) lv st (si σ t 11 x)) : K ad n nl ce sl pc lv (.int (vI x) :: .ref (ad t) :: st) σ := r_putI (T := TX0) (N := 14) (k := 11) (co := 0) (Cn := RX0) h hd inG0 tyX0 tyX0_ok nmX0 rfl (by decide) fl_X0_116 (by decide) ht hC (rNo_0 t hC) (by decide) rfl rfl hx kk
set_option maxRecDepth 100000 in
theorem fl_X0_133 : Cond.fieldLink RX0 133 (TX0 9).1 (TX0 9).2.1 (TX0 9).2.2.1 ∈ GT := gt_in2 83 rfl rfl
theorem g_X0_133 (h : w_Cl l R D cs aS aV A cc nL RX0 nm K) (hd : decode cc pc = .ok (.getfield 133, 3)) (ht : t < n) (hC : rC t = 0) (kk : K ad n nl ce sl (pc + 3) lv (.int (vI (gi σ t 9)) :: st) σ) : K ad n nl ce sl pc lv (.ref (ad t) :: st) σ := r_getI (T := TX0) (N := 14) (k := 9) (co := 0) (Cn := RX0) h hd inG0 rfl (by decide) fl_X0_133 (by decide) ht hC (rNo_0 t hC) (by decide) kk
theorem p_X0_133 {x : Int} (h : w_Cl l R D cs aS aV A cc nL RX0 nm K) (hd : decode cc pc = .ok (.putfield 133, 3)) (ht : t < n) (hC : rC t = 0) (hx : rI x) (kk : K ad n nl ce sl (pc + 3) lv st (si σ t 9 x)) : K ad n nl ce sl pc lv (.int (vI x) :: .ref (ad t) :: st) σ := r_putI (T := TX0) (N := 14) (k := 9) (co := 0) (Cn := RX0) h hd inG0 tyX0 tyX0_ok nmX0 rfl (by decide) fl_X0_133 (by decide) ht hC (rNo_0 t hC) (by decide) rfl rfl hx kk
set_option maxRecDepth 100000 in
theorem fl_X1_12 : Cond.fieldLink RX1 12 (TX1 3).1 (TX1 3).2.1 (TX1 3).2.2.1 ∈ GT := gt_in2 184 rfl rfl
theorem g_X1_12 (h : w_Cl l R D cs aS aV A cc nL RX1 nm K) (hd : decode cc pc = .ok (.getfield 12, 3)) (ht : t < n) (hC : rC t = 1) (hnl : nl t 3 = true) (kk : K ad n nl ce sl (pc + 3) lv (.ref (ad (62)) :: st) σ) : K ad n nl ce sl pc lv (.ref (ad t) :: st) σ := r_getR (T := TX1) (N := 20) (k := 3) (co := 1) (Cn := RX1) h hd inG1 rfl (by decide) fl_X1_12 (by decide) ht hC (rNo_1 t hC) (by decide) hnl (62) (by have z : t = 61 := rC_uni1 t hC; subst z; exact rf_1_3) kk
theorem p_X1_12 (h : w_Cl l R D cs aS aV A cc nL RX1 "<init>" K) (hd : decode cc pc = .ok (.putfield 12, 3)) (ht : t < n) (hC : rC t = 1) (kk : K ad n (nu nl t 3) ce sl (pc + 3) lv st σ) : K ad n nl ce sl pc lv (.ref (ad (62)) :: .ref (ad t) :: st) σ := r_putR (T := TX1) (N := 20) (k := 3) (co := 1) (Cn := RX1) h hd inG1 tyX1 tyX1_ok nmX1 rfl (by decide) fl_X1_12 (by decide) ht hC (rNo_1 t hC) (by decide) rfl rfl rfl (fun _ => ⟨rfl, rfl⟩) (by have z : t = 61 := rC_uni1 t hC; subst z; exact rf_1_3) kk
set_option maxRecDepth 100000 in
theorem fl_X1_18 : Cond.fieldLink RX1 18 (TX1 4).1 (TX1 4).2.1 (TX1 4).2.2.1 ∈ GT := gt_in2 185 rfl rfl
theorem g_X1_18 (h : w_Cl l R D cs aS aV A cc nL RX1 nm K) (hd : decode cc pc = .ok (.getfield 18, 3)) (ht : t < n) (hC : rC t = 1) (hnl : nl t 4 = true) (kk : K ad n nl ce sl (pc + 3) lv (.ref (ad (65)) :: st) σ) : K ad n nl ce sl pc lv (.ref (ad t) :: st) σ := r_getR (T := TX1) (N := 20) (k := 4) (co := 1) (Cn := RX1) h hd inG1 rfl (by decide) fl_X1_18 (by decide) ht hC (rNo_1 t hC) (by decide) hnl (65) (by have z : t = 61 := rC_uni1 t hC; subst z; exact rf_1_4) kk
theorem p_X1_18 (h : w_Cl l R D cs aS aV A cc nL RX1 "<init>" K) (hd : decode cc pc = .ok (.putfield 18, 3)) (ht : t < n) (hC : rC t = 1) (kk : K ad n (nu nl t 4) ce sl (pc + 3) lv st σ) : K ad n nl ce sl pc lv (.ref (ad (65)) :: .ref (ad t) :: st) σ := r_putR (T := TX1) (N := 20) (k := 4) (co := 1) (Cn := RX1) h hd inG1 tyX1 tyX1_ok nmX1 rfl (by decide) fl_X1_18 (by decide) ht hC (rNo_1 t hC) (by decide) rfl rfl rfl (fun _ => ⟨rfl, rfl⟩) (by have z : t = 61 := rC_uni1 t hC; subst z; exact rf_1_4) kk
set_option maxRecDepth 100000 in
theorem fl_X1_22 : Cond.fieldLink RX1 22 (TX1 6).1 (TX1 6).2.1 (TX1 6).2.2.1 ∈ GT := gt_in2 188 rfl rfl
theorem g_X1_22 (h : w_Cl l R D cs aS aV A cc nL RX1 nm K) (hd : decode cc pc = .ok (.getfield 22, 3)) (ht : t < n) (hC : rC t = 1) (hnl : nl t 6 = true) (kk : K ad n nl ce sl (pc + 3) lv (.ref (ad (66)) :: st) σ) : K ad n nl ce sl pc lv (.ref (ad t) :: st) σ := r_getR (T := TX1) (N := 20) (k := 6) (co := 1) (Cn := RX1) h hd inG1 rfl (by decide) fl_X1_22 (by decide) ht hC (rNo_1 t hC) (by decide) hnl (66) (by have z : t = 61 := rC_uni1 t hC; subst z; exact rf_1_6) kk
theorem p_X1_22 (h : w_Cl l R D cs aS aV A cc nL RX1 "<init>" K) (hd : decode cc pc = .ok (.putfield 22, 3)) (ht : t < n) (hC : rC t = 1) (kk : K ad n (nu nl t 6) ce sl (pc + 3) lv st σ) : K ad n nl ce sl pc lv (.ref (ad (66)) :: .ref (ad t) :: st) σ := r_putR (T := TX1) (N := 20) (k := 6) (co := 1) (Cn := RX1) h hd inG1 tyX1 tyX1_ok nmX1 rfl (by decide) fl_X1_22 (by decide) ht hC (rNo_1 t hC) (by decide) rfl rfl rfl (fun _ => ⟨rfl, rfl⟩) (by have z : t = 61 := rC_uni1 t hC; subst z; exact rf_1_6) kk
set_option maxRecDepth 100000 in
theorem fl_X1_25 : Cond.fieldLink RX1 25 (TX1 7).1 (TX1 7).2.1 (TX1 7).2.2.1 ∈ GT := gt_in2 189 rfl rfl
theorem g_X1_25 (h : w_Cl l R D cs aS aV A cc nL RX1 nm K) (hd : decode cc pc = .ok (.getfield 25, 3)) (ht : t < n) (hC : rC t = 1) (hnl : nl t 7 = true) (kk : K ad n nl ce sl (pc + 3) lv (.ref (ad (67)) :: st) σ) : K ad n nl ce sl pc lv (.ref (ad t) :: st) σ := r_getR (T := TX1) (N := 20) (k := 7) (co := 1) (Cn := RX1) h hd inG1 rfl (by decide) fl_X1_25 (by decide) ht hC (rNo_1 t hC) (by decide) hnl (67) (by have z : t = 61 := rC_uni1 t hC; subst z; exact rf_1_7) kk
theorem p_X1_25 (h : w_Cl l R D cs aS aV A cc nL RX1 "<init>" K) (hd : decode cc pc = .ok (.putfield 25, 3)) (ht : t < n) (hC : rC t = 1) (kk : K ad n (nu nl t 7) ce sl (pc + 3) lv st σ) : K ad n nl ce sl pc lv (.ref (ad (67)) :: .ref (ad t) :: st) σ := r_putR (T := TX1) (N := 20) (k := 7) (co := 1) (Cn := RX1) h hd inG1 tyX1 tyX1_ok nmX1 rfl (by decide) fl_X1_25 (by decide) ht hC (rNo_1 t hC) (by decide) rfl rfl rfl (fun _ => ⟨rfl, rfl⟩) (by have z : t = 61 := rC_uni1 t hC; subst z; exact rf_1_7) kk
set_option maxRecDepth 100000 in
theorem fl_X1_28 : Cond.fieldLink RX1 28 (TX1 8).1 (TX1 8).2.1 (TX1 8).2.2.1 ∈ GT := gt_in2 190 rfl rfl
theorem g_X1_28 (h : w_Cl l R D cs aS aV A cc nL RX1 nm K) (hd : decode cc pc = .ok (.getfield 28, 3)) (ht : t < n) (hC : rC t = 1) (hnl : nl t 8 = true) (kk : K ad n nl ce sl (pc + 3) lv (.ref (ad (68)) :: st) σ) : K ad n nl ce sl pc lv (.ref (ad t) :: st) σ := r_getR (T := TX1) (N := 20) (k := 8) (co := 1) (Cn := RX1) h hd inG1 rfl (by decide) fl_X1_28 (by decide) ht hC (rNo_1 t hC) (by decide) hnl (68) (by have z : t = 61 := rC_uni1 t hC; subst z; exact rf_1_8) kk
theorem p_X1_28 (h : w_Cl l R D cs aS aV A cc nL RX1 "<init>" K) (hd : decode cc pc = .ok (.putfield 28, 3)) (ht : t < n) (hC : rC t = 1) (kk : K ad n (nu nl t 8) ce sl (pc + 3) lv st σ) : K ad n nl ce sl pc lv (.ref (ad (68)) :: .ref (ad t) :: st) σ := r_putR (T := TX1) (N := 20) (k := 8) (co := 1) (Cn := RX1) h hd inG1 tyX1 tyX1_ok nmX1 rfl (by decide) fl_X1_28 (by decide) ht hC (rNo_1 t hC) (by decide) rfl rfl rfl (fun _ => ⟨rfl, rfl⟩) (by have z : t = 61 := rC_uni1 t hC; subst z; exact rf_1_8) kk
set_option maxRecDepth 100000 in
theorem fl_X1_31 : Cond.fieldLink RX1 31 (TX1 10).1 (TX1 10).2.1 (TX1 10).2.2.1 ∈ GT := gt_in2 192 rfl rfl
theorem g_X1_31 (h : w_Cl l R D cs aS aV A cc nL RX1 nm K) (hd : decode cc pc = .ok (.getfield 31, 3)) (ht : t < n) (hC : rC t = 1) (hnl : nl t 10 = true) (kk : K ad n nl ce sl (pc + 3) lv (.ref (ad (69)) :: st) σ) : K ad n nl ce sl pc lv (.ref (ad t) :: st) σ := r_getR (T := TX1) (N := 20) (k := 10) (co := 1) (Cn := RX1) h hd inG1 rfl (by decide) fl_X1_31 (by decide) ht hC (rNo_1 t hC) (by decide) hnl (69) (by have z : t = 61 := rC_uni1 t hC; subst z; exact rf_1_10) kk
theorem p_X1_31 (h : w_Cl l R D cs aS aV A cc nL RX1 "<init>" K) (hd : decode cc pc = .ok (.putfield 31, 3)) (ht : t < n) (hC : rC t = 1) (kk : K ad n (nu nl t 10) ce sl (pc + 3) lv st σ) : K ad n nl ce sl pc lv (.ref (ad (69)) :: .ref (ad t) :: st) σ := r_putR (T := TX1) (N := 20) (k := 10) (co := 1) (Cn := RX1) h hd inG1 tyX1 tyX1_ok nmX1 rfl (by decide) fl_X1_31 (by decide) ht hC (rNo_1 t hC) (by decide) rfl rfl rfl (fun _ => ⟨rfl, rfl⟩) (by have z : t = 61 := rC_uni1 t hC; subst z; exact rf_1_10) kk
set_option maxRecDepth 100000 in
theorem fl_X1_34 : Cond.fieldLink RX1 34 (TX1 11).1 (TX1 11).2.1 (TX1 11).2.2.1 ∈ GT := gt_in2 193 rfl rfl
theorem g_X1_34 (h : w_Cl l R D cs aS aV A cc nL RX1 nm K) (hd : decode cc pc = .ok (.getfield 34, 3)) (ht : t < n) (hC : rC t = 1) (hnl : nl t 11 = true) (kk : K ad n nl ce sl (pc + 3) lv (.ref (ad (70)) :: st) σ) : K ad n nl ce sl pc lv (.ref (ad t) :: st) σ := r_getR (T := TX1) (N := 20) (k := 11) (co := 1) (Cn := RX1) h hd inG1 rfl (by decide) fl_X1_34 (by decide) ht hC (rNo_1 t hC) (by decide) hnl (70) (by have z : t = 61 := rC_uni1 t hC; subst z; exact rf_1_11) kk
theorem p_X1_34 (h : w_Cl l R D cs aS aV A cc nL RX1 "<init>" K) (hd : decode cc pc = .ok (.putfield 34, 3)) (ht : t < n) (hC : rC t = 1) (kk : K ad n (nu nl t 11) ce sl (pc + 3) lv st σ) : K ad n nl ce sl pc lv (.ref (ad (70)) :: .ref (ad t) :: st) σ := r_putR (T := TX1) (N := 20) (k := 11) (co := 1) (Cn := RX1) h hd inG1 tyX1 tyX1_ok nmX1 rfl (by decide) fl_X1_34 (by decide) ht hC (rNo_1 t hC) (by decide) rfl rfl rfl (fun _ => ⟨rfl, rfl⟩) (by have z : t = 61 := rC_uni1 t hC; subst z; exact rf_1_11) kk
set_option maxRecDepth 100000 in
theorem fl_X1_37 : Cond.fieldLink RX1 37 (TX1 12).1 (TX1 12).2.1 (TX1 12).2.2.1 ∈ GT := gt_in2 194 rfl rfl
theorem g_X1_37 (h : w_Cl l R D cs aS aV A cc nL RX1 nm K) (hd : decode cc pc = .ok (.getfield 37, 3)) (ht : t < n) (hC : rC t = 1) (hnl : nl t 12 = true) (kk : K ad n nl ce sl (pc + 3) lv (.ref (ad (71)) :: st) σ) : K ad n nl ce sl pc lv (.ref (ad t) :: st) σ := r_getR (T := TX1) (N := 20) (k := 12) (co := 1) (Cn := RX1) h hd inG1 rfl (by decide) fl_X1_37 (by decide) ht hC (rNo_1 t hC) (by decide) hnl (71) (by have z : t = 61 := rC_uni1 t hC; subst z; exact rf_1_12) kk
theorem p_X1_37 (h : w_Cl l R D cs aS aV A cc nL RX1 "<init>" K) (hd : decode cc pc = .ok (.putfield 37, 3)) (ht : t < n) (hC : rC t = 1) (kk : K ad n (nu nl t 12) ce sl (pc + 3) lv st σ) : K ad n nl ce sl pc lv (.ref (ad (71)) :: .ref (ad t) :: st) σ := r_putR (T := TX1) (N := 20) (k := 12) (co := 1) (Cn := RX1) h hd inG1 tyX1 tyX1_ok nmX1 rfl (by decide) fl_X1_37 (by decide) ht hC (rNo_1 t hC) (by decide) rfl rfl rfl (fun _ => ⟨rfl, rfl⟩) (by have z : t = 61 := rC_uni1 t hC; subst z; exact rf_1_12) kk
set_option maxRecDepth 100000 in
theorem fl_X1_40 : Cond.fieldLink RX1 40 (TX1 14).1 (TX1 14).2.1 (TX1 14).2.2.1 ∈ GT := gt_in2 196 rfl rfl
theorem g_X1_40 (h : w_Cl l R D cs aS aV A cc nL RX1 nm K) (hd : decode cc pc = .ok (.getfield 40, 3)) (ht : t < n) (hC : rC t = 1) (hnl : nl t 14 = true) (kk : K ad n nl ce sl (pc + 3) lv (.ref (ad (72)) :: st) σ) : K ad n nl ce sl pc lv (.ref (ad t) :: st) σ := r_getR (T := TX1) (N := 20) (k := 14) (co := 1) (Cn := RX1) h hd inG1 rfl (by decide) fl_X1_40 (by decide) ht hC (rNo_1 t hC) (by decide) hnl (72) (by have z : t = 61 := rC_uni1 t hC; subst z; exact rf_1_14) kk
theorem p_X1_40 (h : w_Cl l R D cs aS aV A cc nL RX1 "<init>" K) (hd : decode cc pc = .ok (.putfield 40, 3)) (ht : t < n) (hC : rC t = 1) (kk : K ad n (nu nl t 14) ce sl (pc + 3) lv st σ) : K ad n nl ce sl pc lv (.ref (ad (72)) :: .ref (ad t) :: st) σ := r_putR (T := TX1) (N := 20) (k := 14) (co := 1) (Cn := RX1) h hd inG1 tyX1 tyX1_ok nmX1 rfl (by decide) fl_X1_40 (by decide) ht hC (rNo_1 t hC) (by decide) rfl rfl rfl (fun _ => ⟨rfl, rfl⟩) (by have z : t = 61 := rC_uni1 t hC; subst z; exact rf_1_14) kk
set_option maxRecDepth 100000 in
theorem fl_X1_43 : Cond.fieldLink RX1 43 (TX1 15).1 (TX1 15).2.1 (TX1 15).2.2.1 ∈ GT := gt_in2 197 rfl rfl
theorem g_X1_43 (h : w_Cl l R D cs aS aV A cc nL RX1 nm K) (hd : decode cc pc = .ok (.getfield 43, 3)) (ht : t < n) (hC : rC t = 1) (hnl : nl t 15 = true) (kk : K ad n nl ce sl (pc + 3) lv (.ref (ad (73)) :: st) σ) : K ad n nl ce sl pc lv (.ref (ad t) :: st) σ := r_getR (T := TX1) (N := 20) (k := 15) (co := 1) (Cn := RX1) h hd inG1 rfl (by decide) fl_X1_43 (by decide) ht hC (rNo_1 t hC) (by decide) hnl (73) (by have z : t = 61 := rC_uni1 t hC; subst z; exact rf_1_15) kk
theorem p_X1_43 (h : w_Cl l R D cs aS aV A cc nL RX1 "<init>" K) (hd : decode cc pc = .ok (.putfield 43, 3)) (ht : t < n) (hC : rC t = 1) (kk : K ad n (nu nl t 15) ce sl (pc + 3) lv st σ) : K ad n nl ce sl pc lv (.ref (ad (73)) :: .ref (ad t) :: st) σ := r_putR (T := TX1) (N := 20) (k := 15) (co := 1) (Cn := RX1) h hd inG1 tyX1 tyX1_ok nmX1 rfl (by decide) fl_X1_43 (by decide) ht hC (rNo_1 t hC) (by decide) rfl rfl rfl (fun _ => ⟨rfl, rfl⟩) (by have z : t = 61 := rC_uni1 t hC; subst z; exact rf_1_15) kk
set_option maxRecDepth 100000 in
theorem fl_X1_46 : Cond.fieldLink RX1 46 (TX1 16).1 (TX1 16).2.1 (TX1 16).2.2.1 ∈ GT := gt_in2 198 rfl rfl
theorem g_X1_46 (h : w_Cl l R D cs aS aV A cc nL RX1 nm K) (hd : decode cc pc = .ok (.getfield 46, 3)) (ht : t < n) (hC : rC t = 1) (hnl : nl t 16 = true) (kk : K ad n nl ce sl (pc + 3) lv (.ref (ad (74)) :: st) σ) : K ad n nl ce sl pc lv (.ref (ad t) :: st) σ := r_getR (T := TX1) (N := 20) (k := 16) (co := 1) (Cn := RX1) h hd inG1 rfl (by decide) fl_X1_46 (by decide) ht hC (rNo_1 t hC) (by decide) hnl (74) (by have z : t = 61 := rC_uni1 t hC; subst z; exact rf_1_16) kk
theorem p_X1_46 (h : w_Cl l R D cs aS aV A cc nL RX1 "<init>" K) (hd : decode cc pc = .ok (.putfield 46, 3)) (ht : t < n) (hC : rC t = 1) (kk : K ad n (nu nl t 16) ce sl (pc + 3) lv st σ) : K ad n nl ce sl pc lv (.ref (ad (74)) :: .ref (ad t) :: st) σ := r_putR (T := TX1) (N := 20) (k := 16) (co := 1) (Cn := RX1) h hd inG1 tyX1 tyX1_ok nmX1 rfl (by decide) fl_X1_46 (by decide) ht hC (rNo_1 t hC) (by decide) rfl rfl rfl (fun _ => ⟨rfl, rfl⟩) (by have z : t = 61 := rC_uni1 t hC; subst z; exact rf_1_16) kk
set_option maxRecDepth 100000 in
theorem fl_X1_49 : Cond.fieldLink RX1 49 (TX1 0).1 (TX1 0).2.1 (TX1 0).2.2.1 ∈ GT := gt_in2 181 rfl rfl
theorem g_X1_49 (h : w_Cl l R D cs aS aV A cc nL RX1 nm K) (hd : decode cc pc = .ok (.getfield 49, 3)) (ht : t < n) (hC : rC t = 1) (hnl : nl t 0 = true) (kk : K ad n nl ce sl (pc + 3) lv (.ref (ad (2)) :: st) σ) : K ad n nl ce sl pc lv (.ref (ad t) :: st) σ := r_getR (T := TX1) (N := 20) (k := 0) (co := 1) (Cn := RX1) h hd inG1 rfl (by decide) fl_X1_49 (by decide) ht hC (rNo_1 t hC) (by decide) hnl (2) (by have z : t = 61 := rC_uni1 t hC; subst z; exact rf_1_0) kk
theorem p_X1_49 (h : w_Cl l R D cs aS aV A cc nL RX1 "<init>" K) (hd : decode cc pc = .ok (.putfield 49, 3)) (ht : t < n) (hC : rC t = 1) (kk : K ad n (nu nl t 0) ce sl (pc + 3) lv st σ) : K ad n nl ce sl pc lv (.ref (ad (2)) :: .ref (ad t) :: st) σ := r_putR (T := TX1) (N := 20) (k := 0) (co := 1) (Cn := RX1) h hd inG1 tyX1 tyX1_ok nmX1 rfl (by decide) fl_X1_49 (by decide) ht hC (rNo_1 t hC) (by decide) rfl rfl rfl (fun _ => ⟨rfl, rfl⟩) (by have z : t = 61 := rC_uni1 t hC; subst z; exact rf_1_0) kk
set_option maxRecDepth 100000 in
theorem fl_X1_53 : Cond.fieldLink RX1 53 (TX1 1).1 (TX1 1).2.1 (TX1 1).2.2.1 ∈ GT := gt_in2 182 rfl rfl
theorem g_X1_53 (h : w_Cl l R D cs aS aV A cc nL RX1 nm K) (hd : decode cc pc = .ok (.getfield 53, 3)) (ht : t < n) (hC : rC t = 1) (hnl : nl t 1 = true) (kk : K ad n nl ce sl (pc + 3) lv (.ref (ad (47)) :: st) σ) : K ad n nl ce sl pc lv (.ref (ad t) :: st) σ := r_getR (T := TX1) (N := 20) (k := 1) (co := 1) (Cn := RX1) h hd inG1 rfl (by decide) fl_X1_53 (by decide) ht hC (rNo_1 t hC) (by decide) hnl (47) (by have z : t = 61 := rC_uni1 t hC; subst z; exact rf_1_1) kk
theorem p_X1_53 (h : w_Cl l R D cs aS aV A cc nL RX1 "<init>" K) (hd : decode cc pc = .ok (.putfield 53, 3)) (ht : t < n) (hC : rC t = 1) (kk : K ad n (nu nl t 1) ce sl (pc + 3) lv st σ) : K ad n nl ce sl pc lv (.ref (ad (47)) :: .ref (ad t) :: st) σ := r_putR (T := TX1) (N := 20) (k := 1) (co := 1) (Cn := RX1) h hd inG1 tyX1 tyX1_ok nmX1 rfl (by decide) fl_X1_53 (by decide) ht hC (rNo_1 t hC) (by decide) rfl rfl rfl (fun _ => ⟨rfl, rfl⟩) (by have z : t = 61 := rC_uni1 t hC; subst z; exact rf_1_1) kk
set_option maxRecDepth 100000 in
theorem fl_X1_61 : Cond.fieldLink RX1 61 (TX1 2).1 (TX1 2).2.1 (TX1 2).2.2.1 ∈ GT := gt_in2 183 rfl rfl
theorem g_X1_61 (h : w_Cl l R D cs aS aV A cc nL RX1 nm K) (hd : decode cc pc = .ok (.getfield 61, 3)) (ht : t < n) (hC : rC t = 1) (hnl : nl t 2 = true) (kk : K ad n nl ce sl (pc + 3) lv (.ref (ad (75)) :: st) σ) : K ad n nl ce sl pc lv (.ref (ad t) :: st) σ := r_getR (T := TX1) (N := 20) (k := 2) (co := 1) (Cn := RX1) h hd inG1 rfl (by decide) fl_X1_61 (by decide) ht hC (rNo_1 t hC) (by decide) hnl (75) (by have z : t = 61 := rC_uni1 t hC; subst z; exact rf_1_2) kk
theorem p_X1_61 (h : w_Cl l R D cs aS aV A cc nL RX1 "<init>" K) (hd : decode cc pc = .ok (.putfield 61, 3)) (ht : t < n) (hC : rC t = 1) (kk : K ad n (nu nl t 2) ce sl (pc + 3) lv st σ) : K ad n nl ce sl pc lv (.ref (ad (75)) :: .ref (ad t) :: st) σ := r_putR (T := TX1) (N := 20) (k := 2) (co := 1) (Cn := RX1) h hd inG1 tyX1 tyX1_ok nmX1 rfl (by decide) fl_X1_61 (by decide) ht hC (rNo_1 t hC) (by decide) rfl rfl rfl (fun _ => ⟨rfl, rfl⟩) (by have z : t = 61 := rC_uni1 t hC; subst z; exact rf_1_2) kk
set_option maxRecDepth 100000 in
theorem fl_X1_65 : Cond.fieldLink RX1 65 (TX1 5).1 (TX1 5).2.1 (TX1 5).2.2.1 ∈ GT := gt_in2 186 rfl rfl
theorem g_X1_65 (h : w_Cl l R D cs aS aV A cc nL RX1 nm K) (hd : decode cc pc = .ok (.getfield 65, 3)) (ht : t < n) (hC : rC t = 1) (kk : K ad n nl ce sl (pc + 3) lv (.int (vI (gi σ t 5)) :: st) σ) : K ad n nl ce sl pc lv (.ref (ad t) :: st) σ := r_getI (T := TX1) (N := 20) (k := 5) (co := 1) (Cn := RX1) h hd inG1 rfl (by decide) fl_X1_65 (by decide) ht hC (rNo_1 t hC) (by decide) kk
theorem p_X1_65 {x : Int} (h : w_Cl l R D cs aS aV A cc nL RX1 nm K) (hd : decode cc pc = .ok (.putfield 65, 3)) (ht : t < n) (hC : rC t = 1) (hx : rI x) (kk : K ad n nl ce sl (pc + 3) lv st (si σ t 5 x)) : K ad n nl ce sl pc lv (.int (vI x) :: .ref (ad t) :: st) σ := r_putI (T := TX1) (N := 20) (k := 5) (co := 1) (Cn := RX1) h hd inG1 tyX1 tyX1_ok nmX1 rfl (by decide) fl_X1_65 (by decide) ht hC (rNo_1 t hC) (by decide) rfl rfl hx kk
set_option maxRecDepth 100000 in
theorem fl_X1_76 : Cond.fieldLink RX1 76 (TX7 2).1 (TX7 2).2.1 (TX7 2).2.2.1 ∈ GT := gt_in2 132 rfl rfl
theorem g_X1_76 (h : w_Cl l R D cs aS aV A cc nL RX1 nm K) (hd : decode cc pc = .ok (.getfield 76, 3)) (ht : t < n) (hC : rC t = 7) (kk : K ad n nl ce sl (pc + 3) lv (.int (vI (gi σ t 2)) :: st) σ) : K ad n nl ce sl pc lv (.ref (ad t) :: st) σ := r_getI (T := TX7) (N := 4) (k := 2) (co := 7) (Cn := RX7) h hd inG7 rfl (by decide) fl_X1_76 (by decide) ht hC (rNo_7 t hC) (by decide) kk
set_option maxRecDepth 100000 in
theorem fl_X1_79 : Cond.fieldLink RX1 79 (TX7 0).1 (TX7 0).2.1 (TX7 0).2.2.1 ∈ GT := gt_in2 127 rfl rfl
theorem g_X1_79 (h : w_Cl l R D cs aS aV A cc nL RX1 nm K) (hd : decode cc pc = .ok (.getfield 79, 3)) (ht : t < n) (hC : rC t = 7) (hnl : nl t 0 = true) (kk : K ad n nl ce sl (pc + 3) lv (.ref (ad (t + 1)) :: st) σ) : K ad n nl ce sl pc lv (.ref (ad t) :: st) σ := r_getR (T := TX7) (N := 4) (k := 0) (co := 7) (Cn := RX7) h hd inG7 rfl (by decide) fl_X1_79 (by decide) ht hC (rNo_7 t hC) (by decide) hnl (t + 1) (rf_7_0 t hC).1 kk
set_option maxRecDepth 100000 in
theorem fl_X1_99 : Cond.fieldLink RX1 99 (TX7 3).1 (TX7 3).2.1 (TX7 3).2.2.1 ∈ GT := gt_in2 135 rfl rfl
theorem g_X1_99 (h : w_Cl l R D cs aS aV A cc nL RX1 nm K) (hd : decode cc pc = .ok (.getfield 99, 3)) (ht : t < n) (hC : rC t = 7) (kk : K ad n nl ce sl (pc + 3) lv (.int (vI (gi σ t 3)) :: st) σ) : K ad n nl ce sl pc lv (.ref (ad t) :: st) σ := r_getI (T := TX7) (N := 4) (k := 3) (co := 7) (Cn := RX7) h hd inG7 rfl (by decide) fl_X1_99 (by decide) ht hC (rNo_7 t hC) (by decide) kk
set_option maxRecDepth 100000 in
theorem fl_X1_110 : Cond.fieldLink RX1 110 (TX4 4).1 (TX4 4).2.1 (TX4 4).2.2.1 ∈ GT := gt_in1 71 rfl rfl
theorem g_X1_110 (h : w_Cl l R D cs aS aV A cc nL RX1 nm K) (hd : decode cc pc = .ok (.getfield 110, 3)) (ht : t < n) (hC : rC t = 4) (kk : K ad n nl ce sl (pc + 3) lv (.int (vI (gi σ t 4)) :: st) σ) : K ad n nl ce sl pc lv (.ref (ad t) :: st) σ := r_getI (T := TX4) (N := 20) (k := 4) (co := 4) (Cn := RX4) h hd inG4 rfl (by decide) fl_X1_110 (by decide) ht hC (rNo_4 t hC) (by decide) kk
set_option maxRecDepth 100000 in
theorem fl_X1_112 : Cond.fieldLink RX1 112 (TX4 5).1 (TX4 5).2.1 (TX4 5).2.2.1 ∈ GT := gt_in1 75 rfl rfl
theorem g_X1_112 (h : w_Cl l R D cs aS aV A cc nL RX1 nm K) (hd : decode cc pc = .ok (.getfield 112, 3)) (ht : t < n) (hC : rC t = 4) (hnl : nl t 5 = true) (kk : K ad n nl ce sl (pc + 3) lv (.ref (ad (t + 4)) :: st) σ) : K ad n nl ce sl pc lv (.ref (ad t) :: st) σ := r_getR (T := TX4) (N := 20) (k := 5) (co := 4) (Cn := RX4) h hd inG4 rfl (by decide) fl_X1_112 (by decide) ht hC (rNo_4 t hC) (by decide) hnl (t + 4) (rf_4_5 t hC).1 kk
set_option maxRecDepth 100000 in
theorem fl_X1_115 : Cond.fieldLink RX1 115 (TX4 6).1 (TX4 6).2.1 (TX4 6).2.2.1 ∈ GT := gt_in1 79 rfl rfl
theorem g_X1_115 (h : w_Cl l R D cs aS aV A cc nL RX1 nm K) (hd : decode cc pc = .ok (.getfield 115, 3)) (ht : t < n) (hC : rC t = 4) (hnl : nl t 6 = true) (kk : K ad n nl ce sl (pc + 3) lv (.ref (ad (t + 5)) :: st) σ) : K ad n nl ce sl pc lv (.ref (ad t) :: st) σ := r_getR (T := TX4) (N := 20) (k := 6) (co := 4) (Cn := RX4) h hd inG4 rfl (by decide) fl_X1_115 (by decide) ht hC (rNo_4 t hC) (by decide) hnl (t + 5) (rf_4_6 t hC).1 kk
set_option maxRecDepth 100000 in
theorem fl_X1_118 : Cond.fieldLink RX1 118 (TX4 7).1 (TX4 7).2.1 (TX4 7).2.2.1 ∈ GT := gt_in1 86 rfl rfl
theorem g_X1_118 (h : w_Cl l R D cs aS aV A cc nL RX1 nm K) (hd : decode cc pc = .ok (.getfield 118, 3)) (ht : t < n) (hC : rC t = 4) (hnl : nl t 7 = true) (kk : K ad n nl ce sl (pc + 3) lv (.ref (ad (t + 6)) :: st) σ) : K ad n nl ce sl pc lv (.ref (ad t) :: st) σ := r_getR (T := TX4) (N := 20) (k := 7) (co := 4) (Cn := RX4) h hd inG4 rfl (by decide) fl_X1_118 (by decide) ht hC (rNo_4 t hC) (by decide) hnl (t + 6) (rf_4_7 t hC).1 kk
set_option maxRecDepth 100000 in
theorem fl_X1_149 : Cond.fieldLink RX1 149 (TX8 1).1 (TX8 1).2.1 (TX8 1).2.2.1 ∈ GT := gt_in2 157 rfl rfl
theorem g_X1_149 (h : w_Cl l R D cs aS aV A cc nL RX1 nm K) (hd : decode cc pc = .ok (.getfield 149, 3)) (ht : t < n) (hC : rC t = 8) (hnl : nl t 1 = true) (kk : K ad n nl ce sl (pc + 3) lv (.ref (ad (t + 1)) :: st) σ) : K ad n nl ce sl pc lv (.ref (ad t) :: st) σ := r_getR (T := TX8) (N := 4) (k := 1) (co := 8) (Cn := RX8) h hd inG8 rfl (by decide) fl_X1_149 (by decide) ht hC (rNo_8 t hC) (by decide) hnl (t + 1) (rf_8_1 t hC).1 kk
set_option maxRecDepth 100000 in
theorem fl_X1_163 : Cond.fieldLink RX1 163 (TX1 9).1 (TX1 9).2.1 (TX1 9).2.2.1 ∈ GT := gt_in2 191 rfl rfl
theorem g_X1_163 (h : w_Cl l R D cs aS aV A cc nL RX1 nm K) (hd : decode cc pc = .ok (.getfield 163, 3)) (ht : t < n) (hC : rC t = 1) (kk : K ad n nl ce sl (pc + 3) lv (.int (vI (gi σ t 9)) :: st) σ) : K ad n nl ce sl pc lv (.ref (ad t) :: st) σ := r_getI (T := TX1) (N := 20) (k := 9) (co := 1) (Cn := RX1) h hd inG1 rfl (by decide) fl_X1_163 (by decide) ht hC (rNo_1 t hC) (by decide) kk
theorem p_X1_163 {x : Int} (h : w_Cl l R D cs aS aV A cc nL RX1 nm K) (hd : decode cc pc = .ok (.putfield 163, 3)) (ht : t < n) (hC : rC t = 1) (hx : rI x) (kk : K ad n nl ce sl (pc + 3) lv st (si σ t 9 x)) : K ad n nl ce sl pc lv (.int (vI x) :: .ref (ad t) :: st) σ := r_putI (T := TX1) (N := 20) (k := 9) (co := 1) (Cn := RX1) h hd inG1 tyX1 tyX1_ok nmX1 rfl (by decide) fl_X1_163 (by decide) ht hC (rNo_1 t hC) (by decide) rfl rfl hx kk
set_option maxRecDepth 100000 in
theorem fl_X1_193 : Cond.fieldLink RX1 193 (TX1 17).1 (TX1 17).2.1 (TX1 17).2.2.1 ∈ GT := gt_in2 199 rfl rfl
theorem g_X1_193 (h : w_Cl l R D cs aS aV A cc nL RX1 nm K) (hd : decode cc pc = .ok (.getfield 193, 3)) (ht : t < n) (hC : rC t = 1) (kk : K ad n nl ce sl (pc + 3) lv (.int (vI (gi σ t 17)) :: st) σ) : K ad n nl ce sl pc lv (.ref (ad t) :: st) σ := r_getI (T := TX1) (N := 20) (k := 17) (co := 1) (Cn := RX1) h hd inG1 rfl (by decide) fl_X1_193 (by decide) ht hC (rNo_1 t hC) (by decide) kk
theorem p_X1_193 {x : Int} (h : w_Cl l R D cs aS aV A cc nL RX1 nm K) (hd : decode cc pc = .ok (.putfield 193, 3)) (ht : t < n) (hC : rC t = 1) (hx : rI x) (kk : K ad n nl ce sl (pc + 3) lv st (si σ t 17 x)) : K ad n nl ce sl pc lv (.int (vI x) :: .ref (ad t) :: st) σ := r_putI (T := TX1) (N := 20) (k := 17) (co := 1) (Cn := RX1) h hd inG1 tyX1 tyX1_ok nmX1 rfl (by decide) fl_X1_193 (by decide) ht hC (rNo_1 t hC) (by decide) rfl rfl hx kk
set_option maxRecDepth 100000 in
theorem fl_X1_196 : Cond.fieldLink RX1 196 (TX1 18).1 (TX1 18).2.1 (TX1 18).2.2.1 ∈ GT := gt_in2 200 rfl rfl
theorem g_X1_196 (h : w_Cl l R D cs aS aV A cc nL RX1 nm K) (hd : decode cc pc = .ok (.getfield 196, 3)) (ht : t < n) (hC : rC t = 1) (kk : K ad n nl ce sl (pc + 3) lv (.int (vI (gi σ t 18)) :: st) σ) : K ad n nl ce sl pc lv (.ref (ad t) :: st) σ := r_getI (T := TX1) (N := 20) (k := 18) (co := 1) (Cn := RX1) h hd inG1 rfl (by decide) fl_X1_196 (by decide) ht hC (rNo_1 t hC) (by decide) kk
theorem p_X1_196 {x : Int} (h : w_Cl l R D cs aS aV A cc nL RX1 nm K) (hd : decode cc pc = .ok (.putfield 196, 3)) (ht : t < n) (hC : rC t = 1) (hx : rI x) (kk : K ad n nl ce sl (pc + 3) lv st (si σ t 18 x)) : K ad n nl ce sl pc lv (.int (vI x) :: .ref (ad t) :: st) σ := r_putI (T := TX1) (N := 20) (k := 18) (co := 1) (Cn := RX1) h hd inG1 tyX1 tyX1_ok nmX1 rfl (by decide) fl_X1_196 (by decide) ht hC (rNo_1 t hC) (by decide) rfl rfl hx kk
set_option maxRecDepth 100000 in
theorem fl_X1_199 : Cond.fieldLink RX1 199 (TX1 19).1 (TX1 19).2.1 (TX1 19).2.2.1 ∈ GT := gt_in2 201 rfl rfl
theorem g_X1_199 (h : w_Cl l R D cs aS aV A cc nL RX1 nm K) (hd : decode cc pc = .ok (.getfield 199, 3)) (ht : t < n) (hC : rC t = 1) (kk : K ad n nl ce sl (pc + 3) lv (.int (vI (gi σ t 19)) :: st) σ) : K ad n nl ce sl pc lv (.ref (ad t) :: st) σ := r_getI (T := TX1) (N := 20) (k := 19) (co := 1) (Cn := RX1) h hd inG1 rfl (by decide) fl_X1_199 (by decide) ht hC (rNo_1 t hC) (by decide) kk
theorem p_X1_199 {x : Int} (h : w_Cl l R D cs aS aV A cc nL RX1 nm K) (hd : decode cc pc = .ok (.putfield 199, 3)) (ht : t < n) (hC : rC t = 1) (hx : rI x) (kk : K ad n nl ce sl (pc + 3) lv st (si σ t 19 x)) : K ad n nl ce sl pc lv (.int (vI x) :: .ref (ad t) :: st) σ := r_putI (T := TX1) (N := 20) (k := 19) (co := 1) (Cn := RX1) h hd inG1 tyX1 tyX1_ok nmX1 rfl (by decide) fl_X1_199 (by decide) ht hC (rNo_1 t hC) (by decide) rfl rfl hx kk
set_option maxRecDepth 100000 in
theorem fl_X1_225 : Cond.fieldLink RX1 225 (TX1 13).1 (TX1 13).2.1 (TX1 13).2.2.1 ∈ GT := gt_in2 195 rfl rfl
theorem g_X1_225 (h : w_Cl l R D cs aS aV A cc nL RX1 nm K) (hd : decode cc pc = .ok (.getfield 225, 3)) (ht : t < n) (hC : rC t = 1) (kk : K ad n nl ce sl (pc + 3) lv (.int (vI (gi σ t 13)) :: st) σ) : K ad n nl ce sl pc lv (.ref (ad t) :: st) σ := r_getI (T := TX1) (N := 20) (k := 13) (co := 1) (Cn := RX1) h hd inG1 rfl (by decide) fl_X1_225 (by decide) ht hC (rNo_1 t hC) (by decide) kk
theorem p_X1_225 {x : Int} (h : w_Cl l R D cs aS aV A cc nL RX1 nm K) (hd : decode cc pc = .ok (.putfield 225, 3)) (ht : t < n) (hC : rC t = 1) (hx : rI x) (kk : K ad n nl ce sl (pc + 3) lv st (si σ t 13 x)) : K ad n nl ce sl pc lv (.int (vI x) :: .ref (ad t) :: st) σ := r_putI (T := TX1) (N := 20) (k := 13) (co := 1) (Cn := RX1) h hd inG1 tyX1 tyX1_ok nmX1 rfl (by decide) fl_X1_225 (by decide) ht hC (rNo_1 t hC) (by decide) rfl rfl hx kk
set_option maxRecDepth 100000 in
theorem fl_X1_235 : Cond.fieldLink RX1 235 (TX4 18).1 (TX4 18).2.1 (TX4 18).2.2.1 ∈ GT := gt_in1 121 rfl rfl
theorem g_X1_235 (h : w_Cl l R D cs aS aV A cc nL RX1 nm K) (hd : decode cc pc = .ok (.getfield 235, 3)) (ht : t < n) (hC : rC t = 4) (hnl : nl t 18 = true) (kk : K ad n nl ce sl (pc + 3) lv (.ref (ad (t + 14)) :: st) σ) : K ad n nl ce sl pc lv (.ref (ad t) :: st) σ := r_getR (T := TX4) (N := 20) (k := 18) (co := 4) (Cn := RX4) h hd inG4 rfl (by decide) fl_X1_235 (by decide) ht hC (rNo_4 t hC) (by decide) hnl (t + 14) (rf_4_18 t hC).1 kk
set_option maxRecDepth 100000 in
theorem fl_X1_244 : Cond.fieldLink RX1 244 (TX4 19).1 (TX4 19).2.1 (TX4 19).2.2.1 ∈ GT := gt_in1 126 rfl rfl
theorem g_X1_244 (h : w_Cl l R D cs aS aV A cc nL RX1 nm K) (hd : decode cc pc = .ok (.getfield 244, 3)) (ht : t < n) (hC : rC t = 4) (hnl : nl t 19 = true) (kk : K ad n nl ce sl (pc + 3) lv (.ref (ad (t + 17)) :: st) σ) : K ad n nl ce sl pc lv (.ref (ad t) :: st) σ := r_getR (T := TX4) (N := 20) (k := 19) (co := 4) (Cn := RX4) h hd inG4 rfl (by decide) fl_X1_244 (by decide) ht hC (rNo_4 t hC) (by decide) hnl (t + 17) (rf_4_19 t hC).1 kk
set_option maxRecDepth 100000 in
theorem fl_X10_9 : Cond.fieldLink RX10 9 (TX10 0).1 (TX10 0).2.1 (TX10 0).2.2.1 ∈ GT := gt_in1 177 rfl rfl
theorem g_X10_9 (h : w_Cl l R D cs aS aV A cc nL RX10 nm K) (hd : decode cc pc = .ok (.getfield 9, 3)) (ht : t < n) (hC : rC t = 10) (hnl : nl t 0 = true) (kk : K ad n nl ce sl (pc + 3) lv (.ref (ad (1)) :: st) σ) : K ad n nl ce sl pc lv (.ref (ad t) :: st) σ := r_getR (T := TX10) (N := 7) (k := 0) (co := 10) (Cn := RX10) h hd inG10 rfl (by decide) fl_X10_9 (by decide) ht hC (rNo_10 t hC) (by decide) hnl (1) (by have z : t = 43 := rC_uni10 t hC; subst z; exact rf_10_0) kk
theorem p_X10_9 (h : w_Cl l R D cs aS aV A cc nL RX10 "<init>" K) (hd : decode cc pc = .ok (.putfield 9, 3)) (ht : t < n) (hC : rC t = 10) (kk : K ad n (nu nl t 0) ce sl (pc + 3) lv st σ) : K ad n nl ce sl pc lv (.ref (ad (1)) :: .ref (ad t) :: st) σ := r_putR (T := TX10) (N := 7) (k := 0) (co := 10) (Cn := RX10) h hd inG10 tyX10 tyX10_ok nmX10 rfl (by decide) fl_X10_9 (by decide) ht hC (rNo_10 t hC) (by decide) rfl rfl rfl (fun _ => ⟨rfl, rfl⟩) (by have z : t = 43 := rC_uni10 t hC; subst z; exact rf_10_0) kk
set_option maxRecDepth 100000 in
theorem fl_X10_19 : Cond.fieldLink RX10 19 (TX10 1).1 (TX10 1).2.1 (TX10 1).2.2.1 ∈ GT := gt_in1 178 rfl rfl
theorem g_X10_19 (h : w_Cl l R D cs aS aV A cc nL RX10 nm K) (hd : decode cc pc = .ok (.getfield 19, 3)) (ht : t < n) (hC : rC t = 10) (kk : K ad n nl ce sl (pc + 3) lv (.int (vI (gi σ t 1)) :: st) σ) : K ad n nl ce sl pc lv (.ref (ad t) :: st) σ := r_getI (T := TX10) (N := 7) (k := 1) (co := 10) (Cn := RX10) h hd inG10 rfl (by decide) fl_X10_19 (by decide) ht hC (rNo_10 t hC) (by decide) kk
theorem p_X10_19 {x : Int} (h : w_Cl l R D cs aS aV A cc nL RX10 nm K) (hd : decode cc pc = .ok (.putfield 19, 3)) (ht : t < n) (hC : rC t = 10) (hx : rI x) (kk : K ad n nl ce sl (pc + 3) lv st (si σ t 1 x)) : K ad n nl ce sl pc lv (.int (vI x) :: .ref (ad t) :: st) σ := r_putI (T := TX10) (N := 7) (k := 1) (co := 10) (Cn := RX10) h hd inG10 tyX10 tyX10_ok nmX10 rfl (by decide) fl_X10_19 (by decide) ht hC (rNo_10 t hC) (by decide) rfl rfl hx kk
set_option maxRecDepth 100000 in
theorem fl_X10_23 : Cond.fieldLink RX10 23 (TX10 2).1 (TX10 2).2.1 (TX10 2).2.2.1 ∈ GT := gt_in1 179 rfl rfl
theorem g_X10_23 (h : w_Cl l R D cs aS aV A cc nL RX10 nm K) (hd : decode cc pc = .ok (.getfield 23, 3)) (ht : t < n) (hC : rC t = 10) (kk : K ad n nl ce sl (pc + 3) lv (.int (vI (gi σ t 2)) :: st) σ) : K ad n nl ce sl pc lv (.ref (ad t) :: st) σ := r_getI (T := TX10) (N := 7) (k := 2) (co := 10) (Cn := RX10) h hd inG10 rfl (by decide) fl_X10_23 (by decide) ht hC (rNo_10 t hC) (by decide) kk
theorem p_X10_23 {x : Int} (h : w_Cl l R D cs aS aV A cc nL RX10 nm K) (hd : decode cc pc = .ok (.putfield 23, 3)) (ht : t < n) (hC : rC t = 10) (hx : rI x) (kk : K ad n nl ce sl (pc + 3) lv st (si σ t 2 x)) : K ad n nl ce sl pc lv (.int (vI x) :: .ref (ad t) :: st) σ := r_putI (T := TX10) (N := 7) (k := 2) (co := 10) (Cn := RX10) h hd inG10 tyX10 tyX10_ok nmX10 rfl (by decide) fl_X10_23 (by decide) ht hC (rNo_10 t hC) (by decide) rfl rfl hx kk
set_option maxRecDepth 100000 in
theorem fl_X10_37 : Cond.fieldLink RX10 37 (TX10 4).1 (TX10 4).2.1 (TX10 4).2.2.1 ∈ GT := gt_in1 183 rfl rfl
theorem g_X10_37 (h : w_Cl l R D cs aS aV A cc nL RX10 nm K) (hd : decode cc pc = .ok (.getfield 37, 3)) (ht : t < n) (hC : rC t = 10) (kk : K ad n nl ce sl (pc + 3) lv (.int (vI (gi σ t 4)) :: st) σ) : K ad n nl ce sl pc lv (.ref (ad t) :: st) σ := r_getI (T := TX10) (N := 7) (k := 4) (co := 10) (Cn := RX10) h hd inG10 rfl (by decide) fl_X10_37 (by decide) ht hC (rNo_10 t hC) (by decide) kk
theorem p_X10_37 {x : Int} (h : w_Cl l R D cs aS aV A cc nL RX10 nm K) (hd : decode cc pc = .ok (.putfield 37, 3)) (ht : t < n) (hC : rC t = 10) (hx : rI x) (kk : K ad n nl ce sl (pc + 3) lv st (si σ t 4 x)) : K ad n nl ce sl pc lv (.int (vI x) :: .ref (ad t) :: st) σ := r_putI (T := TX10) (N := 7) (k := 4) (co := 10) (Cn := RX10) h hd inG10 tyX10 tyX10_ok nmX10 rfl (by decide) fl_X10_37 (by decide) ht hC (rNo_10 t hC) (by decide) rfl rfl hx kk
set_option maxRecDepth 100000 in
theorem fl_X10_40 : Cond.fieldLink RX10 40 (TX10 3).1 (TX10 3).2.1 (TX10 3).2.2.1 ∈ GT := gt_in1 182 rfl rfl
theorem g_X10_40 (h : w_Cl l R D cs aS aV A cc nL RX10 nm K) (hd : decode cc pc = .ok (.getfield 40, 3)) (ht : t < n) (hC : rC t = 10) (kk : K ad n nl ce sl (pc + 3) lv (.int (vI (gi σ t 3)) :: st) σ) : K ad n nl ce sl pc lv (.ref (ad t) :: st) σ := r_getI (T := TX10) (N := 7) (k := 3) (co := 10) (Cn := RX10) h hd inG10 rfl (by decide) fl_X10_40 (by decide) ht hC (rNo_10 t hC) (by decide) kk
theorem p_X10_40 {x : Int} (h : w_Cl l R D cs aS aV A cc nL RX10 nm K) (hd : decode cc pc = .ok (.putfield 40, 3)) (ht : t < n) (hC : rC t = 10) (hx : rI x) (kk : K ad n nl ce sl (pc + 3) lv st (si σ t 3 x)) : K ad n nl ce sl pc lv (.int (vI x) :: .ref (ad t) :: st) σ := r_putI (T := TX10) (N := 7) (k := 3) (co := 10) (Cn := RX10) h hd inG10 tyX10 tyX10_ok nmX10 rfl (by decide) fl_X10_40 (by decide) ht hC (rNo_10 t hC) (by decide) rfl rfl hx kk
set_option maxRecDepth 100000 in
theorem fl_X10_58 : Cond.fieldLink RX10 58 (TX10 6).1 (TX10 6).2.1 (TX10 6).2.2.1 ∈ GT := gt_in1 188 rfl rfl
theorem g_X10_58 (h : w_Cl l R D cs aS aV A cc nL RX10 nm K) (hd : decode cc pc = .ok (.getfield 58, 3)) (ht : t < n) (hC : rC t = 10) (kk : K ad n nl ce sl (pc + 3) lv (.long (vJ (gj σ t 6)) :: st) σ) : K ad n nl ce sl pc lv (.ref (ad t) :: st) σ := r_getJ (T := TX10) (N := 7) (k := 6) (co := 10) (Cn := RX10) h hd inG10 rfl (by decide) fl_X10_58 (by decide) ht hC (rNo_10 t hC) (by decide) kk
theorem p_X10_58 {x : Int} (h : w_Cl l R D cs aS aV A cc nL RX10 nm K) (hd : decode cc pc = .ok (.putfield 58, 3)) (ht : t < n) (hC : rC t = 10) (hx : rJ x) (kk : K ad n nl ce sl (pc + 3) lv st (sj σ t 6 x)) : K ad n nl ce sl pc lv (.long (vJ x) :: .ref (ad t) :: st) σ := r_putJ (T := TX10) (N := 7) (k := 6) (co := 10) (Cn := RX10) h hd inG10 tyX10 tyX10_ok nmX10 rfl (by decide) fl_X10_58 (by decide) ht hC (rNo_10 t hC) (by decide) rfl rfl hx kk
set_option maxRecDepth 100000 in
theorem fl_X10_75 : Cond.fieldLink RX10 75 (TX10 5).1 (TX10 5).2.1 (TX10 5).2.2.1 ∈ GT := gt_in1 187 rfl rfl
theorem g_X10_75 (h : w_Cl l R D cs aS aV A cc nL RX10 nm K) (hd : decode cc pc = .ok (.getfield 75, 3)) (ht : t < n) (hC : rC t = 10) (kk : K ad n nl ce sl (pc + 3) lv (.int (vI (gi σ t 5)) :: st) σ) : K ad n nl ce sl pc lv (.ref (ad t) :: st) σ := r_getI (T := TX10) (N := 7) (k := 5) (co := 10) (Cn := RX10) h hd inG10 rfl (by decide) fl_X10_75 (by decide) ht hC (rNo_10 t hC) (by decide) kk
theorem p_X10_75 {x : Int} (h : w_Cl l R D cs aS aV A cc nL RX10 nm K) (hd : decode cc pc = .ok (.putfield 75, 3)) (ht : t < n) (hC : rC t = 10) (hx : rI x) (kk : K ad n nl ce sl (pc + 3) lv st (si σ t 5 x)) : K ad n nl ce sl pc lv (.int (vI x) :: .ref (ad t) :: st) σ := r_putI (T := TX10) (N := 7) (k := 5) (co := 10) (Cn := RX10) h hd inG10 tyX10 tyX10_ok nmX10 rfl (by decide) fl_X10_75 (by decide) ht hC (rNo_10 t hC) (by decide) rfl rfl hx kk
set_option maxRecDepth 100000 in
theorem fl_X11_9 : Cond.fieldLink RX11 9 (TX11 0).1 (TX11 0).2.1 (TX11 0).2.2.1 ∈ GT := gt_in3 35 rfl rfl
theorem g_X11_9 (h : w_Cl l R D cs aS aV A cc nL RX11 nm K) (hd : decode cc pc = .ok (.getfield 9, 3)) (ht : t < n) (hC : rC t = 11) (hnl : nl t 0 = true) (kk : K ad n nl ce sl (pc + 3) lv (.ref (ad (1)) :: st) σ) : K ad n nl ce sl pc lv (.ref (ad t) :: st) σ := r_getR (T := TX11) (N := 10) (k := 0) (co := 11) (Cn := RX11) h hd inG11 rfl (by decide) fl_X11_9 (by decide) ht hC (rNo_11 t hC) (by decide) hnl (1) (by have z : t = 0 := rC_uni11 t hC; subst z; exact rf_11_0) kk
theorem p_X11_9 (h : w_Cl l R D cs aS aV A cc nL RX11 "<init>" K) (hd : decode cc pc = .ok (.putfield 9, 3)) (ht : t < n) (hC : rC t = 11) (kk : K ad n (nu nl t 0) ce sl (pc + 3) lv st σ) : K ad n nl ce sl pc lv (.ref (ad (1)) :: .ref (ad t) :: st) σ := r_putR (T := TX11) (N := 10) (k := 0) (co := 11) (Cn := RX11) h hd inG11 tyX11 tyX11_ok nmX11 rfl (by decide) fl_X11_9 (by decide) ht hC (rNo_11 t hC) (by decide) rfl rfl rfl (fun _ => ⟨rfl, rfl⟩) (by have z : t = 0 := rC_uni11 t hC; subst z; exact rf_11_0) kk
set_option maxRecDepth 100000 in
theorem fl_X11_13 : Cond.fieldLink RX11 13 (TX11 1).1 (TX11 1).2.1 (TX11 1).2.2.1 ∈ GT := gt_in3 36 rfl rfl
theorem g_X11_13 (h : w_Cl l R D cs aS aV A cc nL RX11 nm K) (hd : decode cc pc = .ok (.getfield 13, 3)) (ht : t < n) (hC : rC t = 11) (kk : K ad n nl ce sl (pc + 3) lv (.int (vI (gi σ t 1)) :: st) σ) : K ad n nl ce sl pc lv (.ref (ad t) :: st) σ := r_getI (T := TX11) (N := 10) (k := 1) (co := 11) (Cn := RX11) h hd inG11 rfl (by decide) fl_X11_13 (by decide) ht hC (rNo_11 t hC) (by decide) kk
theorem p_X11_13 {x : Int} (h : w_Cl l R D cs aS aV A cc nL RX11 nm K) (hd : decode cc pc = .ok (.putfield 13, 3)) (ht : t < n) (hC : rC t = 11) (hx : rI x) (kk : K ad n nl ce sl (pc + 3) lv st (si σ t 1 x)) : K ad n nl ce sl pc lv (.int (vI x) :: .ref (ad t) :: st) σ := r_putI (T := TX11) (N := 10) (k := 1) (co := 11) (Cn := RX11) h hd inG11 tyX11 tyX11_ok nmX11 rfl (by decide) fl_X11_13 (by decide) ht hC (rNo_11 t hC) (by decide) rfl rfl hx kk
set_option maxRecDepth 100000 in
theorem fl_X11_20 : Cond.fieldLink RX11 20 (TX11 2).1 (TX11 2).2.1 (TX11 2).2.2.1 ∈ GT := gt_in3 37 rfl rfl
theorem g_X11_20 (h : w_Cl l R D cs aS aV A cc nL RX11 nm K) (hd : decode cc pc = .ok (.getfield 20, 3)) (ht : t < n) (hC : rC t = 11) (hnl : nl t 2 = true) (kk : K ad n nl ce sl (pc + 3) lv (.ref (ad (2)) :: st) σ) : K ad n nl ce sl pc lv (.ref (ad t) :: st) σ := r_getR (T := TX11) (N := 10) (k := 2) (co := 11) (Cn := RX11) h hd inG11 rfl (by decide) fl_X11_20 (by decide) ht hC (rNo_11 t hC) (by decide) hnl (2) (by have z : t = 0 := rC_uni11 t hC; subst z; exact rf_11_2) kk
theorem p_X11_20 (h : w_Cl l R D cs aS aV A cc nL RX11 "<init>" K) (hd : decode cc pc = .ok (.putfield 20, 3)) (ht : t < n) (hC : rC t = 11) (kk : K ad n (nu nl t 2) ce sl (pc + 3) lv st σ) : K ad n nl ce sl pc lv (.ref (ad (2)) :: .ref (ad t) :: st) σ := r_putR (T := TX11) (N := 10) (k := 2) (co := 11) (Cn := RX11) h hd inG11 tyX11 tyX11_ok nmX11 rfl (by decide) fl_X11_20 (by decide) ht hC (rNo_11 t hC) (by decide) rfl rfl rfl (fun _ => ⟨rfl, rfl⟩) (by have z : t = 0 := rC_uni11 t hC; subst z; exact rf_11_2) kk
set_option maxRecDepth 100000 in
theorem fl_X11_24 : Cond.fieldLink RX11 24 (TX11 3).1 (TX11 3).2.1 (TX11 3).2.2.1 ∈ GT := gt_in3 38 rfl rfl
theorem g_X11_24 (h : w_Cl l R D cs aS aV A cc nL RX11 nm K) (hd : decode cc pc = .ok (.getfield 24, 3)) (ht : t < n) (hC : rC t = 11) (hnl : nl t 3 = true) (kk : K ad n nl ce sl (pc + 3) lv (.ref (ad (22)) :: st) σ) : K ad n nl ce sl pc lv (.ref (ad t) :: st) σ := r_getR (T := TX11) (N := 10) (k := 3) (co := 11) (Cn := RX11) h hd inG11 rfl (by decide) fl_X11_24 (by decide) ht hC (rNo_11 t hC) (by decide) hnl (22) (by have z : t = 0 := rC_uni11 t hC; subst z; exact rf_11_3) kk
theorem p_X11_24 (h : w_Cl l R D cs aS aV A cc nL RX11 "<init>" K) (hd : decode cc pc = .ok (.putfield 24, 3)) (ht : t < n) (hC : rC t = 11) (kk : K ad n (nu nl t 3) ce sl (pc + 3) lv st σ) : K ad n nl ce sl pc lv (.ref (ad (22)) :: .ref (ad t) :: st) σ := r_putR (T := TX11) (N := 10) (k := 3) (co := 11) (Cn := RX11) h hd inG11 tyX11 tyX11_ok nmX11 rfl (by decide) fl_X11_24 (by decide) ht hC (rNo_11 t hC) (by decide) rfl rfl rfl (fun _ => ⟨rfl, rfl⟩) (by have z : t = 0 := rC_uni11 t hC; subst z; exact rf_11_3) kk
set_option maxRecDepth 100000 in
theorem fl_X11_37 : Cond.fieldLink RX11 37 (TX11 4).1 (TX11 4).2.1 (TX11 4).2.2.1 ∈ GT := gt_in3 39 rfl rfl
theorem g_X11_37 (h : w_Cl l R D cs aS aV A cc nL RX11 nm K) (hd : decode cc pc = .ok (.getfield 37, 3)) (ht : t < n) (hC : rC t = 11) (hnl : nl t 4 = true) (kk : K ad n nl ce sl (pc + 3) lv (.ref (ad (42)) :: st) σ) : K ad n nl ce sl pc lv (.ref (ad t) :: st) σ := r_getR (T := TX11) (N := 10) (k := 4) (co := 11) (Cn := RX11) h hd inG11 rfl (by decide) fl_X11_37 (by decide) ht hC (rNo_11 t hC) (by decide) hnl (42) (by have z : t = 0 := rC_uni11 t hC; subst z; exact rf_11_4) kk
theorem p_X11_37 (h : w_Cl l R D cs aS aV A cc nL RX11 "<init>" K) (hd : decode cc pc = .ok (.putfield 37, 3)) (ht : t < n) (hC : rC t = 11) (kk : K ad n (nu nl t 4) ce sl (pc + 3) lv st σ) : K ad n nl ce sl pc lv (.ref (ad (42)) :: .ref (ad t) :: st) σ := r_putR (T := TX11) (N := 10) (k := 4) (co := 11) (Cn := RX11) h hd inG11 tyX11 tyX11_ok nmX11 rfl (by decide) fl_X11_37 (by decide) ht hC (rNo_11 t hC) (by decide) rfl rfl rfl (fun _ => ⟨rfl, rfl⟩) (by have z : t = 0 := rC_uni11 t hC; subst z; exact rf_11_4) kk
set_option maxRecDepth 100000 in
theorem fl_X11_46 : Cond.fieldLink RX11 46 (TX11 5).1 (TX11 5).2.1 (TX11 5).2.2.1 ∈ GT := gt_in3 40 rfl rfl
theorem g_X11_46 (h : w_Cl l R D cs aS aV A cc nL RX11 nm K) (hd : decode cc pc = .ok (.getfield 46, 3)) (ht : t < n) (hC : rC t = 11) (hnl : nl t 5 = true) (kk : K ad n nl ce sl (pc + 3) lv (.ref (ad (46)) :: st) σ) : K ad n nl ce sl pc lv (.ref (ad t) :: st) σ := r_getR (T := TX11) (N := 10) (k := 5) (co := 11) (Cn := RX11) h hd inG11 rfl (by decide) fl_X11_46 (by decide) ht hC (rNo_11 t hC) (by decide) hnl (46) (by have z : t = 0 := rC_uni11 t hC; subst z; exact rf_11_5) kk
theorem p_X11_46 (h : w_Cl l R D cs aS aV A cc nL RX11 "<init>" K) (hd : decode cc pc = .ok (.putfield 46, 3)) (ht : t < n) (hC : rC t = 11) (kk : K ad n (nu nl t 5) ce sl (pc + 3) lv st σ) : K ad n nl ce sl pc lv (.ref (ad (46)) :: .ref (ad t) :: st) σ := r_putR (T := TX11) (N := 10) (k := 5) (co := 11) (Cn := RX11) h hd inG11 tyX11 tyX11_ok nmX11 rfl (by decide) fl_X11_46 (by decide) ht hC (rNo_11 t hC) (by decide) rfl rfl rfl (fun _ => ⟨rfl, rfl⟩) (by have z : t = 0 := rC_uni11 t hC; subst z; exact rf_11_5) kk
set_option maxRecDepth 100000 in
theorem fl_X11_53 : Cond.fieldLink RX11 53 (TX11 6).1 (TX11 6).2.1 (TX11 6).2.2.1 ∈ GT := gt_in3 41 rfl rfl
theorem g_X11_53 (h : w_Cl l R D cs aS aV A cc nL RX11 nm K) (hd : decode cc pc = .ok (.getfield 53, 3)) (ht : t < n) (hC : rC t = 11) (hnl : nl t 6 = true) (kk : K ad n nl ce sl (pc + 3) lv (.ref (ad (54)) :: st) σ) : K ad n nl ce sl pc lv (.ref (ad t) :: st) σ := r_getR (T := TX11) (N := 10) (k := 6) (co := 11) (Cn := RX11) h hd inG11 rfl (by decide) fl_X11_53 (by decide) ht hC (rNo_11 t hC) (by decide) hnl (54) (by have z : t = 0 := rC_uni11 t hC; subst z; exact rf_11_6) kk
theorem p_X11_53 (h : w_Cl l R D cs aS aV A cc nL RX11 "<init>" K) (hd : decode cc pc = .ok (.putfield 53, 3)) (ht : t < n) (hC : rC t = 11) (kk : K ad n (nu nl t 6) ce sl (pc + 3) lv st σ) : K ad n nl ce sl pc lv (.ref (ad (54)) :: .ref (ad t) :: st) σ := r_putR (T := TX11) (N := 10) (k := 6) (co := 11) (Cn := RX11) h hd inG11 tyX11 tyX11_ok nmX11 rfl (by decide) fl_X11_53 (by decide) ht hC (rNo_11 t hC) (by decide) rfl rfl rfl (fun _ => ⟨rfl, rfl⟩) (by have z : t = 0 := rC_uni11 t hC; subst z; exact rf_11_6) kk
set_option maxRecDepth 100000 in
theorem fl_X11_60 : Cond.fieldLink RX11 60 (TX11 7).1 (TX11 7).2.1 (TX11 7).2.2.1 ∈ GT := gt_in3 42 rfl rfl
theorem g_X11_60 (h : w_Cl l R D cs aS aV A cc nL RX11 nm K) (hd : decode cc pc = .ok (.getfield 60, 3)) (ht : t < n) (hC : rC t = 11) (hnl : nl t 7 = true) (kk : K ad n nl ce sl (pc + 3) lv (.ref (ad (57)) :: st) σ) : K ad n nl ce sl pc lv (.ref (ad t) :: st) σ := r_getR (T := TX11) (N := 10) (k := 7) (co := 11) (Cn := RX11) h hd inG11 rfl (by decide) fl_X11_60 (by decide) ht hC (rNo_11 t hC) (by decide) hnl (57) (by have z : t = 0 := rC_uni11 t hC; subst z; exact rf_11_7) kk
theorem p_X11_60 (h : w_Cl l R D cs aS aV A cc nL RX11 "<init>" K) (hd : decode cc pc = .ok (.putfield 60, 3)) (ht : t < n) (hC : rC t = 11) (kk : K ad n (nu nl t 7) ce sl (pc + 3) lv st σ) : K ad n nl ce sl pc lv (.ref (ad (57)) :: .ref (ad t) :: st) σ := r_putR (T := TX11) (N := 10) (k := 7) (co := 11) (Cn := RX11) h hd inG11 tyX11 tyX11_ok nmX11 rfl (by decide) fl_X11_60 (by decide) ht hC (rNo_11 t hC) (by decide) rfl rfl rfl (fun _ => ⟨rfl, rfl⟩) (by have z : t = 0 := rC_uni11 t hC; subst z; exact rf_11_7) kk
set_option maxRecDepth 100000 in
theorem fl_X11_66 : Cond.fieldLink RX11 66 (TX0 1).1 (TX0 1).2.1 (TX0 1).2.2.1 ∈ GT := gt_in2 74 rfl rfl
theorem g_X11_66 (h : w_Cl l R D cs aS aV A cc nL RX11 nm K) (hd : decode cc pc = .ok (.getfield 66, 3)) (ht : t < n) (hC : rC t = 0) (hnl : nl t 1 = true) (kk : K ad n nl ce sl (pc + 3) lv (.ref (ad (47)) :: st) σ) : K ad n nl ce sl pc lv (.ref (ad t) :: st) σ := r_getR (T := TX0) (N := 14) (k := 1) (co := 0) (Cn := RX0) h hd inG0 rfl (by decide) fl_X11_66 (by decide) ht hC (rNo_0 t hC) (by decide) hnl (47) (by have z : t = 46 := rC_uni0 t hC; subst z; exact rf_0_1) kk
set_option maxRecDepth 100000 in
theorem fl_X11_73 : Cond.fieldLink RX11 73 (TX11 8).1 (TX11 8).2.1 (TX11 8).2.2.1 ∈ GT := gt_in3 43 rfl rfl
theorem g_X11_73 (h : w_Cl l R D cs aS aV A cc nL RX11 nm K) (hd : decode cc pc = .ok (.getfield 73, 3)) (ht : t < n) (hC : rC t = 11) (hnl : nl t 8 = true) (kk : K ad n nl ce sl (pc + 3) lv (.ref (ad (61)) :: st) σ) : K ad n nl ce sl pc lv (.ref (ad t) :: st) σ := r_getR (T := TX11) (N := 10) (k := 8) (co := 11) (Cn := RX11) h hd inG11 rfl (by decide) fl_X11_73 (by decide) ht hC (rNo_11 t hC) (by decide) hnl (61) (by have z : t = 0 := rC_uni11 t hC; subst z; exact rf_11_8) kk
theorem p_X11_73 (h : w_Cl l R D cs aS aV A cc nL RX11 "<init>" K) (hd : decode cc pc = .ok (.putfield 73, 3)) (ht : t < n) (hC : rC t = 11) (kk : K ad n (nu nl t 8) ce sl (pc + 3) lv st σ) : K ad n nl ce sl pc lv (.ref (ad (61)) :: .ref (ad t) :: st) σ := r_putR (T := TX11) (N := 10) (k := 8) (co := 11) (Cn := RX11) h hd inG11 tyX11 tyX11_ok nmX11 rfl (by decide) fl_X11_73 (by decide) ht hC (rNo_11 t hC) (by decide) rfl rfl rfl (fun _ => ⟨rfl, rfl⟩) (by have z : t = 0 := rC_uni11 t hC; subst z; exact rf_11_8) kk
set_option maxRecDepth 100000 in
theorem fl_X11_80 : Cond.fieldLink RX11 80 (TX11 9).1 (TX11 9).2.1 (TX11 9).2.2.1 ∈ GT := gt_in3 44 rfl rfl
theorem g_X11_80 (h : w_Cl l R D cs aS aV A cc nL RX11 nm K) (hd : decode cc pc = .ok (.getfield 80, 3)) (ht : t < n) (hC : rC t = 11) (hnl : nl t 9 = true) (kk : K ad n nl ce sl (pc + 3) lv (.ref (ad (79)) :: st) σ) : K ad n nl ce sl pc lv (.ref (ad t) :: st) σ := r_getR (T := TX11) (N := 10) (k := 9) (co := 11) (Cn := RX11) h hd inG11 rfl (by decide) fl_X11_80 (by decide) ht hC (rNo_11 t hC) (by decide) hnl (79) (by have z : t = 0 := rC_uni11 t hC; subst z; exact rf_11_9) kk
theorem p_X11_80 (h : w_Cl l R D cs aS aV A cc nL RX11 "<init>" K) (hd : decode cc pc = .ok (.putfield 80, 3)) (ht : t < n) (hC : rC t = 11) (kk : K ad n (nu nl t 9) ce sl (pc + 3) lv st σ) : K ad n nl ce sl pc lv (.ref (ad (79)) :: .ref (ad t) :: st) σ := r_putR (T := TX11) (N := 10) (k := 9) (co := 11) (Cn := RX11) h hd inG11 tyX11 tyX11_ok nmX11 rfl (by decide) fl_X11_80 (by decide) ht hC (rNo_11 t hC) (by decide) rfl rfl rfl (fun _ => ⟨rfl, rfl⟩) (by have z : t = 0 := rC_uni11 t hC; subst z; exact rf_11_9) kk
set_option maxRecDepth 100000 in
theorem fl_X11_104 : Cond.fieldLink RX11 104 (TX4 0).1 (TX4 0).2.1 (TX4 0).2.2.1 ∈ GT := gt_in1 60 rfl rfl
theorem g_X11_104 (h : w_Cl l R D cs aS aV A cc nL RX11 nm K) (hd : decode cc pc = .ok (.getfield 104, 3)) (ht : t < n) (hC : rC t = 4) (kk : K ad n nl ce sl (pc + 3) lv (.int (vI (gi σ t 0)) :: st) σ) : K ad n nl ce sl pc lv (.ref (ad t) :: st) σ := r_getI (T := TX4) (N := 20) (k := 0) (co := 4) (Cn := RX4) h hd inG4 rfl (by decide) fl_X11_104 (by decide) ht hC (rNo_4 t hC) (by decide) kk
set_option maxRecDepth 100000 in
theorem fl_X11_107 : Cond.fieldLink RX11 107 (TX5 2).1 (TX5 2).2.1 (TX5 2).2.2.1 ∈ GT := gt_in1 234 rfl rfl
theorem g_X11_107 (h : w_Cl l R D cs aS aV A cc nL RX11 nm K) (hd : decode cc pc = .ok (.getfield 107, 3)) (ht : t < n) (hC : rC t = 5) (kk : K ad n nl ce sl (pc + 3) lv (.int (vI (gi σ t 2)) :: st) σ) : K ad n nl ce sl pc lv (.ref (ad t) :: st) σ := r_getI (T := TX5) (N := 6) (k := 2) (co := 5) (Cn := RX5) h hd inG5 rfl (by decide) fl_X11_107 (by decide) ht hC (rNo_5 t hC) (by decide) kk
set_option maxRecDepth 100000 in
theorem fl_X11_110 : Cond.fieldLink RX11 110 (TX5 3).1 (TX5 3).2.1 (TX5 3).2.2.1 ∈ GT := gt_in1 236 rfl rfl
theorem g_X11_110 (h : w_Cl l R D cs aS aV A cc nL RX11 nm K) (hd : decode cc pc = .ok (.getfield 110, 3)) (ht : t < n) (hC : rC t = 5) (kk : K ad n nl ce sl (pc + 3) lv (.int (vI (gi σ t 3)) :: st) σ) : K ad n nl ce sl pc lv (.ref (ad t) :: st) σ := r_getI (T := TX5) (N := 6) (k := 3) (co := 5) (Cn := RX5) h hd inG5 rfl (by decide) fl_X11_110 (by decide) ht hC (rNo_5 t hC) (by decide) kk
set_option maxRecDepth 100000 in
theorem fl_X11_120 : Cond.fieldLink RX11 120 (TX4 5).1 (TX4 5).2.1 (TX4 5).2.2.1 ∈ GT := gt_in1 76 rfl rfl
theorem g_X11_120 (h : w_Cl l R D cs aS aV A cc nL RX11 nm K) (hd : decode cc pc = .ok (.getfield 120, 3)) (ht : t < n) (hC : rC t = 4) (hnl : nl t 5 = true) (kk : K ad n nl ce sl (pc + 3) lv (.ref (ad (t + 4)) :: st) σ) : K ad n nl ce sl pc lv (.ref (ad t) :: st) σ := r_getR (T := TX4) (N := 20) (k := 5) (co := 4) (Cn := RX4) h hd inG4 rfl (by decide) fl_X11_120 (by decide) ht hC (rNo_4 t hC) (by decide) hnl (t + 4) (rf_4_5 t hC).1 kk
set_option maxRecDepth 100000 in
theorem fl_X11_123 : Cond.fieldLink RX11 123 (TX4 6).1 (TX4 6).2.1 (TX4 6).2.2.1 ∈ GT := gt_in1 80 rfl rfl
theorem g_X11_123 (h : w_Cl l R D cs aS aV A cc nL RX11 nm K) (hd : decode cc pc = .ok (.getfield 123, 3)) (ht : t < n) (hC : rC t = 4) (hnl : nl t 6 = true) (kk : K ad n nl ce sl (pc + 3) lv (.ref (ad (t + 5)) :: st) σ) : K ad n nl ce sl pc lv (.ref (ad t) :: st) σ := r_getR (T := TX4) (N := 20) (k := 6) (co := 4) (Cn := RX4) h hd inG4 rfl (by decide) fl_X11_123 (by decide) ht hC (rNo_4 t hC) (by decide) hnl (t + 5) (rf_4_6 t hC).1 kk
set_option maxRecDepth 100000 in
theorem fl_X11_126 : Cond.fieldLink RX11 126 (TX4 7).1 (TX4 7).2.1 (TX4 7).2.2.1 ∈ GT := gt_in1 87 rfl rfl
theorem g_X11_126 (h : w_Cl l R D cs aS aV A cc nL RX11 nm K) (hd : decode cc pc = .ok (.getfield 126, 3)) (ht : t < n) (hC : rC t = 4) (hnl : nl t 7 = true) (kk : K ad n nl ce sl (pc + 3) lv (.ref (ad (t + 6)) :: st) σ) : K ad n nl ce sl pc lv (.ref (ad t) :: st) σ := r_getR (T := TX4) (N := 20) (k := 7) (co := 4) (Cn := RX4) h hd inG4 rfl (by decide) fl_X11_126 (by decide) ht hC (rNo_4 t hC) (by decide) hnl (t + 6) (rf_4_7 t hC).1 kk
set_option maxRecDepth 100000 in
theorem fl_X11_133 : Cond.fieldLink RX11 133 (TX8 1).1 (TX8 1).2.1 (TX8 1).2.2.1 ∈ GT := gt_in2 156 rfl rfl
theorem g_X11_133 (h : w_Cl l R D cs aS aV A cc nL RX11 nm K) (hd : decode cc pc = .ok (.getfield 133, 3)) (ht : t < n) (hC : rC t = 8) (hnl : nl t 1 = true) (kk : K ad n nl ce sl (pc + 3) lv (.ref (ad (t + 1)) :: st) σ) : K ad n nl ce sl pc lv (.ref (ad t) :: st) σ := r_getR (T := TX8) (N := 4) (k := 1) (co := 8) (Cn := RX8) h hd inG8 rfl (by decide) fl_X11_133 (by decide) ht hC (rNo_8 t hC) (by decide) hnl (t + 1) (rf_8_1 t hC).1 kk
set_option maxRecDepth 100000 in
theorem fl_X11_146 : Cond.fieldLink RX11 146 (TX9 4).1 (TX9 4).2.1 (TX9 4).2.2.1 ∈ GT := gt_in2 30 rfl rfl
theorem g_X11_146 (h : w_Cl l R D cs aS aV A cc nL RX11 nm K) (hd : decode cc pc = .ok (.getfield 146, 3)) (ht : t < n) (hC : rC t = 9) (kk : K ad n nl ce sl (pc + 3) lv (.int (vI (gi σ t 4)) :: st) σ) : K ad n nl ce sl pc lv (.ref (ad t) :: st) σ := r_getI (T := TX9) (N := 7) (k := 4) (co := 9) (Cn := RX9) h hd inG9 rfl (by decide) fl_X11_146 (by decide) ht hC (rNo_9 t hC) (by decide) kk
set_option maxRecDepth 100000 in
theorem fl_X11_180 : Cond.fieldLink RX11 180 (TX7 2).1 (TX7 2).2.1 (TX7 2).2.2.1 ∈ GT := gt_in2 133 rfl rfl
theorem g_X11_180 (h : w_Cl l R D cs aS aV A cc nL RX11 nm K) (hd : decode cc pc = .ok (.getfield 180, 3)) (ht : t < n) (hC : rC t = 7) (kk : K ad n nl ce sl (pc + 3) lv (.int (vI (gi σ t 2)) :: st) σ) : K ad n nl ce sl pc lv (.ref (ad t) :: st) σ := r_getI (T := TX7) (N := 4) (k := 2) (co := 7) (Cn := RX7) h hd inG7 rfl (by decide) fl_X11_180 (by decide) ht hC (rNo_7 t hC) (by decide) kk
set_option maxRecDepth 100000 in
theorem fl_X11_183 : Cond.fieldLink RX11 183 (TX7 3).1 (TX7 3).2.1 (TX7 3).2.2.1 ∈ GT := gt_in2 136 rfl rfl
theorem g_X11_183 (h : w_Cl l R D cs aS aV A cc nL RX11 nm K) (hd : decode cc pc = .ok (.getfield 183, 3)) (ht : t < n) (hC : rC t = 7) (kk : K ad n nl ce sl (pc + 3) lv (.int (vI (gi σ t 3)) :: st) σ) : K ad n nl ce sl pc lv (.ref (ad t) :: st) σ := r_getI (T := TX7) (N := 4) (k := 3) (co := 7) (Cn := RX7) h hd inG7 rfl (by decide) fl_X11_183 (by decide) ht hC (rNo_7 t hC) (by decide) kk
set_option maxRecDepth 100000 in
theorem fl_X11_191 : Cond.fieldLink RX11 191 (TX9 5).1 (TX9 5).2.1 (TX9 5).2.2.1 ∈ GT := gt_in2 33 rfl rfl
theorem g_X11_191 (h : w_Cl l R D cs aS aV A cc nL RX11 nm K) (hd : decode cc pc = .ok (.getfield 191, 3)) (ht : t < n) (hC : rC t = 9) (kk : K ad n nl ce sl (pc + 3) lv (.int (vI (gi σ t 5)) :: st) σ) : K ad n nl ce sl pc lv (.ref (ad t) :: st) σ := r_getI (T := TX9) (N := 7) (k := 5) (co := 9) (Cn := RX9) h hd inG9 rfl (by decide) fl_X11_191 (by decide) ht hC (rNo_9 t hC) (by decide) kk
set_option maxRecDepth 100000 in
theorem fl_X11_194 : Cond.fieldLink RX11 194 (TX8 2).1 (TX8 2).2.1 (TX8 2).2.2.1 ∈ GT := gt_in2 159 rfl rfl
theorem g_X11_194 (h : w_Cl l R D cs aS aV A cc nL RX11 nm K) (hd : decode cc pc = .ok (.getfield 194, 3)) (ht : t < n) (hC : rC t = 8) (kk : K ad n nl ce sl (pc + 3) lv (.int (vI (gi σ t 2)) :: st) σ) : K ad n nl ce sl pc lv (.ref (ad t) :: st) σ := r_getI (T := TX8) (N := 4) (k := 2) (co := 8) (Cn := RX8) h hd inG8 rfl (by decide) fl_X11_194 (by decide) ht hC (rNo_8 t hC) (by decide) kk
set_option maxRecDepth 100000 in
theorem fl_X11_197 : Cond.fieldLink RX11 197 (TX8 3).1 (TX8 3).2.1 (TX8 3).2.2.1 ∈ GT := gt_in2 161 rfl rfl
theorem g_X11_197 (h : w_Cl l R D cs aS aV A cc nL RX11 nm K) (hd : decode cc pc = .ok (.getfield 197, 3)) (ht : t < n) (hC : rC t = 8) (kk : K ad n nl ce sl (pc + 3) lv (.int (vI (gi σ t 3)) :: st) σ) : K ad n nl ce sl pc lv (.ref (ad t) :: st) σ := r_getI (T := TX8) (N := 4) (k := 3) (co := 8) (Cn := RX8) h hd inG8 rfl (by decide) fl_X11_197 (by decide) ht hC (rNo_8 t hC) (by decide) kk
set_option maxRecDepth 100000 in
theorem fl_X11_267 : Cond.fieldLink RX11 267 (TX4 4).1 (TX4 4).2.1 (TX4 4).2.2.1 ∈ GT := gt_in1 72 rfl rfl
theorem g_X11_267 (h : w_Cl l R D cs aS aV A cc nL RX11 nm K) (hd : decode cc pc = .ok (.getfield 267, 3)) (ht : t < n) (hC : rC t = 4) (kk : K ad n nl ce sl (pc + 3) lv (.int (vI (gi σ t 4)) :: st) σ) : K ad n nl ce sl pc lv (.ref (ad t) :: st) σ := r_getI (T := TX4) (N := 20) (k := 4) (co := 4) (Cn := RX4) h hd inG4 rfl (by decide) fl_X11_267 (by decide) ht hC (rNo_4 t hC) (by decide) kk
set_option maxRecDepth 100000 in
theorem fl_X11_270 : Cond.fieldLink RX11 270 (TX4 9).1 (TX4 9).2.1 (TX4 9).2.2.1 ∈ GT := gt_in1 94 rfl rfl
theorem g_X11_270 (h : w_Cl l R D cs aS aV A cc nL RX11 nm K) (hd : decode cc pc = .ok (.getfield 270, 3)) (ht : t < n) (hC : rC t = 4) (kk : K ad n nl ce sl (pc + 3) lv (.int (vI (gi σ t 9)) :: st) σ) : K ad n nl ce sl pc lv (.ref (ad t) :: st) σ := r_getI (T := TX4) (N := 20) (k := 9) (co := 4) (Cn := RX4) h hd inG4 rfl (by decide) fl_X11_270 (by decide) ht hC (rNo_4 t hC) (by decide) kk
set_option maxRecDepth 100000 in
theorem fl_X11_273 : Cond.fieldLink RX11 273 (TX4 12).1 (TX4 12).2.1 (TX4 12).2.2.1 ∈ GT := gt_in1 103 rfl rfl
theorem g_X11_273 (h : w_Cl l R D cs aS aV A cc nL RX11 nm K) (hd : decode cc pc = .ok (.getfield 273, 3)) (ht : t < n) (hC : rC t = 4) (kk : K ad n nl ce sl (pc + 3) lv (.int (vI (gi σ t 12)) :: st) σ) : K ad n nl ce sl pc lv (.ref (ad t) :: st) σ := r_getI (T := TX4) (N := 20) (k := 12) (co := 4) (Cn := RX4) h hd inG4 rfl (by decide) fl_X11_273 (by decide) ht hC (rNo_4 t hC) (by decide) kk
set_option maxRecDepth 100000 in
theorem fl_X11_276 : Cond.fieldLink RX11 276 (TX0 2).1 (TX0 2).2.1 (TX0 2).2.2.1 ∈ GT := gt_in2 76 rfl rfl
theorem g_X11_276 (h : w_Cl l R D cs aS aV A cc nL RX11 nm K) (hd : decode cc pc = .ok (.getfield 276, 3)) (ht : t < n) (hC : rC t = 0) (kk : K ad n nl ce sl (pc + 3) lv (.int (vI (gi σ t 2)) :: st) σ) : K ad n nl ce sl pc lv (.ref (ad t) :: st) σ := r_getI (T := TX0) (N := 14) (k := 2) (co := 0) (Cn := RX0) h hd inG0 rfl (by decide) fl_X11_276 (by decide) ht hC (rNo_0 t hC) (by decide) kk
set_option maxRecDepth 100000 in
theorem fl_X11_279 : Cond.fieldLink RX11 279 (TX0 10).1 (TX0 10).2.1 (TX0 10).2.2.1 ∈ GT := gt_in2 85 rfl rfl
theorem g_X11_279 (h : w_Cl l R D cs aS aV A cc nL RX11 nm K) (hd : decode cc pc = .ok (.getfield 279, 3)) (ht : t < n) (hC : rC t = 0) (kk : K ad n nl ce sl (pc + 3) lv (.int (vI (gi σ t 10)) :: st) σ) : K ad n nl ce sl pc lv (.ref (ad t) :: st) σ := r_getI (T := TX0) (N := 14) (k := 10) (co := 0) (Cn := RX0) h hd inG0 rfl (by decide) fl_X11_279 (by decide) ht hC (rNo_0 t hC) (by decide) kk
set_option maxRecDepth 100000 in
theorem fl_X11_282 : Cond.fieldLink RX11 282 (TX0 11).1 (TX0 11).2.1 (TX0 11).2.2.1 ∈ GT := gt_in2 87 rfl rfl
theorem g_X11_282 (h : w_Cl l R D cs aS aV A cc nL RX11 nm K) (hd : decode cc pc = .ok (.getfield 282, 3)) (ht : t < n) (hC : rC t = 0) (kk : K ad n nl ce sl (pc + 3) lv (.int (vI (gi σ t 11)) :: st) σ) : K ad n nl ce sl pc lv (.ref (ad t) :: st) σ := r_getI (T := TX0) (N := 14) (k := 11) (co := 0) (Cn := RX0) h hd inG0 rfl (by decide) fl_X11_282 (by decide) ht hC (rNo_0 t hC) (by decide) kk
set_option maxRecDepth 100000 in
theorem fl_X11_285 : Cond.fieldLink RX11 285 (TX6 3).1 (TX6 3).2.1 (TX6 3).2.2.1 ∈ GT := gt_in3 16 rfl rfl
theorem g_X11_285 (h : w_Cl l R D cs aS aV A cc nL RX11 nm K) (hd : decode cc pc = .ok (.getfield 285, 3)) (ht : t < n) (hC : rC t = 6) (kk : K ad n nl ce sl (pc + 3) lv (.int (vI (gi σ t 3)) :: st) σ) : K ad n nl ce sl pc lv (.ref (ad t) :: st) σ := r_getI (T := TX6) (N := 7) (k := 3) (co := 6) (Cn := RX6) h hd inG6 rfl (by decide) fl_X11_285 (by decide) ht hC (rNo_6 t hC) (by decide) kk
set_option maxRecDepth 100000 in
theorem fl_X11_286 : Cond.fieldLink RX11 286 (TX6 2).1 (TX6 2).2.1 (TX6 2).2.2.1 ∈ GT := gt_in3 14 rfl rfl
theorem g_X11_286 (h : w_Cl l R D cs aS aV A cc nL RX11 nm K) (hd : decode cc pc = .ok (.getfield 286, 3)) (ht : t < n) (hC : rC t = 6) (kk : K ad n nl ce sl (pc + 3) lv (.int (vI (gi σ t 2)) :: st) σ) : K ad n nl ce sl pc lv (.ref (ad t) :: st) σ := r_getI (T := TX6) (N := 7) (k := 2) (co := 6) (Cn := RX6) h hd inG6 rfl (by decide) fl_X11_286 (by decide) ht hC (rNo_6 t hC) (by decide) kk
set_option maxRecDepth 100000 in
theorem fl_X11_289 : Cond.fieldLink RX11 289 (TX4 18).1 (TX4 18).2.1 (TX4 18).2.2.1 ∈ GT := gt_in1 122 rfl rfl
theorem g_X11_289 (h : w_Cl l R D cs aS aV A cc nL RX11 nm K) (hd : decode cc pc = .ok (.getfield 289, 3)) (ht : t < n) (hC : rC t = 4) (hnl : nl t 18 = true) (kk : K ad n nl ce sl (pc + 3) lv (.ref (ad (t + 14)) :: st) σ) : K ad n nl ce sl pc lv (.ref (ad t) :: st) σ := r_getR (T := TX4) (N := 20) (k := 18) (co := 4) (Cn := RX4) h hd inG4 rfl (by decide) fl_X11_289 (by decide) ht hC (rNo_4 t hC) (by decide) hnl (t + 14) (rf_4_18 t hC).1 kk
set_option maxRecDepth 100000 in
theorem fl_X11_293 : Cond.fieldLink RX11 293 (TX2 3).1 (TX2 3).2.1 (TX2 3).2.2.1 ∈ GT := gt_in1 45 rfl rfl
theorem g_X11_293 (h : w_Cl l R D cs aS aV A cc nL RX11 nm K) (hd : decode cc pc = .ok (.getfield 293, 3)) (ht : t < n) (hC : rC t = 2) (kk : K ad n nl ce sl (pc + 3) lv (.int (vI (gi σ t 3)) :: st) σ) : K ad n nl ce sl pc lv (.ref (ad t) :: st) σ := r_getI (T := TX2) (N := 4) (k := 3) (co := 2) (Cn := RX2) h hd inG2 rfl (by decide) fl_X11_293 (by decide) ht hC (rNo_2 t hC) (by decide) kk
set_option maxRecDepth 100000 in
theorem fl_X11_298 : Cond.fieldLink RX11 298 (TX4 19).1 (TX4 19).2.1 (TX4 19).2.2.1 ∈ GT := gt_in1 127 rfl rfl
theorem g_X11_298 (h : w_Cl l R D cs aS aV A cc nL RX11 nm K) (hd : decode cc pc = .ok (.getfield 298, 3)) (ht : t < n) (hC : rC t = 4) (hnl : nl t 19 = true) (kk : K ad n nl ce sl (pc + 3) lv (.ref (ad (t + 17)) :: st) σ) : K ad n nl ce sl pc lv (.ref (ad t) :: st) σ := r_getR (T := TX4) (N := 20) (k := 19) (co := 4) (Cn := RX4) h hd inG4 rfl (by decide) fl_X11_298 (by decide) ht hC (rNo_4 t hC) (by decide) hnl (t + 17) (rf_4_19 t hC).1 kk
set_option maxRecDepth 100000 in
theorem fl_X11_301 : Cond.fieldLink RX11 301 (TX1 5).1 (TX1 5).2.1 (TX1 5).2.2.1 ∈ GT := gt_in2 187 rfl rfl
theorem g_X11_301 (h : w_Cl l R D cs aS aV A cc nL RX11 nm K) (hd : decode cc pc = .ok (.getfield 301, 3)) (ht : t < n) (hC : rC t = 1) (kk : K ad n nl ce sl (pc + 3) lv (.int (vI (gi σ t 5)) :: st) σ) : K ad n nl ce sl pc lv (.ref (ad t) :: st) σ := r_getI (T := TX1) (N := 20) (k := 5) (co := 1) (Cn := RX1) h hd inG1 rfl (by decide) fl_X11_301 (by decide) ht hC (rNo_1 t hC) (by decide) kk
set_option maxRecDepth 100000 in
theorem fl_X12_7 : Cond.fieldLink RX12 7 (TX12 0).1 (TX12 0).2.1 (TX12 0).2.2.1 ∈ GT := gt_in6 93 rfl rfl
theorem g_X12_7 (h : w_Cl l R D cs aS aV A cc nL RX12 nm K) (hd : decode cc pc = .ok (.getfield 7, 3)) (ht : t < n) (hC : rC t = 12) (hnl : nl t 0 = true) (kk : K ad n nl ce sl (pc + 3) lv (.ref (ad (87)) :: st) σ) : K ad n nl ce sl pc lv (.ref (ad t) :: st) σ := r_getR (T := TX12) (N := 84) (k := 0) (co := 12) (Cn := RX12) h hd inG12 rfl (by decide) fl_X12_7 (by decide) ht hC (rNo_12 t hC) (by decide) hnl (87) (by have z : t = 86 := rC_uni12 t hC; subst z; exact rf_12_0) kk
theorem p_X12_7 (h : w_Cl l R D cs aS aV A cc nL RX12 "<init>" K) (hd : decode cc pc = .ok (.putfield 7, 3)) (ht : t < n) (hC : rC t = 12) (kk : K ad n (nu nl t 0) ce sl (pc + 3) lv st σ) : K ad n nl ce sl pc lv (.ref (ad (87)) :: .ref (ad t) :: st) σ := r_putR (T := TX12) (N := 84) (k := 0) (co := 12) (Cn := RX12) h hd inG12 tyX12 tyX12_ok nmX12 rfl (by decide) fl_X12_7 (by decide) ht hC (rNo_12 t hC) (by decide) rfl rfl rfl (fun _ => ⟨rfl, rfl⟩) (by have z : t = 86 := rC_uni12 t hC; subst z; exact rf_12_0) kk
set_option maxRecDepth 100000 in
theorem fl_X12_13 : Cond.fieldLink RX12 13 (TX12 1).1 (TX12 1).2.1 (TX12 1).2.2.1 ∈ GT := gt_in6 94 rfl rfl
theorem g_X12_13 (h : w_Cl l R D cs aS aV A cc nL RX12 nm K) (hd : decode cc pc = .ok (.getfield 13, 3)) (ht : t < n) (hC : rC t = 12) (hnl : nl t 1 = true) (kk : K ad n nl ce sl (pc + 3) lv (.ref (ad (88)) :: st) σ) : K ad n nl ce sl pc lv (.ref (ad t) :: st) σ := r_getR (T := TX12) (N := 84) (k := 1) (co := 12) (Cn := RX12) h hd inG12 rfl (by decide) fl_X12_13 (by decide) ht hC (rNo_12 t hC) (by decide) hnl (88) (by have z : t = 86 := rC_uni12 t hC; subst z; exact rf_12_1) kk
theorem p_X12_13 (h : w_Cl l R D cs aS aV A cc nL RX12 "<init>" K) (hd : decode cc pc = .ok (.putfield 13, 3)) (ht : t < n) (hC : rC t = 12) (kk : K ad n (nu nl t 1) ce sl (pc + 3) lv st σ) : K ad n nl ce sl pc lv (.ref (ad (88)) :: .ref (ad t) :: st) σ := r_putR (T := TX12) (N := 84) (k := 1) (co := 12) (Cn := RX12) h hd inG12 tyX12 tyX12_ok nmX12 rfl (by decide) fl_X12_13 (by decide) ht hC (rNo_12 t hC) (by decide) rfl rfl rfl (fun _ => ⟨rfl, rfl⟩) (by have z : t = 86 := rC_uni12 t hC; subst z; exact rf_12_1) kk
set_option maxRecDepth 100000 in
theorem fl_X12_16 : Cond.fieldLink RX12 16 (TX12 5).1 (TX12 5).2.1 (TX12 5).2.2.1 ∈ GT := gt_in6 98 rfl rfl
theorem g_X12_16 (h : w_Cl l R D cs aS aV A cc nL RX12 nm K) (hd : decode cc pc = .ok (.getfield 16, 3)) (ht : t < n) (hC : rC t = 12) (kk : K ad n nl ce sl (pc + 3) lv (.int (vI (gi σ t 5)) :: st) σ) : K ad n nl ce sl pc lv (.ref (ad t) :: st) σ := r_getI (T := TX12) (N := 84) (k := 5) (co := 12) (Cn := RX12) h hd inG12 rfl (by decide) fl_X12_16 (by decide) ht hC (rNo_12 t hC) (by decide) kk
theorem p_X12_16 {x : Int} (h : w_Cl l R D cs aS aV A cc nL RX12 nm K) (hd : decode cc pc = .ok (.putfield 16, 3)) (ht : t < n) (hC : rC t = 12) (hx : rI x) (kk : K ad n nl ce sl (pc + 3) lv st (si σ t 5 x)) : K ad n nl ce sl pc lv (.int (vI x) :: .ref (ad t) :: st) σ := r_putI (T := TX12) (N := 84) (k := 5) (co := 12) (Cn := RX12) h hd inG12 tyX12 tyX12_ok nmX12 rfl (by decide) fl_X12_16 (by decide) ht hC (rNo_12 t hC) (by decide) rfl rfl hx kk
set_option maxRecDepth 100000 in
theorem fl_X12_20 : Cond.fieldLink RX12 20 (TX12 11).1 (TX12 11).2.1 (TX12 11).2.2.1 ∈ GT := gt_in6 104 rfl rfl
theorem g_X12_20 (h : w_Cl l R D cs aS aV A cc nL RX12 nm K) (hd : decode cc pc = .ok (.getfield 20, 3)) (ht : t < n) (hC : rC t = 12) (hnl : nl t 11 = true) (kk : K ad n nl ce sl (pc + 3) lv (.ref (ad (89)) :: st) σ) : K ad n nl ce sl pc lv (.ref (ad t) :: st) σ := r_getR (T := TX12) (N := 84) (k := 11) (co := 12) (Cn := RX12) h hd inG12 rfl (by decide) fl_X12_20 (by decide) ht hC (rNo_12 t hC) (by decide) hnl (89) (by have z : t = 86 := rC_uni12 t hC; subst z; exact rf_12_11) kk
theorem p_X12_20 (h : w_Cl l R D cs aS aV A cc nL RX12 "<init>" K) (hd : decode cc pc = .ok (.putfield 20, 3)) (ht : t < n) (hC : rC t = 12) (kk : K ad n (nu nl t 11) ce sl (pc + 3) lv st σ) : K ad n nl ce sl pc lv (.ref (ad (89)) :: .ref (ad t) :: st) σ := r_putR (T := TX12) (N := 84) (k := 11) (co := 12) (Cn := RX12) h hd inG12 tyX12 tyX12_ok nmX12 rfl (by decide) fl_X12_20 (by decide) ht hC (rNo_12 t hC) (by decide) rfl rfl rfl (fun _ => ⟨rfl, rfl⟩) (by have z : t = 86 := rC_uni12 t hC; subst z; exact rf_12_11) kk
set_option maxRecDepth 100000 in
theorem fl_X12_24 : Cond.fieldLink RX12 24 (TX12 12).1 (TX12 12).2.1 (TX12 12).2.2.1 ∈ GT := gt_in6 105 rfl rfl
theorem g_X12_24 (h : w_Cl l R D cs aS aV A cc nL RX12 nm K) (hd : decode cc pc = .ok (.getfield 24, 3)) (ht : t < n) (hC : rC t = 12) (hnl : nl t 12 = true) (kk : K ad n nl ce sl (pc + 3) lv (.ref (ad (90)) :: st) σ) : K ad n nl ce sl pc lv (.ref (ad t) :: st) σ := r_getR (T := TX12) (N := 84) (k := 12) (co := 12) (Cn := RX12) h hd inG12 rfl (by decide) fl_X12_24 (by decide) ht hC (rNo_12 t hC) (by decide) hnl (90) (by have z : t = 86 := rC_uni12 t hC; subst z; exact rf_12_12) kk
theorem p_X12_24 (h : w_Cl l R D cs aS aV A cc nL RX12 "<init>" K) (hd : decode cc pc = .ok (.putfield 24, 3)) (ht : t < n) (hC : rC t = 12) (kk : K ad n (nu nl t 12) ce sl (pc + 3) lv st σ) : K ad n nl ce sl pc lv (.ref (ad (90)) :: .ref (ad t) :: st) σ := r_putR (T := TX12) (N := 84) (k := 12) (co := 12) (Cn := RX12) h hd inG12 tyX12 tyX12_ok nmX12 rfl (by decide) fl_X12_24 (by decide) ht hC (rNo_12 t hC) (by decide) rfl rfl rfl (fun _ => ⟨rfl, rfl⟩) (by have z : t = 86 := rC_uni12 t hC; subst z; exact rf_12_12) kk
set_option maxRecDepth 100000 in
theorem fl_X12_27 : Cond.fieldLink RX12 27 (TX12 13).1 (TX12 13).2.1 (TX12 13).2.2.1 ∈ GT := gt_in6 106 rfl rfl
theorem g_X12_27 (h : w_Cl l R D cs aS aV A cc nL RX12 nm K) (hd : decode cc pc = .ok (.getfield 27, 3)) (ht : t < n) (hC : rC t = 12) (hnl : nl t 13 = true) (kk : K ad n nl ce sl (pc + 3) lv (.ref (ad (91)) :: st) σ) : K ad n nl ce sl pc lv (.ref (ad t) :: st) σ := r_getR (T := TX12) (N := 84) (k := 13) (co := 12) (Cn := RX12) h hd inG12 rfl (by decide) fl_X12_27 (by decide) ht hC (rNo_12 t hC) (by decide) hnl (91) (by have z : t = 86 := rC_uni12 t hC; subst z; exact rf_12_13) kk
theorem p_X12_27 (h : w_Cl l R D cs aS aV A cc nL RX12 "<init>" K) (hd : decode cc pc = .ok (.putfield 27, 3)) (ht : t < n) (hC : rC t = 12) (kk : K ad n (nu nl t 13) ce sl (pc + 3) lv st σ) : K ad n nl ce sl pc lv (.ref (ad (91)) :: .ref (ad t) :: st) σ := r_putR (T := TX12) (N := 84) (k := 13) (co := 12) (Cn := RX12) h hd inG12 tyX12 tyX12_ok nmX12 rfl (by decide) fl_X12_27 (by decide) ht hC (rNo_12 t hC) (by decide) rfl rfl rfl (fun _ => ⟨rfl, rfl⟩) (by have z : t = 86 := rC_uni12 t hC; subst z; exact rf_12_13) kk
set_option maxRecDepth 100000 in
theorem fl_X12_30 : Cond.fieldLink RX12 30 (TX12 14).1 (TX12 14).2.1 (TX12 14).2.2.1 ∈ GT := gt_in6 107 rfl rfl
theorem g_X12_30 (h : w_Cl l R D cs aS aV A cc nL RX12 nm K) (hd : decode cc pc = .ok (.getfield 30, 3)) (ht : t < n) (hC : rC t = 12) (hnl : nl t 14 = true) (kk : K ad n nl ce sl (pc + 3) lv (.ref (ad (92)) :: st) σ) : K ad n nl ce sl pc lv (.ref (ad t) :: st) σ := r_getR (T := TX12) (N := 84) (k := 14) (co := 12) (Cn := RX12) h hd inG12 rfl (by decide) fl_X12_30 (by decide) ht hC (rNo_12 t hC) (by decide) hnl (92) (by have z : t = 86 := rC_uni12 t hC; subst z; exact rf_12_14) kk
theorem p_X12_30 (h : w_Cl l R D cs aS aV A cc nL RX12 "<init>" K) (hd : decode cc pc = .ok (.putfield 30, 3)) (ht : t < n) (hC : rC t = 12) (kk : K ad n (nu nl t 14) ce sl (pc + 3) lv st σ) : K ad n nl ce sl pc lv (.ref (ad (92)) :: .ref (ad t) :: st) σ := r_putR (T := TX12) (N := 84) (k := 14) (co := 12) (Cn := RX12) h hd inG12 tyX12 tyX12_ok nmX12 rfl (by decide) fl_X12_30 (by decide) ht hC (rNo_12 t hC) (by decide) rfl rfl rfl (fun _ => ⟨rfl, rfl⟩) (by have z : t = 86 := rC_uni12 t hC; subst z; exact rf_12_14) kk
set_option maxRecDepth 100000 in
theorem fl_X12_33 : Cond.fieldLink RX12 33 (TX12 15).1 (TX12 15).2.1 (TX12 15).2.2.1 ∈ GT := gt_in6 108 rfl rfl
theorem g_X12_33 (h : w_Cl l R D cs aS aV A cc nL RX12 nm K) (hd : decode cc pc = .ok (.getfield 33, 3)) (ht : t < n) (hC : rC t = 12) (hnl : nl t 15 = true) (kk : K ad n nl ce sl (pc + 3) lv (.ref (ad (93)) :: st) σ) : K ad n nl ce sl pc lv (.ref (ad t) :: st) σ := r_getR (T := TX12) (N := 84) (k := 15) (co := 12) (Cn := RX12) h hd inG12 rfl (by decide) fl_X12_33 (by decide) ht hC (rNo_12 t hC) (by decide) hnl (93) (by have z : t = 86 := rC_uni12 t hC; subst z; exact rf_12_15) kk
theorem p_X12_33 (h : w_Cl l R D cs aS aV A cc nL RX12 "<init>" K) (hd : decode cc pc = .ok (.putfield 33, 3)) (ht : t < n) (hC : rC t = 12) (kk : K ad n (nu nl t 15) ce sl (pc + 3) lv st σ) : K ad n nl ce sl pc lv (.ref (ad (93)) :: .ref (ad t) :: st) σ := r_putR (T := TX12) (N := 84) (k := 15) (co := 12) (Cn := RX12) h hd inG12 tyX12 tyX12_ok nmX12 rfl (by decide) fl_X12_33 (by decide) ht hC (rNo_12 t hC) (by decide) rfl rfl rfl (fun _ => ⟨rfl, rfl⟩) (by have z : t = 86 := rC_uni12 t hC; subst z; exact rf_12_15) kk
set_option maxRecDepth 100000 in
theorem fl_X12_36 : Cond.fieldLink RX12 36 (TX12 16).1 (TX12 16).2.1 (TX12 16).2.2.1 ∈ GT := gt_in6 109 rfl rfl
theorem g_X12_36 (h : w_Cl l R D cs aS aV A cc nL RX12 nm K) (hd : decode cc pc = .ok (.getfield 36, 3)) (ht : t < n) (hC : rC t = 12) (hnl : nl t 16 = true) (kk : K ad n nl ce sl (pc + 3) lv (.ref (ad (94)) :: st) σ) : K ad n nl ce sl pc lv (.ref (ad t) :: st) σ := r_getR (T := TX12) (N := 84) (k := 16) (co := 12) (Cn := RX12) h hd inG12 rfl (by decide) fl_X12_36 (by decide) ht hC (rNo_12 t hC) (by decide) hnl (94) (by have z : t = 86 := rC_uni12 t hC; subst z; exact rf_12_16) kk
theorem p_X12_36 (h : w_Cl l R D cs aS aV A cc nL RX12 "<init>" K) (hd : decode cc pc = .ok (.putfield 36, 3)) (ht : t < n) (hC : rC t = 12) (kk : K ad n (nu nl t 16) ce sl (pc + 3) lv st σ) : K ad n nl ce sl pc lv (.ref (ad (94)) :: .ref (ad t) :: st) σ := r_putR (T := TX12) (N := 84) (k := 16) (co := 12) (Cn := RX12) h hd inG12 tyX12 tyX12_ok nmX12 rfl (by decide) fl_X12_36 (by decide) ht hC (rNo_12 t hC) (by decide) rfl rfl rfl (fun _ => ⟨rfl, rfl⟩) (by have z : t = 86 := rC_uni12 t hC; subst z; exact rf_12_16) kk
set_option maxRecDepth 100000 in
theorem fl_X12_39 : Cond.fieldLink RX12 39 (TX12 17).1 (TX12 17).2.1 (TX12 17).2.2.1 ∈ GT := gt_in6 110 rfl rfl
theorem g_X12_39 (h : w_Cl l R D cs aS aV A cc nL RX12 nm K) (hd : decode cc pc = .ok (.getfield 39, 3)) (ht : t < n) (hC : rC t = 12) (hnl : nl t 17 = true) (kk : K ad n nl ce sl (pc + 3) lv (.ref (ad (95)) :: st) σ) : K ad n nl ce sl pc lv (.ref (ad t) :: st) σ := r_getR (T := TX12) (N := 84) (k := 17) (co := 12) (Cn := RX12) h hd inG12 rfl (by decide) fl_X12_39 (by decide) ht hC (rNo_12 t hC) (by decide) hnl (95) (by have z : t = 86 := rC_uni12 t hC; subst z; exact rf_12_17) kk
theorem p_X12_39 (h : w_Cl l R D cs aS aV A cc nL RX12 "<init>" K) (hd : decode cc pc = .ok (.putfield 39, 3)) (ht : t < n) (hC : rC t = 12) (kk : K ad n (nu nl t 17) ce sl (pc + 3) lv st σ) : K ad n nl ce sl pc lv (.ref (ad (95)) :: .ref (ad t) :: st) σ := r_putR (T := TX12) (N := 84) (k := 17) (co := 12) (Cn := RX12) h hd inG12 tyX12 tyX12_ok nmX12 rfl (by decide) fl_X12_39 (by decide) ht hC (rNo_12 t hC) (by decide) rfl rfl rfl (fun _ => ⟨rfl, rfl⟩) (by have z : t = 86 := rC_uni12 t hC; subst z; exact rf_12_17) kk
set_option maxRecDepth 100000 in
theorem fl_X12_42 : Cond.fieldLink RX12 42 (TX12 18).1 (TX12 18).2.1 (TX12 18).2.2.1 ∈ GT := gt_in6 111 rfl rfl
theorem g_X12_42 (h : w_Cl l R D cs aS aV A cc nL RX12 nm K) (hd : decode cc pc = .ok (.getfield 42, 3)) (ht : t < n) (hC : rC t = 12) (hnl : nl t 18 = true) (kk : K ad n nl ce sl (pc + 3) lv (.ref (ad (96)) :: st) σ) : K ad n nl ce sl pc lv (.ref (ad t) :: st) σ := r_getR (T := TX12) (N := 84) (k := 18) (co := 12) (Cn := RX12) h hd inG12 rfl (by decide) fl_X12_42 (by decide) ht hC (rNo_12 t hC) (by decide) hnl (96) (by have z : t = 86 := rC_uni12 t hC; subst z; exact rf_12_18) kk
theorem p_X12_42 (h : w_Cl l R D cs aS aV A cc nL RX12 "<init>" K) (hd : decode cc pc = .ok (.putfield 42, 3)) (ht : t < n) (hC : rC t = 12) (kk : K ad n (nu nl t 18) ce sl (pc + 3) lv st σ) : K ad n nl ce sl pc lv (.ref (ad (96)) :: .ref (ad t) :: st) σ := r_putR (T := TX12) (N := 84) (k := 18) (co := 12) (Cn := RX12) h hd inG12 tyX12 tyX12_ok nmX12 rfl (by decide) fl_X12_42 (by decide) ht hC (rNo_12 t hC) (by decide) rfl rfl rfl (fun _ => ⟨rfl, rfl⟩) (by have z : t = 86 := rC_uni12 t hC; subst z; exact rf_12_18) kk
set_option maxRecDepth 100000 in
theorem fl_X12_45 : Cond.fieldLink RX12 45 (TX12 19).1 (TX12 19).2.1 (TX12 19).2.2.1 ∈ GT := gt_in6 112 rfl rfl
theorem g_X12_45 (h : w_Cl l R D cs aS aV A cc nL RX12 nm K) (hd : decode cc pc = .ok (.getfield 45, 3)) (ht : t < n) (hC : rC t = 12) (hnl : nl t 19 = true) (kk : K ad n nl ce sl (pc + 3) lv (.ref (ad (97)) :: st) σ) : K ad n nl ce sl pc lv (.ref (ad t) :: st) σ := r_getR (T := TX12) (N := 84) (k := 19) (co := 12) (Cn := RX12) h hd inG12 rfl (by decide) fl_X12_45 (by decide) ht hC (rNo_12 t hC) (by decide) hnl (97) (by have z : t = 86 := rC_uni12 t hC; subst z; exact rf_12_19) kk
theorem p_X12_45 (h : w_Cl l R D cs aS aV A cc nL RX12 "<init>" K) (hd : decode cc pc = .ok (.putfield 45, 3)) (ht : t < n) (hC : rC t = 12) (kk : K ad n (nu nl t 19) ce sl (pc + 3) lv st σ) : K ad n nl ce sl pc lv (.ref (ad (97)) :: .ref (ad t) :: st) σ := r_putR (T := TX12) (N := 84) (k := 19) (co := 12) (Cn := RX12) h hd inG12 tyX12 tyX12_ok nmX12 rfl (by decide) fl_X12_45 (by decide) ht hC (rNo_12 t hC) (by decide) rfl rfl rfl (fun _ => ⟨rfl, rfl⟩) (by have z : t = 86 := rC_uni12 t hC; subst z; exact rf_12_19) kk
set_option maxRecDepth 100000 in
theorem fl_X12_48 : Cond.fieldLink RX12 48 (TX12 20).1 (TX12 20).2.1 (TX12 20).2.2.1 ∈ GT := gt_in6 113 rfl rfl
theorem g_X12_48 (h : w_Cl l R D cs aS aV A cc nL RX12 nm K) (hd : decode cc pc = .ok (.getfield 48, 3)) (ht : t < n) (hC : rC t = 12) (hnl : nl t 20 = true) (kk : K ad n nl ce sl (pc + 3) lv (.ref (ad (98)) :: st) σ) : K ad n nl ce sl pc lv (.ref (ad t) :: st) σ := r_getR (T := TX12) (N := 84) (k := 20) (co := 12) (Cn := RX12) h hd inG12 rfl (by decide) fl_X12_48 (by decide) ht hC (rNo_12 t hC) (by decide) hnl (98) (by have z : t = 86 := rC_uni12 t hC; subst z; exact rf_12_20) kk
theorem p_X12_48 (h : w_Cl l R D cs aS aV A cc nL RX12 "<init>" K) (hd : decode cc pc = .ok (.putfield 48, 3)) (ht : t < n) (hC : rC t = 12) (kk : K ad n (nu nl t 20) ce sl (pc + 3) lv st σ) : K ad n nl ce sl pc lv (.ref (ad (98)) :: .ref (ad t) :: st) σ := r_putR (T := TX12) (N := 84) (k := 20) (co := 12) (Cn := RX12) h hd inG12 tyX12 tyX12_ok nmX12 rfl (by decide) fl_X12_48 (by decide) ht hC (rNo_12 t hC) (by decide) rfl rfl rfl (fun _ => ⟨rfl, rfl⟩) (by have z : t = 86 := rC_uni12 t hC; subst z; exact rf_12_20) kk
set_option maxRecDepth 100000 in
theorem fl_X12_51 : Cond.fieldLink RX12 51 (TX12 21).1 (TX12 21).2.1 (TX12 21).2.2.1 ∈ GT := gt_in6 114 rfl rfl
theorem g_X12_51 (h : w_Cl l R D cs aS aV A cc nL RX12 nm K) (hd : decode cc pc = .ok (.getfield 51, 3)) (ht : t < n) (hC : rC t = 12) (hnl : nl t 21 = true) (kk : K ad n nl ce sl (pc + 3) lv (.ref (ad (99)) :: st) σ) : K ad n nl ce sl pc lv (.ref (ad t) :: st) σ := r_getR (T := TX12) (N := 84) (k := 21) (co := 12) (Cn := RX12) h hd inG12 rfl (by decide) fl_X12_51 (by decide) ht hC (rNo_12 t hC) (by decide) hnl (99) (by have z : t = 86 := rC_uni12 t hC; subst z; exact rf_12_21) kk
theorem p_X12_51 (h : w_Cl l R D cs aS aV A cc nL RX12 "<init>" K) (hd : decode cc pc = .ok (.putfield 51, 3)) (ht : t < n) (hC : rC t = 12) (kk : K ad n (nu nl t 21) ce sl (pc + 3) lv st σ) : K ad n nl ce sl pc lv (.ref (ad (99)) :: .ref (ad t) :: st) σ := r_putR (T := TX12) (N := 84) (k := 21) (co := 12) (Cn := RX12) h hd inG12 tyX12 tyX12_ok nmX12 rfl (by decide) fl_X12_51 (by decide) ht hC (rNo_12 t hC) (by decide) rfl rfl rfl (fun _ => ⟨rfl, rfl⟩) (by have z : t = 86 := rC_uni12 t hC; subst z; exact rf_12_21) kk
set_option maxRecDepth 100000 in
theorem fl_X12_54 : Cond.fieldLink RX12 54 (TX12 22).1 (TX12 22).2.1 (TX12 22).2.2.1 ∈ GT := gt_in6 115 rfl rfl
theorem g_X12_54 (h : w_Cl l R D cs aS aV A cc nL RX12 nm K) (hd : decode cc pc = .ok (.getfield 54, 3)) (ht : t < n) (hC : rC t = 12) (hnl : nl t 22 = true) (kk : K ad n nl ce sl (pc + 3) lv (.ref (ad (100)) :: st) σ) : K ad n nl ce sl pc lv (.ref (ad t) :: st) σ := r_getR (T := TX12) (N := 84) (k := 22) (co := 12) (Cn := RX12) h hd inG12 rfl (by decide) fl_X12_54 (by decide) ht hC (rNo_12 t hC) (by decide) hnl (100) (by have z : t = 86 := rC_uni12 t hC; subst z; exact rf_12_22) kk
theorem p_X12_54 (h : w_Cl l R D cs aS aV A cc nL RX12 "<init>" K) (hd : decode cc pc = .ok (.putfield 54, 3)) (ht : t < n) (hC : rC t = 12) (kk : K ad n (nu nl t 22) ce sl (pc + 3) lv st σ) : K ad n nl ce sl pc lv (.ref (ad (100)) :: .ref (ad t) :: st) σ := r_putR (T := TX12) (N := 84) (k := 22) (co := 12) (Cn := RX12) h hd inG12 tyX12 tyX12_ok nmX12 rfl (by decide) fl_X12_54 (by decide) ht hC (rNo_12 t hC) (by decide) rfl rfl rfl (fun _ => ⟨rfl, rfl⟩) (by have z : t = 86 := rC_uni12 t hC; subst z; exact rf_12_22) kk
set_option maxRecDepth 100000 in
theorem fl_X12_57 : Cond.fieldLink RX12 57 (TX12 23).1 (TX12 23).2.1 (TX12 23).2.2.1 ∈ GT := gt_in6 116 rfl rfl
theorem g_X12_57 (h : w_Cl l R D cs aS aV A cc nL RX12 nm K) (hd : decode cc pc = .ok (.getfield 57, 3)) (ht : t < n) (hC : rC t = 12) (hnl : nl t 23 = true) (kk : K ad n nl ce sl (pc + 3) lv (.ref (ad (101)) :: st) σ) : K ad n nl ce sl pc lv (.ref (ad t) :: st) σ := r_getR (T := TX12) (N := 84) (k := 23) (co := 12) (Cn := RX12) h hd inG12 rfl (by decide) fl_X12_57 (by decide) ht hC (rNo_12 t hC) (by decide) hnl (101) (by have z : t = 86 := rC_uni12 t hC; subst z; exact rf_12_23) kk
theorem p_X12_57 (h : w_Cl l R D cs aS aV A cc nL RX12 "<init>" K) (hd : decode cc pc = .ok (.putfield 57, 3)) (ht : t < n) (hC : rC t = 12) (kk : K ad n (nu nl t 23) ce sl (pc + 3) lv st σ) : K ad n nl ce sl pc lv (.ref (ad (101)) :: .ref (ad t) :: st) σ := r_putR (T := TX12) (N := 84) (k := 23) (co := 12) (Cn := RX12) h hd inG12 tyX12 tyX12_ok nmX12 rfl (by decide) fl_X12_57 (by decide) ht hC (rNo_12 t hC) (by decide) rfl rfl rfl (fun _ => ⟨rfl, rfl⟩) (by have z : t = 86 := rC_uni12 t hC; subst z; exact rf_12_23) kk
set_option maxRecDepth 100000 in
theorem fl_X12_60 : Cond.fieldLink RX12 60 (TX12 24).1 (TX12 24).2.1 (TX12 24).2.2.1 ∈ GT := gt_in6 117 rfl rfl
theorem g_X12_60 (h : w_Cl l R D cs aS aV A cc nL RX12 nm K) (hd : decode cc pc = .ok (.getfield 60, 3)) (ht : t < n) (hC : rC t = 12) (hnl : nl t 24 = true) (kk : K ad n nl ce sl (pc + 3) lv (.ref (ad (102)) :: st) σ) : K ad n nl ce sl pc lv (.ref (ad t) :: st) σ := r_getR (T := TX12) (N := 84) (k := 24) (co := 12) (Cn := RX12) h hd inG12 rfl (by decide) fl_X12_60 (by decide) ht hC (rNo_12 t hC) (by decide) hnl (102) (by have z : t = 86 := rC_uni12 t hC; subst z; exact rf_12_24) kk
theorem p_X12_60 (h : w_Cl l R D cs aS aV A cc nL RX12 "<init>" K) (hd : decode cc pc = .ok (.putfield 60, 3)) (ht : t < n) (hC : rC t = 12) (kk : K ad n (nu nl t 24) ce sl (pc + 3) lv st σ) : K ad n nl ce sl pc lv (.ref (ad (102)) :: .ref (ad t) :: st) σ := r_putR (T := TX12) (N := 84) (k := 24) (co := 12) (Cn := RX12) h hd inG12 tyX12 tyX12_ok nmX12 rfl (by decide) fl_X12_60 (by decide) ht hC (rNo_12 t hC) (by decide) rfl rfl rfl (fun _ => ⟨rfl, rfl⟩) (by have z : t = 86 := rC_uni12 t hC; subst z; exact rf_12_24) kk
set_option maxRecDepth 100000 in
theorem fl_X12_63 : Cond.fieldLink RX12 63 (TX12 25).1 (TX12 25).2.1 (TX12 25).2.2.1 ∈ GT := gt_in6 118 rfl rfl
theorem g_X12_63 (h : w_Cl l R D cs aS aV A cc nL RX12 nm K) (hd : decode cc pc = .ok (.getfield 63, 3)) (ht : t < n) (hC : rC t = 12) (hnl : nl t 25 = true) (kk : K ad n nl ce sl (pc + 3) lv (.ref (ad (103)) :: st) σ) : K ad n nl ce sl pc lv (.ref (ad t) :: st) σ := r_getR (T := TX12) (N := 84) (k := 25) (co := 12) (Cn := RX12) h hd inG12 rfl (by decide) fl_X12_63 (by decide) ht hC (rNo_12 t hC) (by decide) hnl (103) (by have z : t = 86 := rC_uni12 t hC; subst z; exact rf_12_25) kk
theorem p_X12_63 (h : w_Cl l R D cs aS aV A cc nL RX12 "<init>" K) (hd : decode cc pc = .ok (.putfield 63, 3)) (ht : t < n) (hC : rC t = 12) (kk : K ad n (nu nl t 25) ce sl (pc + 3) lv st σ) : K ad n nl ce sl pc lv (.ref (ad (103)) :: .ref (ad t) :: st) σ := r_putR (T := TX12) (N := 84) (k := 25) (co := 12) (Cn := RX12) h hd inG12 tyX12 tyX12_ok nmX12 rfl (by decide) fl_X12_63 (by decide) ht hC (rNo_12 t hC) (by decide) rfl rfl rfl (fun _ => ⟨rfl, rfl⟩) (by have z : t = 86 := rC_uni12 t hC; subst z; exact rf_12_25) kk
set_option maxRecDepth 100000 in
theorem fl_X12_66 : Cond.fieldLink RX12 66 (TX12 26).1 (TX12 26).2.1 (TX12 26).2.2.1 ∈ GT := gt_in6 119 rfl rfl
theorem g_X12_66 (h : w_Cl l R D cs aS aV A cc nL RX12 nm K) (hd : decode cc pc = .ok (.getfield 66, 3)) (ht : t < n) (hC : rC t = 12) (hnl : nl t 26 = true) (kk : K ad n nl ce sl (pc + 3) lv (.ref (ad (104)) :: st) σ) : K ad n nl ce sl pc lv (.ref (ad t) :: st) σ := r_getR (T := TX12) (N := 84) (k := 26) (co := 12) (Cn := RX12) h hd inG12 rfl (by decide) fl_X12_66 (by decide) ht hC (rNo_12 t hC) (by decide) hnl (104) (by have z : t = 86 := rC_uni12 t hC; subst z; exact rf_12_26) kk
theorem p_X12_66 (h : w_Cl l R D cs aS aV A cc nL RX12 "<init>" K) (hd : decode cc pc = .ok (.putfield 66, 3)) (ht : t < n) (hC : rC t = 12) (kk : K ad n (nu nl t 26) ce sl (pc + 3) lv st σ) : K ad n nl ce sl pc lv (.ref (ad (104)) :: .ref (ad t) :: st) σ := r_putR (T := TX12) (N := 84) (k := 26) (co := 12) (Cn := RX12) h hd inG12 tyX12 tyX12_ok nmX12 rfl (by decide) fl_X12_66 (by decide) ht hC (rNo_12 t hC) (by decide) rfl rfl rfl (fun _ => ⟨rfl, rfl⟩) (by have z : t = 86 := rC_uni12 t hC; subst z; exact rf_12_26) kk
set_option maxRecDepth 100000 in
theorem fl_X12_69 : Cond.fieldLink RX12 69 (TX12 27).1 (TX12 27).2.1 (TX12 27).2.2.1 ∈ GT := gt_in6 120 rfl rfl
theorem g_X12_69 (h : w_Cl l R D cs aS aV A cc nL RX12 nm K) (hd : decode cc pc = .ok (.getfield 69, 3)) (ht : t < n) (hC : rC t = 12) (hnl : nl t 27 = true) (kk : K ad n nl ce sl (pc + 3) lv (.ref (ad (105)) :: st) σ) : K ad n nl ce sl pc lv (.ref (ad t) :: st) σ := r_getR (T := TX12) (N := 84) (k := 27) (co := 12) (Cn := RX12) h hd inG12 rfl (by decide) fl_X12_69 (by decide) ht hC (rNo_12 t hC) (by decide) hnl (105) (by have z : t = 86 := rC_uni12 t hC; subst z; exact rf_12_27) kk
theorem p_X12_69 (h : w_Cl l R D cs aS aV A cc nL RX12 "<init>" K) (hd : decode cc pc = .ok (.putfield 69, 3)) (ht : t < n) (hC : rC t = 12) (kk : K ad n (nu nl t 27) ce sl (pc + 3) lv st σ) : K ad n nl ce sl pc lv (.ref (ad (105)) :: .ref (ad t) :: st) σ := r_putR (T := TX12) (N := 84) (k := 27) (co := 12) (Cn := RX12) h hd inG12 tyX12 tyX12_ok nmX12 rfl (by decide) fl_X12_69 (by decide) ht hC (rNo_12 t hC) (by decide) rfl rfl rfl (fun _ => ⟨rfl, rfl⟩) (by have z : t = 86 := rC_uni12 t hC; subst z; exact rf_12_27) kk
set_option maxRecDepth 100000 in
theorem fl_X12_72 : Cond.fieldLink RX12 72 (TX12 28).1 (TX12 28).2.1 (TX12 28).2.2.1 ∈ GT := gt_in6 121 rfl rfl
theorem g_X12_72 (h : w_Cl l R D cs aS aV A cc nL RX12 nm K) (hd : decode cc pc = .ok (.getfield 72, 3)) (ht : t < n) (hC : rC t = 12) (hnl : nl t 28 = true) (kk : K ad n nl ce sl (pc + 3) lv (.ref (ad (106)) :: st) σ) : K ad n nl ce sl pc lv (.ref (ad t) :: st) σ := r_getR (T := TX12) (N := 84) (k := 28) (co := 12) (Cn := RX12) h hd inG12 rfl (by decide) fl_X12_72 (by decide) ht hC (rNo_12 t hC) (by decide) hnl (106) (by have z : t = 86 := rC_uni12 t hC; subst z; exact rf_12_28) kk
theorem p_X12_72 (h : w_Cl l R D cs aS aV A cc nL RX12 "<init>" K) (hd : decode cc pc = .ok (.putfield 72, 3)) (ht : t < n) (hC : rC t = 12) (kk : K ad n (nu nl t 28) ce sl (pc + 3) lv st σ) : K ad n nl ce sl pc lv (.ref (ad (106)) :: .ref (ad t) :: st) σ := r_putR (T := TX12) (N := 84) (k := 28) (co := 12) (Cn := RX12) h hd inG12 tyX12 tyX12_ok nmX12 rfl (by decide) fl_X12_72 (by decide) ht hC (rNo_12 t hC) (by decide) rfl rfl rfl (fun _ => ⟨rfl, rfl⟩) (by have z : t = 86 := rC_uni12 t hC; subst z; exact rf_12_28) kk
set_option maxRecDepth 100000 in
theorem fl_X12_75 : Cond.fieldLink RX12 75 (TX12 29).1 (TX12 29).2.1 (TX12 29).2.2.1 ∈ GT := gt_in6 122 rfl rfl
theorem g_X12_75 (h : w_Cl l R D cs aS aV A cc nL RX12 nm K) (hd : decode cc pc = .ok (.getfield 75, 3)) (ht : t < n) (hC : rC t = 12) (hnl : nl t 29 = true) (kk : K ad n nl ce sl (pc + 3) lv (.ref (ad (107)) :: st) σ) : K ad n nl ce sl pc lv (.ref (ad t) :: st) σ := r_getR (T := TX12) (N := 84) (k := 29) (co := 12) (Cn := RX12) h hd inG12 rfl (by decide) fl_X12_75 (by decide) ht hC (rNo_12 t hC) (by decide) hnl (107) (by have z : t = 86 := rC_uni12 t hC; subst z; exact rf_12_29) kk
theorem p_X12_75 (h : w_Cl l R D cs aS aV A cc nL RX12 "<init>" K) (hd : decode cc pc = .ok (.putfield 75, 3)) (ht : t < n) (hC : rC t = 12) (kk : K ad n (nu nl t 29) ce sl (pc + 3) lv st σ) : K ad n nl ce sl pc lv (.ref (ad (107)) :: .ref (ad t) :: st) σ := r_putR (T := TX12) (N := 84) (k := 29) (co := 12) (Cn := RX12) h hd inG12 tyX12 tyX12_ok nmX12 rfl (by decide) fl_X12_75 (by decide) ht hC (rNo_12 t hC) (by decide) rfl rfl rfl (fun _ => ⟨rfl, rfl⟩) (by have z : t = 86 := rC_uni12 t hC; subst z; exact rf_12_29) kk
set_option maxRecDepth 100000 in
theorem fl_X12_78 : Cond.fieldLink RX12 78 (TX12 30).1 (TX12 30).2.1 (TX12 30).2.2.1 ∈ GT := gt_in6 123 rfl rfl
theorem g_X12_78 (h : w_Cl l R D cs aS aV A cc nL RX12 nm K) (hd : decode cc pc = .ok (.getfield 78, 3)) (ht : t < n) (hC : rC t = 12) (hnl : nl t 30 = true) (kk : K ad n nl ce sl (pc + 3) lv (.ref (ad (108)) :: st) σ) : K ad n nl ce sl pc lv (.ref (ad t) :: st) σ := r_getR (T := TX12) (N := 84) (k := 30) (co := 12) (Cn := RX12) h hd inG12 rfl (by decide) fl_X12_78 (by decide) ht hC (rNo_12 t hC) (by decide) hnl (108) (by have z : t = 86 := rC_uni12 t hC; subst z; exact rf_12_30) kk
theorem p_X12_78 (h : w_Cl l R D cs aS aV A cc nL RX12 "<init>" K) (hd : decode cc pc = .ok (.putfield 78, 3)) (ht : t < n) (hC : rC t = 12) (kk : K ad n (nu nl t 30) ce sl (pc + 3) lv st σ) : K ad n nl ce sl pc lv (.ref (ad (108)) :: .ref (ad t) :: st) σ := r_putR (T := TX12) (N := 84) (k := 30) (co := 12) (Cn := RX12) h hd inG12 tyX12 tyX12_ok nmX12 rfl (by decide) fl_X12_78 (by decide) ht hC (rNo_12 t hC) (by decide) rfl rfl rfl (fun _ => ⟨rfl, rfl⟩) (by have z : t = 86 := rC_uni12 t hC; subst z; exact rf_12_30) kk
set_option maxRecDepth 100000 in
theorem fl_X12_82 : Cond.fieldLink RX12 82 (TX12 31).1 (TX12 31).2.1 (TX12 31).2.2.1 ∈ GT := gt_in6 124 rfl rfl
theorem g_X12_82 (h : w_Cl l R D cs aS aV A cc nL RX12 nm K) (hd : decode cc pc = .ok (.getfield 82, 3)) (ht : t < n) (hC : rC t = 12) (hnl : nl t 31 = true) (kk : K ad n nl ce sl (pc + 3) lv (.ref (ad (109)) :: st) σ) : K ad n nl ce sl pc lv (.ref (ad t) :: st) σ := r_getR (T := TX12) (N := 84) (k := 31) (co := 12) (Cn := RX12) h hd inG12 rfl (by decide) fl_X12_82 (by decide) ht hC (rNo_12 t hC) (by decide) hnl (109) (by have z : t = 86 := rC_uni12 t hC; subst z; exact rf_12_31) kk
theorem p_X12_82 (h : w_Cl l R D cs aS aV A cc nL RX12 "<init>" K) (hd : decode cc pc = .ok (.putfield 82, 3)) (ht : t < n) (hC : rC t = 12) (kk : K ad n (nu nl t 31) ce sl (pc + 3) lv st σ) : K ad n nl ce sl pc lv (.ref (ad (109)) :: .ref (ad t) :: st) σ := r_putR (T := TX12) (N := 84) (k := 31) (co := 12) (Cn := RX12) h hd inG12 tyX12 tyX12_ok nmX12 rfl (by decide) fl_X12_82 (by decide) ht hC (rNo_12 t hC) (by decide) rfl rfl rfl (fun _ => ⟨rfl, rfl⟩) (by have z : t = 86 := rC_uni12 t hC; subst z; exact rf_12_31) kk
set_option maxRecDepth 100000 in
theorem fl_X12_85 : Cond.fieldLink RX12 85 (TX12 32).1 (TX12 32).2.1 (TX12 32).2.2.1 ∈ GT := gt_in6 125 rfl rfl
theorem g_X12_85 (h : w_Cl l R D cs aS aV A cc nL RX12 nm K) (hd : decode cc pc = .ok (.getfield 85, 3)) (ht : t < n) (hC : rC t = 12) (hnl : nl t 32 = true) (kk : K ad n nl ce sl (pc + 3) lv (.ref (ad (110)) :: st) σ) : K ad n nl ce sl pc lv (.ref (ad t) :: st) σ := r_getR (T := TX12) (N := 84) (k := 32) (co := 12) (Cn := RX12) h hd inG12 rfl (by decide) fl_X12_85 (by decide) ht hC (rNo_12 t hC) (by decide) hnl (110) (by have z : t = 86 := rC_uni12 t hC; subst z; exact rf_12_32) kk
theorem p_X12_85 (h : w_Cl l R D cs aS aV A cc nL RX12 "<init>" K) (hd : decode cc pc = .ok (.putfield 85, 3)) (ht : t < n) (hC : rC t = 12) (kk : K ad n (nu nl t 32) ce sl (pc + 3) lv st σ) : K ad n nl ce sl pc lv (.ref (ad (110)) :: .ref (ad t) :: st) σ := r_putR (T := TX12) (N := 84) (k := 32) (co := 12) (Cn := RX12) h hd inG12 tyX12 tyX12_ok nmX12 rfl (by decide) fl_X12_85 (by decide) ht hC (rNo_12 t hC) (by decide) rfl rfl rfl (fun _ => ⟨rfl, rfl⟩) (by have z : t = 86 := rC_uni12 t hC; subst z; exact rf_12_32) kk
set_option maxRecDepth 100000 in
theorem fl_X12_89 : Cond.fieldLink RX12 89 (TX12 33).1 (TX12 33).2.1 (TX12 33).2.2.1 ∈ GT := gt_in6 126 rfl rfl
theorem g_X12_89 (h : w_Cl l R D cs aS aV A cc nL RX12 nm K) (hd : decode cc pc = .ok (.getfield 89, 3)) (ht : t < n) (hC : rC t = 12) (hnl : nl t 33 = true) (kk : K ad n nl ce sl (pc + 3) lv (.ref (ad (111)) :: st) σ) : K ad n nl ce sl pc lv (.ref (ad t) :: st) σ := r_getR (T := TX12) (N := 84) (k := 33) (co := 12) (Cn := RX12) h hd inG12 rfl (by decide) fl_X12_89 (by decide) ht hC (rNo_12 t hC) (by decide) hnl (111) (by have z : t = 86 := rC_uni12 t hC; subst z; exact rf_12_33) kk
theorem p_X12_89 (h : w_Cl l R D cs aS aV A cc nL RX12 "<init>" K) (hd : decode cc pc = .ok (.putfield 89, 3)) (ht : t < n) (hC : rC t = 12) (kk : K ad n (nu nl t 33) ce sl (pc + 3) lv st σ) : K ad n nl ce sl pc lv (.ref (ad (111)) :: .ref (ad t) :: st) σ := r_putR (T := TX12) (N := 84) (k := 33) (co := 12) (Cn := RX12) h hd inG12 tyX12 tyX12_ok nmX12 rfl (by decide) fl_X12_89 (by decide) ht hC (rNo_12 t hC) (by decide) rfl rfl rfl (fun _ => ⟨rfl, rfl⟩) (by have z : t = 86 := rC_uni12 t hC; subst z; exact rf_12_33) kk
set_option maxRecDepth 100000 in
theorem fl_X12_92 : Cond.fieldLink RX12 92 (TX12 34).1 (TX12 34).2.1 (TX12 34).2.2.1 ∈ GT := gt_in6 127 rfl rfl
theorem g_X12_92 (h : w_Cl l R D cs aS aV A cc nL RX12 nm K) (hd : decode cc pc = .ok (.getfield 92, 3)) (ht : t < n) (hC : rC t = 12) (hnl : nl t 34 = true) (kk : K ad n nl ce sl (pc + 3) lv (.ref (ad (112)) :: st) σ) : K ad n nl ce sl pc lv (.ref (ad t) :: st) σ := r_getR (T := TX12) (N := 84) (k := 34) (co := 12) (Cn := RX12) h hd inG12 rfl (by decide) fl_X12_92 (by decide) ht hC (rNo_12 t hC) (by decide) hnl (112) (by have z : t = 86 := rC_uni12 t hC; subst z; exact rf_12_34) kk
theorem p_X12_92 (h : w_Cl l R D cs aS aV A cc nL RX12 "<init>" K) (hd : decode cc pc = .ok (.putfield 92, 3)) (ht : t < n) (hC : rC t = 12) (kk : K ad n (nu nl t 34) ce sl (pc + 3) lv st σ) : K ad n nl ce sl pc lv (.ref (ad (112)) :: .ref (ad t) :: st) σ := r_putR (T := TX12) (N := 84) (k := 34) (co := 12) (Cn := RX12) h hd inG12 tyX12 tyX12_ok nmX12 rfl (by decide) fl_X12_92 (by decide) ht hC (rNo_12 t hC) (by decide) rfl rfl rfl (fun _ => ⟨rfl, rfl⟩) (by have z : t = 86 := rC_uni12 t hC; subst z; exact rf_12_34) kk
set_option maxRecDepth 100000 in
theorem fl_X12_95 : Cond.fieldLink RX12 95 (TX12 35).1 (TX12 35).2.1 (TX12 35).2.2.1 ∈ GT := gt_in6 128 rfl rfl
theorem g_X12_95 (h : w_Cl l R D cs aS aV A cc nL RX12 nm K) (hd : decode cc pc = .ok (.getfield 95, 3)) (ht : t < n) (hC : rC t = 12) (hnl : nl t 35 = true) (kk : K ad n nl ce sl (pc + 3) lv (.ref (ad (113)) :: st) σ) : K ad n nl ce sl pc lv (.ref (ad t) :: st) σ := r_getR (T := TX12) (N := 84) (k := 35) (co := 12) (Cn := RX12) h hd inG12 rfl (by decide) fl_X12_95 (by decide) ht hC (rNo_12 t hC) (by decide) hnl (113) (by have z : t = 86 := rC_uni12 t hC; subst z; exact rf_12_35) kk
theorem p_X12_95 (h : w_Cl l R D cs aS aV A cc nL RX12 "<init>" K) (hd : decode cc pc = .ok (.putfield 95, 3)) (ht : t < n) (hC : rC t = 12) (kk : K ad n (nu nl t 35) ce sl (pc + 3) lv st σ) : K ad n nl ce sl pc lv (.ref (ad (113)) :: .ref (ad t) :: st) σ := r_putR (T := TX12) (N := 84) (k := 35) (co := 12) (Cn := RX12) h hd inG12 tyX12 tyX12_ok nmX12 rfl (by decide) fl_X12_95 (by decide) ht hC (rNo_12 t hC) (by decide) rfl rfl rfl (fun _ => ⟨rfl, rfl⟩) (by have z : t = 86 := rC_uni12 t hC; subst z; exact rf_12_35) kk
set_option maxRecDepth 100000 in
theorem fl_X12_98 : Cond.fieldLink RX12 98 (TX12 36).1 (TX12 36).2.1 (TX12 36).2.2.1 ∈ GT := gt_in6 129 rfl rfl
theorem g_X12_98 (h : w_Cl l R D cs aS aV A cc nL RX12 nm K) (hd : decode cc pc = .ok (.getfield 98, 3)) (ht : t < n) (hC : rC t = 12) (hnl : nl t 36 = true) (kk : K ad n nl ce sl (pc + 3) lv (.ref (ad (114)) :: st) σ) : K ad n nl ce sl pc lv (.ref (ad t) :: st) σ := r_getR (T := TX12) (N := 84) (k := 36) (co := 12) (Cn := RX12) h hd inG12 rfl (by decide) fl_X12_98 (by decide) ht hC (rNo_12 t hC) (by decide) hnl (114) (by have z : t = 86 := rC_uni12 t hC; subst z; exact rf_12_36) kk
theorem p_X12_98 (h : w_Cl l R D cs aS aV A cc nL RX12 "<init>" K) (hd : decode cc pc = .ok (.putfield 98, 3)) (ht : t < n) (hC : rC t = 12) (kk : K ad n (nu nl t 36) ce sl (pc + 3) lv st σ) : K ad n nl ce sl pc lv (.ref (ad (114)) :: .ref (ad t) :: st) σ := r_putR (T := TX12) (N := 84) (k := 36) (co := 12) (Cn := RX12) h hd inG12 tyX12 tyX12_ok nmX12 rfl (by decide) fl_X12_98 (by decide) ht hC (rNo_12 t hC) (by decide) rfl rfl rfl (fun _ => ⟨rfl, rfl⟩) (by have z : t = 86 := rC_uni12 t hC; subst z; exact rf_12_36) kk
set_option maxRecDepth 100000 in
theorem fl_X12_101 : Cond.fieldLink RX12 101 (TX12 37).1 (TX12 37).2.1 (TX12 37).2.2.1 ∈ GT := gt_in6 130 rfl rfl
theorem g_X12_101 (h : w_Cl l R D cs aS aV A cc nL RX12 nm K) (hd : decode cc pc = .ok (.getfield 101, 3)) (ht : t < n) (hC : rC t = 12) (hnl : nl t 37 = true) (kk : K ad n nl ce sl (pc + 3) lv (.ref (ad (115)) :: st) σ) : K ad n nl ce sl pc lv (.ref (ad t) :: st) σ := r_getR (T := TX12) (N := 84) (k := 37) (co := 12) (Cn := RX12) h hd inG12 rfl (by decide) fl_X12_101 (by decide) ht hC (rNo_12 t hC) (by decide) hnl (115) (by have z : t = 86 := rC_uni12 t hC; subst z; exact rf_12_37) kk
theorem p_X12_101 (h : w_Cl l R D cs aS aV A cc nL RX12 "<init>" K) (hd : decode cc pc = .ok (.putfield 101, 3)) (ht : t < n) (hC : rC t = 12) (kk : K ad n (nu nl t 37) ce sl (pc + 3) lv st σ) : K ad n nl ce sl pc lv (.ref (ad (115)) :: .ref (ad t) :: st) σ := r_putR (T := TX12) (N := 84) (k := 37) (co := 12) (Cn := RX12) h hd inG12 tyX12 tyX12_ok nmX12 rfl (by decide) fl_X12_101 (by decide) ht hC (rNo_12 t hC) (by decide) rfl rfl rfl (fun _ => ⟨rfl, rfl⟩) (by have z : t = 86 := rC_uni12 t hC; subst z; exact rf_12_37) kk
set_option maxRecDepth 100000 in
theorem fl_X12_104 : Cond.fieldLink RX12 104 (TX12 38).1 (TX12 38).2.1 (TX12 38).2.2.1 ∈ GT := gt_in6 131 rfl rfl
theorem g_X12_104 (h : w_Cl l R D cs aS aV A cc nL RX12 nm K) (hd : decode cc pc = .ok (.getfield 104, 3)) (ht : t < n) (hC : rC t = 12) (hnl : nl t 38 = true) (kk : K ad n nl ce sl (pc + 3) lv (.ref (ad (116)) :: st) σ) : K ad n nl ce sl pc lv (.ref (ad t) :: st) σ := r_getR (T := TX12) (N := 84) (k := 38) (co := 12) (Cn := RX12) h hd inG12 rfl (by decide) fl_X12_104 (by decide) ht hC (rNo_12 t hC) (by decide) hnl (116) (by have z : t = 86 := rC_uni12 t hC; subst z; exact rf_12_38) kk
theorem p_X12_104 (h : w_Cl l R D cs aS aV A cc nL RX12 "<init>" K) (hd : decode cc pc = .ok (.putfield 104, 3)) (ht : t < n) (hC : rC t = 12) (kk : K ad n (nu nl t 38) ce sl (pc + 3) lv st σ) : K ad n nl ce sl pc lv (.ref (ad (116)) :: .ref (ad t) :: st) σ := r_putR (T := TX12) (N := 84) (k := 38) (co := 12) (Cn := RX12) h hd inG12 tyX12 tyX12_ok nmX12 rfl (by decide) fl_X12_104 (by decide) ht hC (rNo_12 t hC) (by decide) rfl rfl rfl (fun _ => ⟨rfl, rfl⟩) (by have z : t = 86 := rC_uni12 t hC; subst z; exact rf_12_38) kk
set_option maxRecDepth 100000 in
theorem fl_X12_107 : Cond.fieldLink RX12 107 (TX12 39).1 (TX12 39).2.1 (TX12 39).2.2.1 ∈ GT := gt_in6 132 rfl rfl
theorem g_X12_107 (h : w_Cl l R D cs aS aV A cc nL RX12 nm K) (hd : decode cc pc = .ok (.getfield 107, 3)) (ht : t < n) (hC : rC t = 12) (hnl : nl t 39 = true) (kk : K ad n nl ce sl (pc + 3) lv (.ref (ad (117)) :: st) σ) : K ad n nl ce sl pc lv (.ref (ad t) :: st) σ := r_getR (T := TX12) (N := 84) (k := 39) (co := 12) (Cn := RX12) h hd inG12 rfl (by decide) fl_X12_107 (by decide) ht hC (rNo_12 t hC) (by decide) hnl (117) (by have z : t = 86 := rC_uni12 t hC; subst z; exact rf_12_39) kk
theorem p_X12_107 (h : w_Cl l R D cs aS aV A cc nL RX12 "<init>" K) (hd : decode cc pc = .ok (.putfield 107, 3)) (ht : t < n) (hC : rC t = 12) (kk : K ad n (nu nl t 39) ce sl (pc + 3) lv st σ) : K ad n nl ce sl pc lv (.ref (ad (117)) :: .ref (ad t) :: st) σ := r_putR (T := TX12) (N := 84) (k := 39) (co := 12) (Cn := RX12) h hd inG12 tyX12 tyX12_ok nmX12 rfl (by decide) fl_X12_107 (by decide) ht hC (rNo_12 t hC) (by decide) rfl rfl rfl (fun _ => ⟨rfl, rfl⟩) (by have z : t = 86 := rC_uni12 t hC; subst z; exact rf_12_39) kk
set_option maxRecDepth 100000 in
theorem fl_X12_110 : Cond.fieldLink RX12 110 (TX12 52).1 (TX12 52).2.1 (TX12 52).2.2.1 ∈ GT := gt_in6 145 rfl rfl
theorem g_X12_110 (h : w_Cl l R D cs aS aV A cc nL RX12 nm K) (hd : decode cc pc = .ok (.getfield 110, 3)) (ht : t < n) (hC : rC t = 12) (hnl : nl t 52 = true) (kk : K ad n nl ce sl (pc + 3) lv (.ref (ad (118)) :: st) σ) : K ad n nl ce sl pc lv (.ref (ad t) :: st) σ := r_getR (T := TX12) (N := 84) (k := 52) (co := 12) (Cn := RX12) h hd inG12 rfl (by decide) fl_X12_110 (by decide) ht hC (rNo_12 t hC) (by decide) hnl (118) (by have z : t = 86 := rC_uni12 t hC; subst z; exact rf_12_52) kk
theorem p_X12_110 (h : w_Cl l R D cs aS aV A cc nL RX12 "<init>" K) (hd : decode cc pc = .ok (.putfield 110, 3)) (ht : t < n) (hC : rC t = 12) (kk : K ad n (nu nl t 52) ce sl (pc + 3) lv st σ) : K ad n nl ce sl pc lv (.ref (ad (118)) :: .ref (ad t) :: st) σ := r_putR (T := TX12) (N := 84) (k := 52) (co := 12) (Cn := RX12) h hd inG12 tyX12 tyX12_ok nmX12 rfl (by decide) fl_X12_110 (by decide) ht hC (rNo_12 t hC) (by decide) rfl rfl rfl (fun _ => ⟨rfl, rfl⟩) (by have z : t = 86 := rC_uni12 t hC; subst z; exact rf_12_52) kk
set_option maxRecDepth 100000 in
theorem fl_X12_113 : Cond.fieldLink RX12 113 (TX12 53).1 (TX12 53).2.1 (TX12 53).2.2.1 ∈ GT := gt_in6 146 rfl rfl
theorem g_X12_113 (h : w_Cl l R D cs aS aV A cc nL RX12 nm K) (hd : decode cc pc = .ok (.getfield 113, 3)) (ht : t < n) (hC : rC t = 12) (hnl : nl t 53 = true) (kk : K ad n nl ce sl (pc + 3) lv (.ref (ad (119)) :: st) σ) : K ad n nl ce sl pc lv (.ref (ad t) :: st) σ := r_getR (T := TX12) (N := 84) (k := 53) (co := 12) (Cn := RX12) h hd inG12 rfl (by decide) fl_X12_113 (by decide) ht hC (rNo_12 t hC) (by decide) hnl (119) (by have z : t = 86 := rC_uni12 t hC; subst z; exact rf_12_53) kk
theorem p_X12_113 (h : w_Cl l R D cs aS aV A cc nL RX12 "<init>" K) (hd : decode cc pc = .ok (.putfield 113, 3)) (ht : t < n) (hC : rC t = 12) (kk : K ad n (nu nl t 53) ce sl (pc + 3) lv st σ) : K ad n nl ce sl pc lv (.ref (ad (119)) :: .ref (ad t) :: st) σ := r_putR (T := TX12) (N := 84) (k := 53) (co := 12) (Cn := RX12) h hd inG12 tyX12 tyX12_ok nmX12 rfl (by decide) fl_X12_113 (by decide) ht hC (rNo_12 t hC) (by decide) rfl rfl rfl (fun _ => ⟨rfl, rfl⟩) (by have z : t = 86 := rC_uni12 t hC; subst z; exact rf_12_53) kk
set_option maxRecDepth 100000 in
theorem fl_X12_116 : Cond.fieldLink RX12 116 (TX12 55).1 (TX12 55).2.1 (TX12 55).2.2.1 ∈ GT := gt_in6 148 rfl rfl
theorem g_X12_116 (h : w_Cl l R D cs aS aV A cc nL RX12 nm K) (hd : decode cc pc = .ok (.getfield 116, 3)) (ht : t < n) (hC : rC t = 12) (hnl : nl t 55 = true) (kk : K ad n nl ce sl (pc + 3) lv (.ref (ad (120)) :: st) σ) : K ad n nl ce sl pc lv (.ref (ad t) :: st) σ := r_getR (T := TX12) (N := 84) (k := 55) (co := 12) (Cn := RX12) h hd inG12 rfl (by decide) fl_X12_116 (by decide) ht hC (rNo_12 t hC) (by decide) hnl (120) (by have z : t = 86 := rC_uni12 t hC; subst z; exact rf_12_55) kk
theorem p_X12_116 (h : w_Cl l R D cs aS aV A cc nL RX12 "<init>" K) (hd : decode cc pc = .ok (.putfield 116, 3)) (ht : t < n) (hC : rC t = 12) (kk : K ad n (nu nl t 55) ce sl (pc + 3) lv st σ) : K ad n nl ce sl pc lv (.ref (ad (120)) :: .ref (ad t) :: st) σ := r_putR (T := TX12) (N := 84) (k := 55) (co := 12) (Cn := RX12) h hd inG12 tyX12 tyX12_ok nmX12 rfl (by decide) fl_X12_116 (by decide) ht hC (rNo_12 t hC) (by decide) rfl rfl rfl (fun _ => ⟨rfl, rfl⟩) (by have z : t = 86 := rC_uni12 t hC; subst z; exact rf_12_55) kk
set_option maxRecDepth 100000 in
theorem fl_X12_119 : Cond.fieldLink RX12 119 (TX12 58).1 (TX12 58).2.1 (TX12 58).2.2.1 ∈ GT := gt_in6 151 rfl rfl
theorem g_X12_119 (h : w_Cl l R D cs aS aV A cc nL RX12 nm K) (hd : decode cc pc = .ok (.getfield 119, 3)) (ht : t < n) (hC : rC t = 12) (hnl : nl t 58 = true) (kk : K ad n nl ce sl (pc + 3) lv (.ref (ad (121)) :: st) σ) : K ad n nl ce sl pc lv (.ref (ad t) :: st) σ := r_getR (T := TX12) (N := 84) (k := 58) (co := 12) (Cn := RX12) h hd inG12 rfl (by decide) fl_X12_119 (by decide) ht hC (rNo_12 t hC) (by decide) hnl (121) (by have z : t = 86 := rC_uni12 t hC; subst z; exact rf_12_58) kk
theorem p_X12_119 (h : w_Cl l R D cs aS aV A cc nL RX12 "<init>" K) (hd : decode cc pc = .ok (.putfield 119, 3)) (ht : t < n) (hC : rC t = 12) (kk : K ad n (nu nl t 58) ce sl (pc + 3) lv st σ) : K ad n nl ce sl pc lv (.ref (ad (121)) :: .ref (ad t) :: st) σ := r_putR (T := TX12) (N := 84) (k := 58) (co := 12) (Cn := RX12) h hd inG12 tyX12 tyX12_ok nmX12 rfl (by decide) fl_X12_119 (by decide) ht hC (rNo_12 t hC) (by decide) rfl rfl rfl (fun _ => ⟨rfl, rfl⟩) (by have z : t = 86 := rC_uni12 t hC; subst z; exact rf_12_58) kk
set_option maxRecDepth 100000 in
theorem fl_X12_122 : Cond.fieldLink RX12 122 (TX12 59).1 (TX12 59).2.1 (TX12 59).2.2.1 ∈ GT := gt_in6 152 rfl rfl
theorem g_X12_122 (h : w_Cl l R D cs aS aV A cc nL RX12 nm K) (hd : decode cc pc = .ok (.getfield 122, 3)) (ht : t < n) (hC : rC t = 12) (hnl : nl t 59 = true) (kk : K ad n nl ce sl (pc + 3) lv (.ref (ad (122)) :: st) σ) : K ad n nl ce sl pc lv (.ref (ad t) :: st) σ := r_getR (T := TX12) (N := 84) (k := 59) (co := 12) (Cn := RX12) h hd inG12 rfl (by decide) fl_X12_122 (by decide) ht hC (rNo_12 t hC) (by decide) hnl (122) (by have z : t = 86 := rC_uni12 t hC; subst z; exact rf_12_59) kk
theorem p_X12_122 (h : w_Cl l R D cs aS aV A cc nL RX12 "<init>" K) (hd : decode cc pc = .ok (.putfield 122, 3)) (ht : t < n) (hC : rC t = 12) (kk : K ad n (nu nl t 59) ce sl (pc + 3) lv st σ) : K ad n nl ce sl pc lv (.ref (ad (122)) :: .ref (ad t) :: st) σ := r_putR (T := TX12) (N := 84) (k := 59) (co := 12) (Cn := RX12) h hd inG12 tyX12 tyX12_ok nmX12 rfl (by decide) fl_X12_122 (by decide) ht hC (rNo_12 t hC) (by decide) rfl rfl rfl (fun _ => ⟨rfl, rfl⟩) (by have z : t = 86 := rC_uni12 t hC; subst z; exact rf_12_59) kk
set_option maxRecDepth 100000 in
theorem fl_X12_125 : Cond.fieldLink RX12 125 (TX12 60).1 (TX12 60).2.1 (TX12 60).2.2.1 ∈ GT := gt_in6 153 rfl rfl
theorem g_X12_125 (h : w_Cl l R D cs aS aV A cc nL RX12 nm K) (hd : decode cc pc = .ok (.getfield 125, 3)) (ht : t < n) (hC : rC t = 12) (kk : K ad n nl ce sl (pc + 3) lv (.int (vI (gi σ t 60)) :: st) σ) : K ad n nl ce sl pc lv (.ref (ad t) :: st) σ := r_getI (T := TX12) (N := 84) (k := 60) (co := 12) (Cn := RX12) h hd inG12 rfl (by decide) fl_X12_125 (by decide) ht hC (rNo_12 t hC) (by decide) kk
theorem p_X12_125 {x : Int} (h : w_Cl l R D cs aS aV A cc nL RX12 nm K) (hd : decode cc pc = .ok (.putfield 125, 3)) (ht : t < n) (hC : rC t = 12) (hx : rI x) (kk : K ad n nl ce sl (pc + 3) lv st (si σ t 60 x)) : K ad n nl ce sl pc lv (.int (vI x) :: .ref (ad t) :: st) σ := r_putI (T := TX12) (N := 84) (k := 60) (co := 12) (Cn := RX12) h hd inG12 tyX12 tyX12_ok nmX12 rfl (by decide) fl_X12_125 (by decide) ht hC (rNo_12 t hC) (by decide) rfl rfl hx kk
set_option maxRecDepth 100000 in
theorem fl_X12_128 : Cond.fieldLink RX12 128 (TX12 65).1 (TX12 65).2.1 (TX12 65).2.2.1 ∈ GT := gt_in6 158 rfl rfl
theorem g_X12_128 (h : w_Cl l R D cs aS aV A cc nL RX12 nm K) (hd : decode cc pc = .ok (.getfield 128, 3)) (ht : t < n) (hC : rC t = 12) (hnl : nl t 65 = true) (kk : K ad n nl ce sl (pc + 3) lv (.ref (ad (123)) :: st) σ) : K ad n nl ce sl pc lv (.ref (ad t) :: st) σ := r_getR (T := TX12) (N := 84) (k := 65) (co := 12) (Cn := RX12) h hd inG12 rfl (by decide) fl_X12_128 (by decide) ht hC (rNo_12 t hC) (by decide) hnl (123) (by have z : t = 86 := rC_uni12 t hC; subst z; exact rf_12_65) kk
theorem p_X12_128 (h : w_Cl l R D cs aS aV A cc nL RX12 "<init>" K) (hd : decode cc pc = .ok (.putfield 128, 3)) (ht : t < n) (hC : rC t = 12) (kk : K ad n (nu nl t 65) ce sl (pc + 3) lv st σ) : K ad n nl ce sl pc lv (.ref (ad (123)) :: .ref (ad t) :: st) σ := r_putR (T := TX12) (N := 84) (k := 65) (co := 12) (Cn := RX12) h hd inG12 tyX12 tyX12_ok nmX12 rfl (by decide) fl_X12_128 (by decide) ht hC (rNo_12 t hC) (by decide) rfl rfl rfl (fun _ => ⟨rfl, rfl⟩) (by have z : t = 86 := rC_uni12 t hC; subst z; exact rf_12_65) kk
set_option maxRecDepth 100000 in
theorem fl_X12_131 : Cond.fieldLink RX12 131 (TX12 66).1 (TX12 66).2.1 (TX12 66).2.2.1 ∈ GT := gt_in6 159 rfl rfl
theorem g_X12_131 (h : w_Cl l R D cs aS aV A cc nL RX12 nm K) (hd : decode cc pc = .ok (.getfield 131, 3)) (ht : t < n) (hC : rC t = 12) (hnl : nl t 66 = true) (kk : K ad n nl ce sl (pc + 3) lv (.ref (ad (124)) :: st) σ) : K ad n nl ce sl pc lv (.ref (ad t) :: st) σ := r_getR (T := TX12) (N := 84) (k := 66) (co := 12) (Cn := RX12) h hd inG12 rfl (by decide) fl_X12_131 (by decide) ht hC (rNo_12 t hC) (by decide) hnl (124) (by have z : t = 86 := rC_uni12 t hC; subst z; exact rf_12_66) kk
theorem p_X12_131 (h : w_Cl l R D cs aS aV A cc nL RX12 "<init>" K) (hd : decode cc pc = .ok (.putfield 131, 3)) (ht : t < n) (hC : rC t = 12) (kk : K ad n (nu nl t 66) ce sl (pc + 3) lv st σ) : K ad n nl ce sl pc lv (.ref (ad (124)) :: .ref (ad t) :: st) σ := r_putR (T := TX12) (N := 84) (k := 66) (co := 12) (Cn := RX12) h hd inG12 tyX12 tyX12_ok nmX12 rfl (by decide) fl_X12_131 (by decide) ht hC (rNo_12 t hC) (by decide) rfl rfl rfl (fun _ => ⟨rfl, rfl⟩) (by have z : t = 86 := rC_uni12 t hC; subst z; exact rf_12_66) kk
set_option maxRecDepth 100000 in
theorem fl_X12_134 : Cond.fieldLink RX12 134 (TX12 69).1 (TX12 69).2.1 (TX12 69).2.2.1 ∈ GT := gt_in6 162 rfl rfl
theorem g_X12_134 (h : w_Cl l R D cs aS aV A cc nL RX12 nm K) (hd : decode cc pc = .ok (.getfield 134, 3)) (ht : t < n) (hC : rC t = 12) (hnl : nl t 69 = true) (kk : K ad n nl ce sl (pc + 3) lv (.ref (ad (125)) :: st) σ) : K ad n nl ce sl pc lv (.ref (ad t) :: st) σ := r_getR (T := TX12) (N := 84) (k := 69) (co := 12) (Cn := RX12) h hd inG12 rfl (by decide) fl_X12_134 (by decide) ht hC (rNo_12 t hC) (by decide) hnl (125) (by have z : t = 86 := rC_uni12 t hC; subst z; exact rf_12_69) kk
theorem p_X12_134 (h : w_Cl l R D cs aS aV A cc nL RX12 "<init>" K) (hd : decode cc pc = .ok (.putfield 134, 3)) (ht : t < n) (hC : rC t = 12) (kk : K ad n (nu nl t 69) ce sl (pc + 3) lv st σ) : K ad n nl ce sl pc lv (.ref (ad (125)) :: .ref (ad t) :: st) σ := r_putR (T := TX12) (N := 84) (k := 69) (co := 12) (Cn := RX12) h hd inG12 tyX12 tyX12_ok nmX12 rfl (by decide) fl_X12_134 (by decide) ht hC (rNo_12 t hC) (by decide) rfl rfl rfl (fun _ => ⟨rfl, rfl⟩) (by have z : t = 86 := rC_uni12 t hC; subst z; exact rf_12_69) kk
set_option maxRecDepth 100000 in
theorem fl_X12_137 : Cond.fieldLink RX12 137 (TX12 70).1 (TX12 70).2.1 (TX12 70).2.2.1 ∈ GT := gt_in6 163 rfl rfl
theorem g_X12_137 (h : w_Cl l R D cs aS aV A cc nL RX12 nm K) (hd : decode cc pc = .ok (.getfield 137, 3)) (ht : t < n) (hC : rC t = 12) (hnl : nl t 70 = true) (kk : K ad n nl ce sl (pc + 3) lv (.ref (ad (126)) :: st) σ) : K ad n nl ce sl pc lv (.ref (ad t) :: st) σ := r_getR (T := TX12) (N := 84) (k := 70) (co := 12) (Cn := RX12) h hd inG12 rfl (by decide) fl_X12_137 (by decide) ht hC (rNo_12 t hC) (by decide) hnl (126) (by have z : t = 86 := rC_uni12 t hC; subst z; exact rf_12_70) kk
theorem p_X12_137 (h : w_Cl l R D cs aS aV A cc nL RX12 "<init>" K) (hd : decode cc pc = .ok (.putfield 137, 3)) (ht : t < n) (hC : rC t = 12) (kk : K ad n (nu nl t 70) ce sl (pc + 3) lv st σ) : K ad n nl ce sl pc lv (.ref (ad (126)) :: .ref (ad t) :: st) σ := r_putR (T := TX12) (N := 84) (k := 70) (co := 12) (Cn := RX12) h hd inG12 tyX12 tyX12_ok nmX12 rfl (by decide) fl_X12_137 (by decide) ht hC (rNo_12 t hC) (by decide) rfl rfl rfl (fun _ => ⟨rfl, rfl⟩) (by have z : t = 86 := rC_uni12 t hC; subst z; exact rf_12_70) kk
set_option maxRecDepth 100000 in
theorem fl_X12_140 : Cond.fieldLink RX12 140 (TX12 71).1 (TX12 71).2.1 (TX12 71).2.2.1 ∈ GT := gt_in6 164 rfl rfl
theorem g_X12_140 (h : w_Cl l R D cs aS aV A cc nL RX12 nm K) (hd : decode cc pc = .ok (.getfield 140, 3)) (ht : t < n) (hC : rC t = 12) (hnl : nl t 71 = true) (kk : K ad n nl ce sl (pc + 3) lv (.ref (ad (127)) :: st) σ) : K ad n nl ce sl pc lv (.ref (ad t) :: st) σ := r_getR (T := TX12) (N := 84) (k := 71) (co := 12) (Cn := RX12) h hd inG12 rfl (by decide) fl_X12_140 (by decide) ht hC (rNo_12 t hC) (by decide) hnl (127) (by have z : t = 86 := rC_uni12 t hC; subst z; exact rf_12_71) kk
theorem p_X12_140 (h : w_Cl l R D cs aS aV A cc nL RX12 "<init>" K) (hd : decode cc pc = .ok (.putfield 140, 3)) (ht : t < n) (hC : rC t = 12) (kk : K ad n (nu nl t 71) ce sl (pc + 3) lv st σ) : K ad n nl ce sl pc lv (.ref (ad (127)) :: .ref (ad t) :: st) σ := r_putR (T := TX12) (N := 84) (k := 71) (co := 12) (Cn := RX12) h hd inG12 tyX12 tyX12_ok nmX12 rfl (by decide) fl_X12_140 (by decide) ht hC (rNo_12 t hC) (by decide) rfl rfl rfl (fun _ => ⟨rfl, rfl⟩) (by have z : t = 86 := rC_uni12 t hC; subst z; exact rf_12_71) kk
set_option maxRecDepth 100000 in
theorem fl_X12_143 : Cond.fieldLink RX12 143 (TX12 72).1 (TX12 72).2.1 (TX12 72).2.2.1 ∈ GT := gt_in6 165 rfl rfl
theorem g_X12_143 (h : w_Cl l R D cs aS aV A cc nL RX12 nm K) (hd : decode cc pc = .ok (.getfield 143, 3)) (ht : t < n) (hC : rC t = 12) (hnl : nl t 72 = true) (kk : K ad n nl ce sl (pc + 3) lv (.ref (ad (128)) :: st) σ) : K ad n nl ce sl pc lv (.ref (ad t) :: st) σ := r_getR (T := TX12) (N := 84) (k := 72) (co := 12) (Cn := RX12) h hd inG12 rfl (by decide) fl_X12_143 (by decide) ht hC (rNo_12 t hC) (by decide) hnl (128) (by have z : t = 86 := rC_uni12 t hC; subst z; exact rf_12_72) kk
theorem p_X12_143 (h : w_Cl l R D cs aS aV A cc nL RX12 "<init>" K) (hd : decode cc pc = .ok (.putfield 143, 3)) (ht : t < n) (hC : rC t = 12) (kk : K ad n (nu nl t 72) ce sl (pc + 3) lv st σ) : K ad n nl ce sl pc lv (.ref (ad (128)) :: .ref (ad t) :: st) σ := r_putR (T := TX12) (N := 84) (k := 72) (co := 12) (Cn := RX12) h hd inG12 tyX12 tyX12_ok nmX12 rfl (by decide) fl_X12_143 (by decide) ht hC (rNo_12 t hC) (by decide) rfl rfl rfl (fun _ => ⟨rfl, rfl⟩) (by have z : t = 86 := rC_uni12 t hC; subst z; exact rf_12_72) kk
set_option maxRecDepth 100000 in
theorem fl_X12_146 : Cond.fieldLink RX12 146 (TX12 73).1 (TX12 73).2.1 (TX12 73).2.2.1 ∈ GT := gt_in6 166 rfl rfl
theorem g_X12_146 (h : w_Cl l R D cs aS aV A cc nL RX12 nm K) (hd : decode cc pc = .ok (.getfield 146, 3)) (ht : t < n) (hC : rC t = 12) (hnl : nl t 73 = true) (kk : K ad n nl ce sl (pc + 3) lv (.ref (ad (129)) :: st) σ) : K ad n nl ce sl pc lv (.ref (ad t) :: st) σ := r_getR (T := TX12) (N := 84) (k := 73) (co := 12) (Cn := RX12) h hd inG12 rfl (by decide) fl_X12_146 (by decide) ht hC (rNo_12 t hC) (by decide) hnl (129) (by have z : t = 86 := rC_uni12 t hC; subst z; exact rf_12_73) kk
theorem p_X12_146 (h : w_Cl l R D cs aS aV A cc nL RX12 "<init>" K) (hd : decode cc pc = .ok (.putfield 146, 3)) (ht : t < n) (hC : rC t = 12) (kk : K ad n (nu nl t 73) ce sl (pc + 3) lv st σ) : K ad n nl ce sl pc lv (.ref (ad (129)) :: .ref (ad t) :: st) σ := r_putR (T := TX12) (N := 84) (k := 73) (co := 12) (Cn := RX12) h hd inG12 tyX12 tyX12_ok nmX12 rfl (by decide) fl_X12_146 (by decide) ht hC (rNo_12 t hC) (by decide) rfl rfl rfl (fun _ => ⟨rfl, rfl⟩) (by have z : t = 86 := rC_uni12 t hC; subst z; exact rf_12_73) kk
set_option maxRecDepth 100000 in
theorem fl_X12_149 : Cond.fieldLink RX12 149 (TX12 74).1 (TX12 74).2.1 (TX12 74).2.2.1 ∈ GT := gt_in6 167 rfl rfl
theorem g_X12_149 (h : w_Cl l R D cs aS aV A cc nL RX12 nm K) (hd : decode cc pc = .ok (.getfield 149, 3)) (ht : t < n) (hC : rC t = 12) (hnl : nl t 74 = true) (kk : K ad n nl ce sl (pc + 3) lv (.ref (ad (130)) :: st) σ) : K ad n nl ce sl pc lv (.ref (ad t) :: st) σ := r_getR (T := TX12) (N := 84) (k := 74) (co := 12) (Cn := RX12) h hd inG12 rfl (by decide) fl_X12_149 (by decide) ht hC (rNo_12 t hC) (by decide) hnl (130) (by have z : t = 86 := rC_uni12 t hC; subst z; exact rf_12_74) kk
theorem p_X12_149 (h : w_Cl l R D cs aS aV A cc nL RX12 "<init>" K) (hd : decode cc pc = .ok (.putfield 149, 3)) (ht : t < n) (hC : rC t = 12) (kk : K ad n (nu nl t 74) ce sl (pc + 3) lv st σ) : K ad n nl ce sl pc lv (.ref (ad (130)) :: .ref (ad t) :: st) σ := r_putR (T := TX12) (N := 84) (k := 74) (co := 12) (Cn := RX12) h hd inG12 tyX12 tyX12_ok nmX12 rfl (by decide) fl_X12_149 (by decide) ht hC (rNo_12 t hC) (by decide) rfl rfl rfl (fun _ => ⟨rfl, rfl⟩) (by have z : t = 86 := rC_uni12 t hC; subst z; exact rf_12_74) kk
set_option maxRecDepth 100000 in
theorem fl_X12_152 : Cond.fieldLink RX12 152 (TX12 75).1 (TX12 75).2.1 (TX12 75).2.2.1 ∈ GT := gt_in6 168 rfl rfl
theorem g_X12_152 (h : w_Cl l R D cs aS aV A cc nL RX12 nm K) (hd : decode cc pc = .ok (.getfield 152, 3)) (ht : t < n) (hC : rC t = 12) (hnl : nl t 75 = true) (kk : K ad n nl ce sl (pc + 3) lv (.ref (ad (131)) :: st) σ) : K ad n nl ce sl pc lv (.ref (ad t) :: st) σ := r_getR (T := TX12) (N := 84) (k := 75) (co := 12) (Cn := RX12) h hd inG12 rfl (by decide) fl_X12_152 (by decide) ht hC (rNo_12 t hC) (by decide) hnl (131) (by have z : t = 86 := rC_uni12 t hC; subst z; exact rf_12_75) kk
theorem p_X12_152 (h : w_Cl l R D cs aS aV A cc nL RX12 "<init>" K) (hd : decode cc pc = .ok (.putfield 152, 3)) (ht : t < n) (hC : rC t = 12) (kk : K ad n (nu nl t 75) ce sl (pc + 3) lv st σ) : K ad n nl ce sl pc lv (.ref (ad (131)) :: .ref (ad t) :: st) σ := r_putR (T := TX12) (N := 84) (k := 75) (co := 12) (Cn := RX12) h hd inG12 tyX12 tyX12_ok nmX12 rfl (by decide) fl_X12_152 (by decide) ht hC (rNo_12 t hC) (by decide) rfl rfl rfl (fun _ => ⟨rfl, rfl⟩) (by have z : t = 86 := rC_uni12 t hC; subst z; exact rf_12_75) kk
set_option maxRecDepth 100000 in
theorem fl_X12_155 : Cond.fieldLink RX12 155 (TX12 76).1 (TX12 76).2.1 (TX12 76).2.2.1 ∈ GT := gt_in6 169 rfl rfl
theorem g_X12_155 (h : w_Cl l R D cs aS aV A cc nL RX12 nm K) (hd : decode cc pc = .ok (.getfield 155, 3)) (ht : t < n) (hC : rC t = 12) (hnl : nl t 76 = true) (kk : K ad n nl ce sl (pc + 3) lv (.ref (ad (132)) :: st) σ) : K ad n nl ce sl pc lv (.ref (ad t) :: st) σ := r_getR (T := TX12) (N := 84) (k := 76) (co := 12) (Cn := RX12) h hd inG12 rfl (by decide) fl_X12_155 (by decide) ht hC (rNo_12 t hC) (by decide) hnl (132) (by have z : t = 86 := rC_uni12 t hC; subst z; exact rf_12_76) kk
theorem p_X12_155 (h : w_Cl l R D cs aS aV A cc nL RX12 "<init>" K) (hd : decode cc pc = .ok (.putfield 155, 3)) (ht : t < n) (hC : rC t = 12) (kk : K ad n (nu nl t 76) ce sl (pc + 3) lv st σ) : K ad n nl ce sl pc lv (.ref (ad (132)) :: .ref (ad t) :: st) σ := r_putR (T := TX12) (N := 84) (k := 76) (co := 12) (Cn := RX12) h hd inG12 tyX12 tyX12_ok nmX12 rfl (by decide) fl_X12_155 (by decide) ht hC (rNo_12 t hC) (by decide) rfl rfl rfl (fun _ => ⟨rfl, rfl⟩) (by have z : t = 86 := rC_uni12 t hC; subst z; exact rf_12_76) kk
set_option maxRecDepth 100000 in
theorem fl_X12_158 : Cond.fieldLink RX12 158 (TX12 77).1 (TX12 77).2.1 (TX12 77).2.2.1 ∈ GT := gt_in6 170 rfl rfl
theorem g_X12_158 (h : w_Cl l R D cs aS aV A cc nL RX12 nm K) (hd : decode cc pc = .ok (.getfield 158, 3)) (ht : t < n) (hC : rC t = 12) (hnl : nl t 77 = true) (kk : K ad n nl ce sl (pc + 3) lv (.ref (ad (133)) :: st) σ) : K ad n nl ce sl pc lv (.ref (ad t) :: st) σ := r_getR (T := TX12) (N := 84) (k := 77) (co := 12) (Cn := RX12) h hd inG12 rfl (by decide) fl_X12_158 (by decide) ht hC (rNo_12 t hC) (by decide) hnl (133) (by have z : t = 86 := rC_uni12 t hC; subst z; exact rf_12_77) kk
theorem p_X12_158 (h : w_Cl l R D cs aS aV A cc nL RX12 "<init>" K) (hd : decode cc pc = .ok (.putfield 158, 3)) (ht : t < n) (hC : rC t = 12) (kk : K ad n (nu nl t 77) ce sl (pc + 3) lv st σ) : K ad n nl ce sl pc lv (.ref (ad (133)) :: .ref (ad t) :: st) σ := r_putR (T := TX12) (N := 84) (k := 77) (co := 12) (Cn := RX12) h hd inG12 tyX12 tyX12_ok nmX12 rfl (by decide) fl_X12_158 (by decide) ht hC (rNo_12 t hC) (by decide) rfl rfl rfl (fun _ => ⟨rfl, rfl⟩) (by have z : t = 86 := rC_uni12 t hC; subst z; exact rf_12_77) kk
set_option maxRecDepth 100000 in
theorem fl_X12_161 : Cond.fieldLink RX12 161 (TX12 78).1 (TX12 78).2.1 (TX12 78).2.2.1 ∈ GT := gt_in6 171 rfl rfl
theorem g_X12_161 (h : w_Cl l R D cs aS aV A cc nL RX12 nm K) (hd : decode cc pc = .ok (.getfield 161, 3)) (ht : t < n) (hC : rC t = 12) (hnl : nl t 78 = true) (kk : K ad n nl ce sl (pc + 3) lv (.ref (ad (134)) :: st) σ) : K ad n nl ce sl pc lv (.ref (ad t) :: st) σ := r_getR (T := TX12) (N := 84) (k := 78) (co := 12) (Cn := RX12) h hd inG12 rfl (by decide) fl_X12_161 (by decide) ht hC (rNo_12 t hC) (by decide) hnl (134) (by have z : t = 86 := rC_uni12 t hC; subst z; exact rf_12_78) kk
theorem p_X12_161 (h : w_Cl l R D cs aS aV A cc nL RX12 "<init>" K) (hd : decode cc pc = .ok (.putfield 161, 3)) (ht : t < n) (hC : rC t = 12) (kk : K ad n (nu nl t 78) ce sl (pc + 3) lv st σ) : K ad n nl ce sl pc lv (.ref (ad (134)) :: .ref (ad t) :: st) σ := r_putR (T := TX12) (N := 84) (k := 78) (co := 12) (Cn := RX12) h hd inG12 tyX12 tyX12_ok nmX12 rfl (by decide) fl_X12_161 (by decide) ht hC (rNo_12 t hC) (by decide) rfl rfl rfl (fun _ => ⟨rfl, rfl⟩) (by have z : t = 86 := rC_uni12 t hC; subst z; exact rf_12_78) kk
set_option maxRecDepth 100000 in
theorem fl_X12_164 : Cond.fieldLink RX12 164 (TX12 81).1 (TX12 81).2.1 (TX12 81).2.2.1 ∈ GT := gt_in6 174 rfl rfl
theorem g_X12_164 (h : w_Cl l R D cs aS aV A cc nL RX12 nm K) (hd : decode cc pc = .ok (.getfield 164, 3)) (ht : t < n) (hC : rC t = 12) (hnl : nl t 81 = true) (kk : K ad n nl ce sl (pc + 3) lv (.ref (ad (135)) :: st) σ) : K ad n nl ce sl pc lv (.ref (ad t) :: st) σ := r_getR (T := TX12) (N := 84) (k := 81) (co := 12) (Cn := RX12) h hd inG12 rfl (by decide) fl_X12_164 (by decide) ht hC (rNo_12 t hC) (by decide) hnl (135) (by have z : t = 86 := rC_uni12 t hC; subst z; exact rf_12_81) kk
theorem p_X12_164 (h : w_Cl l R D cs aS aV A cc nL RX12 "<init>" K) (hd : decode cc pc = .ok (.putfield 164, 3)) (ht : t < n) (hC : rC t = 12) (kk : K ad n (nu nl t 81) ce sl (pc + 3) lv st σ) : K ad n nl ce sl pc lv (.ref (ad (135)) :: .ref (ad t) :: st) σ := r_putR (T := TX12) (N := 84) (k := 81) (co := 12) (Cn := RX12) h hd inG12 tyX12 tyX12_ok nmX12 rfl (by decide) fl_X12_164 (by decide) ht hC (rNo_12 t hC) (by decide) rfl rfl rfl (fun _ => ⟨rfl, rfl⟩) (by have z : t = 86 := rC_uni12 t hC; subst z; exact rf_12_81) kk
set_option maxRecDepth 100000 in
theorem fl_X12_167 : Cond.fieldLink RX12 167 (TX12 82).1 (TX12 82).2.1 (TX12 82).2.2.1 ∈ GT := gt_in6 175 rfl rfl
theorem g_X12_167 (h : w_Cl l R D cs aS aV A cc nL RX12 nm K) (hd : decode cc pc = .ok (.getfield 167, 3)) (ht : t < n) (hC : rC t = 12) (hnl : nl t 82 = true) (kk : K ad n nl ce sl (pc + 3) lv (.ref (ad (136)) :: st) σ) : K ad n nl ce sl pc lv (.ref (ad t) :: st) σ := r_getR (T := TX12) (N := 84) (k := 82) (co := 12) (Cn := RX12) h hd inG12 rfl (by decide) fl_X12_167 (by decide) ht hC (rNo_12 t hC) (by decide) hnl (136) (by have z : t = 86 := rC_uni12 t hC; subst z; exact rf_12_82) kk
theorem p_X12_167 (h : w_Cl l R D cs aS aV A cc nL RX12 "<init>" K) (hd : decode cc pc = .ok (.putfield 167, 3)) (ht : t < n) (hC : rC t = 12) (kk : K ad n (nu nl t 82) ce sl (pc + 3) lv st σ) : K ad n nl ce sl pc lv (.ref (ad (136)) :: .ref (ad t) :: st) σ := r_putR (T := TX12) (N := 84) (k := 82) (co := 12) (Cn := RX12) h hd inG12 tyX12 tyX12_ok nmX12 rfl (by decide) fl_X12_167 (by decide) ht hC (rNo_12 t hC) (by decide) rfl rfl rfl (fun _ => ⟨rfl, rfl⟩) (by have z : t = 86 := rC_uni12 t hC; subst z; exact rf_12_82) kk
set_option maxRecDepth 100000 in
theorem fl_X12_170 : Cond.fieldLink RX12 170 (TX12 83).1 (TX12 83).2.1 (TX12 83).2.2.1 ∈ GT := gt_in6 176 rfl rfl
theorem g_X12_170 (h : w_Cl l R D cs aS aV A cc nL RX12 nm K) (hd : decode cc pc = .ok (.getfield 170, 3)) (ht : t < n) (hC : rC t = 12) (hnl : nl t 83 = true) (kk : K ad n nl ce sl (pc + 3) lv (.ref (ad (137)) :: st) σ) : K ad n nl ce sl pc lv (.ref (ad t) :: st) σ := r_getR (T := TX12) (N := 84) (k := 83) (co := 12) (Cn := RX12) h hd inG12 rfl (by decide) fl_X12_170 (by decide) ht hC (rNo_12 t hC) (by decide) hnl (137) (by have z : t = 86 := rC_uni12 t hC; subst z; exact rf_12_83) kk
theorem p_X12_170 (h : w_Cl l R D cs aS aV A cc nL RX12 "<init>" K) (hd : decode cc pc = .ok (.putfield 170, 3)) (ht : t < n) (hC : rC t = 12) (kk : K ad n (nu nl t 83) ce sl (pc + 3) lv st σ) : K ad n nl ce sl pc lv (.ref (ad (137)) :: .ref (ad t) :: st) σ := r_putR (T := TX12) (N := 84) (k := 83) (co := 12) (Cn := RX12) h hd inG12 tyX12 tyX12_ok nmX12 rfl (by decide) fl_X12_170 (by decide) ht hC (rNo_12 t hC) (by decide) rfl rfl rfl (fun _ => ⟨rfl, rfl⟩) (by have z : t = 86 := rC_uni12 t hC; subst z; exact rf_12_83) kk
set_option maxRecDepth 100000 in
theorem fl_X12_179 : Cond.fieldLink RX12 179 (TX12 3).1 (TX12 3).2.1 (TX12 3).2.2.1 ∈ GT := gt_in6 96 rfl rfl
theorem g_X12_179 (h : w_Cl l R D cs aS aV A cc nL RX12 nm K) (hd : decode cc pc = .ok (.getfield 179, 3)) (ht : t < n) (hC : rC t = 12) (kk : K ad n nl ce sl (pc + 3) lv (.int (vI (gi σ t 3)) :: st) σ) : K ad n nl ce sl pc lv (.ref (ad t) :: st) σ := r_getI (T := TX12) (N := 84) (k := 3) (co := 12) (Cn := RX12) h hd inG12 rfl (by decide) fl_X12_179 (by decide) ht hC (rNo_12 t hC) (by decide) kk
theorem p_X12_179 {x : Int} (h : w_Cl l R D cs aS aV A cc nL RX12 nm K) (hd : decode cc pc = .ok (.putfield 179, 3)) (ht : t < n) (hC : rC t = 12) (hx : rI x) (kk : K ad n nl ce sl (pc + 3) lv st (si σ t 3 x)) : K ad n nl ce sl pc lv (.int (vI x) :: .ref (ad t) :: st) σ := r_putI (T := TX12) (N := 84) (k := 3) (co := 12) (Cn := RX12) h hd inG12 tyX12 tyX12_ok nmX12 rfl (by decide) fl_X12_179 (by decide) ht hC (rNo_12 t hC) (by decide) rfl rfl hx kk
set_option maxRecDepth 100000 in
theorem fl_X12_182 : Cond.fieldLink RX12 182 (TX12 4).1 (TX12 4).2.1 (TX12 4).2.2.1 ∈ GT := gt_in6 97 rfl rfl
theorem g_X12_182 (h : w_Cl l R D cs aS aV A cc nL RX12 nm K) (hd : decode cc pc = .ok (.getfield 182, 3)) (ht : t < n) (hC : rC t = 12) (kk : K ad n nl ce sl (pc + 3) lv (.int (vI (gi σ t 4)) :: st) σ) : K ad n nl ce sl pc lv (.ref (ad t) :: st) σ := r_getI (T := TX12) (N := 84) (k := 4) (co := 12) (Cn := RX12) h hd inG12 rfl (by decide) fl_X12_182 (by decide) ht hC (rNo_12 t hC) (by decide) kk
theorem p_X12_182 {x : Int} (h : w_Cl l R D cs aS aV A cc nL RX12 nm K) (hd : decode cc pc = .ok (.putfield 182, 3)) (ht : t < n) (hC : rC t = 12) (hx : rI x) (kk : K ad n nl ce sl (pc + 3) lv st (si σ t 4 x)) : K ad n nl ce sl pc lv (.int (vI x) :: .ref (ad t) :: st) σ := r_putI (T := TX12) (N := 84) (k := 4) (co := 12) (Cn := RX12) h hd inG12 tyX12 tyX12_ok nmX12 rfl (by decide) fl_X12_182 (by decide) ht hC (rNo_12 t hC) (by decide) rfl rfl hx kk
set_option maxRecDepth 100000 in
theorem fl_X12_227 : Cond.fieldLink RX12 227 (TX12 7).1 (TX12 7).2.1 (TX12 7).2.2.1 ∈ GT := gt_in6 100 rfl rfl
theorem g_X12_227 (h : w_Cl l R D cs aS aV A cc nL RX12 nm K) (hd : decode cc pc = .ok (.getfield 227, 3)) (ht : t < n) (hC : rC t = 12) (kk : K ad n nl ce sl (pc + 3) lv (.int (vI (gi σ t 7)) :: st) σ) : K ad n nl ce sl pc lv (.ref (ad t) :: st) σ := r_getI (T := TX12) (N := 84) (k := 7) (co := 12) (Cn := RX12) h hd inG12 rfl (by decide) fl_X12_227 (by decide) ht hC (rNo_12 t hC) (by decide) kk
theorem p_X12_227 {x : Int} (h : w_Cl l R D cs aS aV A cc nL RX12 nm K) (hd : decode cc pc = .ok (.putfield 227, 3)) (ht : t < n) (hC : rC t = 12) (hx : rI x) (kk : K ad n nl ce sl (pc + 3) lv st (si σ t 7 x)) : K ad n nl ce sl pc lv (.int (vI x) :: .ref (ad t) :: st) σ := r_putI (T := TX12) (N := 84) (k := 7) (co := 12) (Cn := RX12) h hd inG12 tyX12 tyX12_ok nmX12 rfl (by decide) fl_X12_227 (by decide) ht hC (rNo_12 t hC) (by decide) rfl rfl hx kk
set_option maxRecDepth 100000 in
theorem fl_X12_230 : Cond.fieldLink RX12 230 (TX12 6).1 (TX12 6).2.1 (TX12 6).2.2.1 ∈ GT := gt_in6 99 rfl rfl
theorem g_X12_230 (h : w_Cl l R D cs aS aV A cc nL RX12 nm K) (hd : decode cc pc = .ok (.getfield 230, 3)) (ht : t < n) (hC : rC t = 12) (kk : K ad n nl ce sl (pc + 3) lv (.int (vI (gi σ t 6)) :: st) σ) : K ad n nl ce sl pc lv (.ref (ad t) :: st) σ := r_getI (T := TX12) (N := 84) (k := 6) (co := 12) (Cn := RX12) h hd inG12 rfl (by decide) fl_X12_230 (by decide) ht hC (rNo_12 t hC) (by decide) kk
theorem p_X12_230 {x : Int} (h : w_Cl l R D cs aS aV A cc nL RX12 nm K) (hd : decode cc pc = .ok (.putfield 230, 3)) (ht : t < n) (hC : rC t = 12) (hx : rI x) (kk : K ad n nl ce sl (pc + 3) lv st (si σ t 6 x)) : K ad n nl ce sl pc lv (.int (vI x) :: .ref (ad t) :: st) σ := r_putI (T := TX12) (N := 84) (k := 6) (co := 12) (Cn := RX12) h hd inG12 tyX12 tyX12_ok nmX12 rfl (by decide) fl_X12_230 (by decide) ht hC (rNo_12 t hC) (by decide) rfl rfl hx kk
set_option maxRecDepth 100000 in
theorem fl_X12_237 : Cond.fieldLink RX12 237 (TX12 8).1 (TX12 8).2.1 (TX12 8).2.2.1 ∈ GT := gt_in6 101 rfl rfl
theorem g_X12_237 (h : w_Cl l R D cs aS aV A cc nL RX12 nm K) (hd : decode cc pc = .ok (.getfield 237, 3)) (ht : t < n) (hC : rC t = 12) (kk : K ad n nl ce sl (pc + 3) lv (.int (vI (gi σ t 8)) :: st) σ) : K ad n nl ce sl pc lv (.ref (ad t) :: st) σ := r_getI (T := TX12) (N := 84) (k := 8) (co := 12) (Cn := RX12) h hd inG12 rfl (by decide) fl_X12_237 (by decide) ht hC (rNo_12 t hC) (by decide) kk
theorem p_X12_237 {x : Int} (h : w_Cl l R D cs aS aV A cc nL RX12 nm K) (hd : decode cc pc = .ok (.putfield 237, 3)) (ht : t < n) (hC : rC t = 12) (hx : rI x) (kk : K ad n nl ce sl (pc + 3) lv st (si σ t 8 x)) : K ad n nl ce sl pc lv (.int (vI x) :: .ref (ad t) :: st) σ := r_putI (T := TX12) (N := 84) (k := 8) (co := 12) (Cn := RX12) h hd inG12 tyX12 tyX12_ok nmX12 rfl (by decide) fl_X12_237 (by decide) ht hC (rNo_12 t hC) (by decide) rfl rfl hx kk
set_option maxRecDepth 100000 in
theorem fl_X12_244 : Cond.fieldLink RX12 244 (TX12 10).1 (TX12 10).2.1 (TX12 10).2.2.1 ∈ GT := gt_in6 103 rfl rfl
theorem g_X12_244 (h : w_Cl l R D cs aS aV A cc nL RX12 nm K) (hd : decode cc pc = .ok (.getfield 244, 3)) (ht : t < n) (hC : rC t = 12) (kk : K ad n nl ce sl (pc + 3) lv (.long (vJ (gj σ t 10)) :: st) σ) : K ad n nl ce sl pc lv (.ref (ad t) :: st) σ := r_getJ (T := TX12) (N := 84) (k := 10) (co := 12) (Cn := RX12) h hd inG12 rfl (by decide) fl_X12_244 (by decide) ht hC (rNo_12 t hC) (by decide) kk
theorem p_X12_244 {x : Int} (h : w_Cl l R D cs aS aV A cc nL RX12 nm K) (hd : decode cc pc = .ok (.putfield 244, 3)) (ht : t < n) (hC : rC t = 12) (hx : rJ x) (kk : K ad n nl ce sl (pc + 3) lv st (sj σ t 10 x)) : K ad n nl ce sl pc lv (.long (vJ x) :: .ref (ad t) :: st) σ := r_putJ (T := TX12) (N := 84) (k := 10) (co := 12) (Cn := RX12) h hd inG12 tyX12 tyX12_ok nmX12 rfl (by decide) fl_X12_244 (by decide) ht hC (rNo_12 t hC) (by decide) rfl rfl hx kk
set_option maxRecDepth 100000 in
theorem fl_X12_255 : Cond.fieldLink RX12 255 (TX12 9).1 (TX12 9).2.1 (TX12 9).2.2.1 ∈ GT := gt_in6 102 rfl rfl
theorem g_X12_255 (h : w_Cl l R D cs aS aV A cc nL RX12 nm K) (hd : decode cc pc = .ok (.getfield 255, 3)) (ht : t < n) (hC : rC t = 12) (kk : K ad n nl ce sl (pc + 3) lv (.int (vI (gi σ t 9)) :: st) σ) : K ad n nl ce sl pc lv (.ref (ad t) :: st) σ := r_getI (T := TX12) (N := 84) (k := 9) (co := 12) (Cn := RX12) h hd inG12 rfl (by decide) fl_X12_255 (by decide) ht hC (rNo_12 t hC) (by decide) kk
theorem p_X12_255 {x : Int} (h : w_Cl l R D cs aS aV A cc nL RX12 nm K) (hd : decode cc pc = .ok (.putfield 255, 3)) (ht : t < n) (hC : rC t = 12) (hx : rI x) (kk : K ad n nl ce sl (pc + 3) lv st (si σ t 9 x)) : K ad n nl ce sl pc lv (.int (vI x) :: .ref (ad t) :: st) σ := r_putI (T := TX12) (N := 84) (k := 9) (co := 12) (Cn := RX12) h hd inG12 tyX12 tyX12_ok nmX12 rfl (by decide) fl_X12_255 (by decide) ht hC (rNo_12 t hC) (by decide) rfl rfl hx kk
set_option maxRecDepth 100000 in
theorem fl_X12_286 : Cond.fieldLink RX12 286 (TX12 41).1 (TX12 41).2.1 (TX12 41).2.2.1 ∈ GT := gt_in6 134 rfl rfl
theorem g_X12_286 (h : w_Cl l R D cs aS aV A cc nL RX12 nm K) (hd : decode cc pc = .ok (.getfield 286, 3)) (ht : t < n) (hC : rC t = 12) (kk : K ad n nl ce sl (pc + 3) lv (.int (vI (gi σ t 41)) :: st) σ) : K ad n nl ce sl pc lv (.ref (ad t) :: st) σ := r_getI (T := TX12) (N := 84) (k := 41) (co := 12) (Cn := RX12) h hd inG12 rfl (by decide) fl_X12_286 (by decide) ht hC (rNo_12 t hC) (by decide) kk
theorem p_X12_286 {x : Int} (h : w_Cl l R D cs aS aV A cc nL RX12 nm K) (hd : decode cc pc = .ok (.putfield 286, 3)) (ht : t < n) (hC : rC t = 12) (hx : rI x) (kk : K ad n nl ce sl (pc + 3) lv st (si σ t 41 x)) : K ad n nl ce sl pc lv (.int (vI x) :: .ref (ad t) :: st) σ := r_putI (T := TX12) (N := 84) (k := 41) (co := 12) (Cn := RX12) h hd inG12 tyX12 tyX12_ok nmX12 rfl (by decide) fl_X12_286 (by decide) ht hC (rNo_12 t hC) (by decide) rfl rfl hx kk
set_option maxRecDepth 100000 in
theorem fl_X12_289 : Cond.fieldLink RX12 289 (TX12 42).1 (TX12 42).2.1 (TX12 42).2.2.1 ∈ GT := gt_in6 135 rfl rfl
theorem g_X12_289 (h : w_Cl l R D cs aS aV A cc nL RX12 nm K) (hd : decode cc pc = .ok (.getfield 289, 3)) (ht : t < n) (hC : rC t = 12) (kk : K ad n nl ce sl (pc + 3) lv (.int (vI (gi σ t 42)) :: st) σ) : K ad n nl ce sl pc lv (.ref (ad t) :: st) σ := r_getI (T := TX12) (N := 84) (k := 42) (co := 12) (Cn := RX12) h hd inG12 rfl (by decide) fl_X12_289 (by decide) ht hC (rNo_12 t hC) (by decide) kk
theorem p_X12_289 {x : Int} (h : w_Cl l R D cs aS aV A cc nL RX12 nm K) (hd : decode cc pc = .ok (.putfield 289, 3)) (ht : t < n) (hC : rC t = 12) (hx : rI x) (kk : K ad n nl ce sl (pc + 3) lv st (si σ t 42 x)) : K ad n nl ce sl pc lv (.int (vI x) :: .ref (ad t) :: st) σ := r_putI (T := TX12) (N := 84) (k := 42) (co := 12) (Cn := RX12) h hd inG12 tyX12 tyX12_ok nmX12 rfl (by decide) fl_X12_289 (by decide) ht hC (rNo_12 t hC) (by decide) rfl rfl hx kk
set_option maxRecDepth 100000 in
theorem fl_X12_292 : Cond.fieldLink RX12 292 (TX12 2).1 (TX12 2).2.1 (TX12 2).2.2.1 ∈ GT := gt_in6 95 rfl rfl
theorem g_X12_292 (h : w_Cl l R D cs aS aV A cc nL RX12 nm K) (hd : decode cc pc = .ok (.getfield 292, 3)) (ht : t < n) (hC : rC t = 12) (kk : K ad n nl ce sl (pc + 3) lv (.int (vI (gi σ t 2)) :: st) σ) : K ad n nl ce sl pc lv (.ref (ad t) :: st) σ := r_getI (T := TX12) (N := 84) (k := 2) (co := 12) (Cn := RX12) h hd inG12 rfl (by decide) fl_X12_292 (by decide) ht hC (rNo_12 t hC) (by decide) kk
theorem p_X12_292 {x : Int} (h : w_Cl l R D cs aS aV A cc nL RX12 nm K) (hd : decode cc pc = .ok (.putfield 292, 3)) (ht : t < n) (hC : rC t = 12) (hx : rI x) (kk : K ad n nl ce sl (pc + 3) lv st (si σ t 2 x)) : K ad n nl ce sl pc lv (.int (vI x) :: .ref (ad t) :: st) σ := r_putI (T := TX12) (N := 84) (k := 2) (co := 12) (Cn := RX12) h hd inG12 tyX12 tyX12_ok nmX12 rfl (by decide) fl_X12_292 (by decide) ht hC (rNo_12 t hC) (by decide) rfl rfl hx kk
set_option maxRecDepth 100000 in
theorem fl_X12_295 : Cond.fieldLink RX12 295 (TX12 40).1 (TX12 40).2.1 (TX12 40).2.2.1 ∈ GT := gt_in6 133 rfl rfl
theorem g_X12_295 (h : w_Cl l R D cs aS aV A cc nL RX12 nm K) (hd : decode cc pc = .ok (.getfield 295, 3)) (ht : t < n) (hC : rC t = 12) (kk : K ad n nl ce sl (pc + 3) lv (.int (vI (gi σ t 40)) :: st) σ) : K ad n nl ce sl pc lv (.ref (ad t) :: st) σ := r_getI (T := TX12) (N := 84) (k := 40) (co := 12) (Cn := RX12) h hd inG12 rfl (by decide) fl_X12_295 (by decide) ht hC (rNo_12 t hC) (by decide) kk
theorem p_X12_295 {x : Int} (h : w_Cl l R D cs aS aV A cc nL RX12 nm K) (hd : decode cc pc = .ok (.putfield 295, 3)) (ht : t < n) (hC : rC t = 12) (hx : rI x) (kk : K ad n nl ce sl (pc + 3) lv st (si σ t 40 x)) : K ad n nl ce sl pc lv (.int (vI x) :: .ref (ad t) :: st) σ := r_putI (T := TX12) (N := 84) (k := 40) (co := 12) (Cn := RX12) h hd inG12 tyX12 tyX12_ok nmX12 rfl (by decide) fl_X12_295 (by decide) ht hC (rNo_12 t hC) (by decide) rfl rfl hx kk
set_option maxRecDepth 100000 in
theorem fl_X12_342 : Cond.fieldLink RX12 342 (TX12 45).1 (TX12 45).2.1 (TX12 45).2.2.1 ∈ GT := gt_in6 138 rfl rfl
theorem g_X12_342 (h : w_Cl l R D cs aS aV A cc nL RX12 nm K) (hd : decode cc pc = .ok (.getfield 342, 3)) (ht : t < n) (hC : rC t = 12) (kk : K ad n nl ce sl (pc + 3) lv (.int (vI (gi σ t 45)) :: st) σ) : K ad n nl ce sl pc lv (.ref (ad t) :: st) σ := r_getI (T := TX12) (N := 84) (k := 45) (co := 12) (Cn := RX12) h hd inG12 rfl (by decide) fl_X12_342 (by decide) ht hC (rNo_12 t hC) (by decide) kk
theorem p_X12_342 {x : Int} (h : w_Cl l R D cs aS aV A cc nL RX12 nm K) (hd : decode cc pc = .ok (.putfield 342, 3)) (ht : t < n) (hC : rC t = 12) (hx : rI x) (kk : K ad n nl ce sl (pc + 3) lv st (si σ t 45 x)) : K ad n nl ce sl pc lv (.int (vI x) :: .ref (ad t) :: st) σ := r_putI (T := TX12) (N := 84) (k := 45) (co := 12) (Cn := RX12) h hd inG12 tyX12 tyX12_ok nmX12 rfl (by decide) fl_X12_342 (by decide) ht hC (rNo_12 t hC) (by decide) rfl rfl hx kk
set_option maxRecDepth 100000 in
theorem fl_X12_348 : Cond.fieldLink RX12 348 (TX12 44).1 (TX12 44).2.1 (TX12 44).2.2.1 ∈ GT := gt_in6 137 rfl rfl
theorem g_X12_348 (h : w_Cl l R D cs aS aV A cc nL RX12 nm K) (hd : decode cc pc = .ok (.getfield 348, 3)) (ht : t < n) (hC : rC t = 12) (kk : K ad n nl ce sl (pc + 3) lv (.int (vI (gi σ t 44)) :: st) σ) : K ad n nl ce sl pc lv (.ref (ad t) :: st) σ := r_getI (T := TX12) (N := 84) (k := 44) (co := 12) (Cn := RX12) h hd inG12 rfl (by decide) fl_X12_348 (by decide) ht hC (rNo_12 t hC) (by decide) kk
theorem p_X12_348 {x : Int} (h : w_Cl l R D cs aS aV A cc nL RX12 nm K) (hd : decode cc pc = .ok (.putfield 348, 3)) (ht : t < n) (hC : rC t = 12) (hx : rI x) (kk : K ad n nl ce sl (pc + 3) lv st (si σ t 44 x)) : K ad n nl ce sl pc lv (.int (vI x) :: .ref (ad t) :: st) σ := r_putI (T := TX12) (N := 84) (k := 44) (co := 12) (Cn := RX12) h hd inG12 tyX12 tyX12_ok nmX12 rfl (by decide) fl_X12_348 (by decide) ht hC (rNo_12 t hC) (by decide) rfl rfl hx kk
set_option maxRecDepth 100000 in
theorem fl_X12_351 : Cond.fieldLink RX12 351 (TX12 43).1 (TX12 43).2.1 (TX12 43).2.2.1 ∈ GT := gt_in6 136 rfl rfl
theorem g_X12_351 (h : w_Cl l R D cs aS aV A cc nL RX12 nm K) (hd : decode cc pc = .ok (.getfield 351, 3)) (ht : t < n) (hC : rC t = 12) (kk : K ad n nl ce sl (pc + 3) lv (.int (vI (gi σ t 43)) :: st) σ) : K ad n nl ce sl pc lv (.ref (ad t) :: st) σ := r_getI (T := TX12) (N := 84) (k := 43) (co := 12) (Cn := RX12) h hd inG12 rfl (by decide) fl_X12_351 (by decide) ht hC (rNo_12 t hC) (by decide) kk
theorem p_X12_351 {x : Int} (h : w_Cl l R D cs aS aV A cc nL RX12 nm K) (hd : decode cc pc = .ok (.putfield 351, 3)) (ht : t < n) (hC : rC t = 12) (hx : rI x) (kk : K ad n nl ce sl (pc + 3) lv st (si σ t 43 x)) : K ad n nl ce sl pc lv (.int (vI x) :: .ref (ad t) :: st) σ := r_putI (T := TX12) (N := 84) (k := 43) (co := 12) (Cn := RX12) h hd inG12 tyX12 tyX12_ok nmX12 rfl (by decide) fl_X12_351 (by decide) ht hC (rNo_12 t hC) (by decide) rfl rfl hx kk
set_option maxRecDepth 100000 in
theorem fl_X12_375 : Cond.fieldLink RX12 375 (TX12 46).1 (TX12 46).2.1 (TX12 46).2.2.1 ∈ GT := gt_in6 139 rfl rfl
theorem g_X12_375 (h : w_Cl l R D cs aS aV A cc nL RX12 nm K) (hd : decode cc pc = .ok (.getfield 375, 3)) (ht : t < n) (hC : rC t = 12) (kk : K ad n nl ce sl (pc + 3) lv (.int (vI (gi σ t 46)) :: st) σ) : K ad n nl ce sl pc lv (.ref (ad t) :: st) σ := r_getI (T := TX12) (N := 84) (k := 46) (co := 12) (Cn := RX12) h hd inG12 rfl (by decide) fl_X12_375 (by decide) ht hC (rNo_12 t hC) (by decide) kk
theorem p_X12_375 {x : Int} (h : w_Cl l R D cs aS aV A cc nL RX12 nm K) (hd : decode cc pc = .ok (.putfield 375, 3)) (ht : t < n) (hC : rC t = 12) (hx : rI x) (kk : K ad n nl ce sl (pc + 3) lv st (si σ t 46 x)) : K ad n nl ce sl pc lv (.int (vI x) :: .ref (ad t) :: st) σ := r_putI (T := TX12) (N := 84) (k := 46) (co := 12) (Cn := RX12) h hd inG12 tyX12 tyX12_ok nmX12 rfl (by decide) fl_X12_375 (by decide) ht hC (rNo_12 t hC) (by decide) rfl rfl hx kk
set_option maxRecDepth 100000 in
theorem fl_X12_378 : Cond.fieldLink RX12 378 (TX12 47).1 (TX12 47).2.1 (TX12 47).2.2.1 ∈ GT := gt_in6 140 rfl rfl
theorem g_X12_378 (h : w_Cl l R D cs aS aV A cc nL RX12 nm K) (hd : decode cc pc = .ok (.getfield 378, 3)) (ht : t < n) (hC : rC t = 12) (kk : K ad n nl ce sl (pc + 3) lv (.int (vI (gi σ t 47)) :: st) σ) : K ad n nl ce sl pc lv (.ref (ad t) :: st) σ := r_getI (T := TX12) (N := 84) (k := 47) (co := 12) (Cn := RX12) h hd inG12 rfl (by decide) fl_X12_378 (by decide) ht hC (rNo_12 t hC) (by decide) kk
theorem p_X12_378 {x : Int} (h : w_Cl l R D cs aS aV A cc nL RX12 nm K) (hd : decode cc pc = .ok (.putfield 378, 3)) (ht : t < n) (hC : rC t = 12) (hx : rI x) (kk : K ad n nl ce sl (pc + 3) lv st (si σ t 47 x)) : K ad n nl ce sl pc lv (.int (vI x) :: .ref (ad t) :: st) σ := r_putI (T := TX12) (N := 84) (k := 47) (co := 12) (Cn := RX12) h hd inG12 tyX12 tyX12_ok nmX12 rfl (by decide) fl_X12_378 (by decide) ht hC (rNo_12 t hC) (by decide) rfl rfl hx kk
set_option maxRecDepth 100000 in
theorem fl_X12_381 : Cond.fieldLink RX12 381 (TX12 48).1 (TX12 48).2.1 (TX12 48).2.2.1 ∈ GT := gt_in6 141 rfl rfl
theorem g_X12_381 (h : w_Cl l R D cs aS aV A cc nL RX12 nm K) (hd : decode cc pc = .ok (.getfield 381, 3)) (ht : t < n) (hC : rC t = 12) (kk : K ad n nl ce sl (pc + 3) lv (.int (vI (gi σ t 48)) :: st) σ) : K ad n nl ce sl pc lv (.ref (ad t) :: st) σ := r_getI (T := TX12) (N := 84) (k := 48) (co := 12) (Cn := RX12) h hd inG12 rfl (by decide) fl_X12_381 (by decide) ht hC (rNo_12 t hC) (by decide) kk
theorem p_X12_381 {x : Int} (h : w_Cl l R D cs aS aV A cc nL RX12 nm K) (hd : decode cc pc = .ok (.putfield 381, 3)) (ht : t < n) (hC : rC t = 12) (hx : rI x) (kk : K ad n nl ce sl (pc + 3) lv st (si σ t 48 x)) : K ad n nl ce sl pc lv (.int (vI x) :: .ref (ad t) :: st) σ := r_putI (T := TX12) (N := 84) (k := 48) (co := 12) (Cn := RX12) h hd inG12 tyX12 tyX12_ok nmX12 rfl (by decide) fl_X12_381 (by decide) ht hC (rNo_12 t hC) (by decide) rfl rfl hx kk
set_option maxRecDepth 100000 in
theorem fl_X12_384 : Cond.fieldLink RX12 384 (TX12 49).1 (TX12 49).2.1 (TX12 49).2.2.1 ∈ GT := gt_in6 142 rfl rfl
theorem g_X12_384 (h : w_Cl l R D cs aS aV A cc nL RX12 nm K) (hd : decode cc pc = .ok (.getfield 384, 3)) (ht : t < n) (hC : rC t = 12) (kk : K ad n nl ce sl (pc + 3) lv (.int (vI (gi σ t 49)) :: st) σ) : K ad n nl ce sl pc lv (.ref (ad t) :: st) σ := r_getI (T := TX12) (N := 84) (k := 49) (co := 12) (Cn := RX12) h hd inG12 rfl (by decide) fl_X12_384 (by decide) ht hC (rNo_12 t hC) (by decide) kk
theorem p_X12_384 {x : Int} (h : w_Cl l R D cs aS aV A cc nL RX12 nm K) (hd : decode cc pc = .ok (.putfield 384, 3)) (ht : t < n) (hC : rC t = 12) (hx : rI x) (kk : K ad n nl ce sl (pc + 3) lv st (si σ t 49 x)) : K ad n nl ce sl pc lv (.int (vI x) :: .ref (ad t) :: st) σ := r_putI (T := TX12) (N := 84) (k := 49) (co := 12) (Cn := RX12) h hd inG12 tyX12 tyX12_ok nmX12 rfl (by decide) fl_X12_384 (by decide) ht hC (rNo_12 t hC) (by decide) rfl rfl hx kk
set_option maxRecDepth 100000 in
theorem fl_X12_387 : Cond.fieldLink RX12 387 (TX12 50).1 (TX12 50).2.1 (TX12 50).2.2.1 ∈ GT := gt_in6 143 rfl rfl
theorem g_X12_387 (h : w_Cl l R D cs aS aV A cc nL RX12 nm K) (hd : decode cc pc = .ok (.getfield 387, 3)) (ht : t < n) (hC : rC t = 12) (kk : K ad n nl ce sl (pc + 3) lv (.int (vI (gi σ t 50)) :: st) σ) : K ad n nl ce sl pc lv (.ref (ad t) :: st) σ := r_getI (T := TX12) (N := 84) (k := 50) (co := 12) (Cn := RX12) h hd inG12 rfl (by decide) fl_X12_387 (by decide) ht hC (rNo_12 t hC) (by decide) kk
theorem p_X12_387 {x : Int} (h : w_Cl l R D cs aS aV A cc nL RX12 nm K) (hd : decode cc pc = .ok (.putfield 387, 3)) (ht : t < n) (hC : rC t = 12) (hx : rI x) (kk : K ad n nl ce sl (pc + 3) lv st (si σ t 50 x)) : K ad n nl ce sl pc lv (.int (vI x) :: .ref (ad t) :: st) σ := r_putI (T := TX12) (N := 84) (k := 50) (co := 12) (Cn := RX12) h hd inG12 tyX12 tyX12_ok nmX12 rfl (by decide) fl_X12_387 (by decide) ht hC (rNo_12 t hC) (by decide) rfl rfl hx kk
set_option maxRecDepth 100000 in
theorem fl_X12_390 : Cond.fieldLink RX12 390 (TX12 51).1 (TX12 51).2.1 (TX12 51).2.2.1 ∈ GT := gt_in6 144 rfl rfl
theorem g_X12_390 (h : w_Cl l R D cs aS aV A cc nL RX12 nm K) (hd : decode cc pc = .ok (.getfield 390, 3)) (ht : t < n) (hC : rC t = 12) (kk : K ad n nl ce sl (pc + 3) lv (.int (vI (gi σ t 51)) :: st) σ) : K ad n nl ce sl pc lv (.ref (ad t) :: st) σ := r_getI (T := TX12) (N := 84) (k := 51) (co := 12) (Cn := RX12) h hd inG12 rfl (by decide) fl_X12_390 (by decide) ht hC (rNo_12 t hC) (by decide) kk
theorem p_X12_390 {x : Int} (h : w_Cl l R D cs aS aV A cc nL RX12 nm K) (hd : decode cc pc = .ok (.putfield 390, 3)) (ht : t < n) (hC : rC t = 12) (hx : rI x) (kk : K ad n nl ce sl (pc + 3) lv st (si σ t 51 x)) : K ad n nl ce sl pc lv (.int (vI x) :: .ref (ad t) :: st) σ := r_putI (T := TX12) (N := 84) (k := 51) (co := 12) (Cn := RX12) h hd inG12 tyX12 tyX12_ok nmX12 rfl (by decide) fl_X12_390 (by decide) ht hC (rNo_12 t hC) (by decide) rfl rfl hx kk
set_option maxRecDepth 100000 in
theorem fl_X12_407 : Cond.fieldLink RX12 407 (TX12 54).1 (TX12 54).2.1 (TX12 54).2.2.1 ∈ GT := gt_in6 147 rfl rfl
theorem g_X12_407 (h : w_Cl l R D cs aS aV A cc nL RX12 nm K) (hd : decode cc pc = .ok (.getfield 407, 3)) (ht : t < n) (hC : rC t = 12) (kk : K ad n nl ce sl (pc + 3) lv (.int (vI (gi σ t 54)) :: st) σ) : K ad n nl ce sl pc lv (.ref (ad t) :: st) σ := r_getI (T := TX12) (N := 84) (k := 54) (co := 12) (Cn := RX12) h hd inG12 rfl (by decide) fl_X12_407 (by decide) ht hC (rNo_12 t hC) (by decide) kk
theorem p_X12_407 {x : Int} (h : w_Cl l R D cs aS aV A cc nL RX12 nm K) (hd : decode cc pc = .ok (.putfield 407, 3)) (ht : t < n) (hC : rC t = 12) (hx : x = 0 ∨ x = 1) (kk : K ad n nl ce sl (pc + 3) lv st (si σ t 54 x)) : K ad n nl ce sl pc lv (.int (vI x) :: .ref (ad t) :: st) σ := r_putZ (T := TX12) (N := 84) (k := 54) (co := 12) (Cn := RX12) h hd inG12 tyX12 tyX12_ok nmX12 rfl (by decide) fl_X12_407 (by decide) ht hC (rNo_12 t hC) (by decide) rfl rfl hx kk
set_option maxRecDepth 100000 in
theorem fl_X12_454 : Cond.fieldLink RX12 454 (TX12 56).1 (TX12 56).2.1 (TX12 56).2.2.1 ∈ GT := gt_in6 149 rfl rfl
theorem g_X12_454 (h : w_Cl l R D cs aS aV A cc nL RX12 nm K) (hd : decode cc pc = .ok (.getfield 454, 3)) (ht : t < n) (hC : rC t = 12) (kk : K ad n nl ce sl (pc + 3) lv (.int (vI (gi σ t 56)) :: st) σ) : K ad n nl ce sl pc lv (.ref (ad t) :: st) σ := r_getI (T := TX12) (N := 84) (k := 56) (co := 12) (Cn := RX12) h hd inG12 rfl (by decide) fl_X12_454 (by decide) ht hC (rNo_12 t hC) (by decide) kk
theorem p_X12_454 {x : Int} (h : w_Cl l R D cs aS aV A cc nL RX12 nm K) (hd : decode cc pc = .ok (.putfield 454, 3)) (ht : t < n) (hC : rC t = 12) (hx : rI x) (kk : K ad n nl ce sl (pc + 3) lv st (si σ t 56 x)) : K ad n nl ce sl pc lv (.int (vI x) :: .ref (ad t) :: st) σ := r_putI (T := TX12) (N := 84) (k := 56) (co := 12) (Cn := RX12) h hd inG12 tyX12 tyX12_ok nmX12 rfl (by decide) fl_X12_454 (by decide) ht hC (rNo_12 t hC) (by decide) rfl rfl hx kk
set_option maxRecDepth 100000 in
theorem fl_X12_457 : Cond.fieldLink RX12 457 (TX12 57).1 (TX12 57).2.1 (TX12 57).2.2.1 ∈ GT := gt_in6 150 rfl rfl
theorem g_X12_457 (h : w_Cl l R D cs aS aV A cc nL RX12 nm K) (hd : decode cc pc = .ok (.getfield 457, 3)) (ht : t < n) (hC : rC t = 12) (kk : K ad n nl ce sl (pc + 3) lv (.int (vI (gi σ t 57)) :: st) σ) : K ad n nl ce sl pc lv (.ref (ad t) :: st) σ := r_getI (T := TX12) (N := 84) (k := 57) (co := 12) (Cn := RX12) h hd inG12 rfl (by decide) fl_X12_457 (by decide) ht hC (rNo_12 t hC) (by decide) kk
theorem p_X12_457 {x : Int} (h : w_Cl l R D cs aS aV A cc nL RX12 nm K) (hd : decode cc pc = .ok (.putfield 457, 3)) (ht : t < n) (hC : rC t = 12) (hx : rI x) (kk : K ad n nl ce sl (pc + 3) lv st (si σ t 57 x)) : K ad n nl ce sl pc lv (.int (vI x) :: .ref (ad t) :: st) σ := r_putI (T := TX12) (N := 84) (k := 57) (co := 12) (Cn := RX12) h hd inG12 tyX12 tyX12_ok nmX12 rfl (by decide) fl_X12_457 (by decide) ht hC (rNo_12 t hC) (by decide) rfl rfl hx kk
set_option maxRecDepth 100000 in
theorem fl_X12_460 : Cond.fieldLink RX12 460 (TX12 61).1 (TX12 61).2.1 (TX12 61).2.2.1 ∈ GT := gt_in6 154 rfl rfl
theorem g_X12_460 (h : w_Cl l R D cs aS aV A cc nL RX12 nm K) (hd : decode cc pc = .ok (.getfield 460, 3)) (ht : t < n) (hC : rC t = 12) (kk : K ad n nl ce sl (pc + 3) lv (.int (vI (gi σ t 61)) :: st) σ) : K ad n nl ce sl pc lv (.ref (ad t) :: st) σ := r_getI (T := TX12) (N := 84) (k := 61) (co := 12) (Cn := RX12) h hd inG12 rfl (by decide) fl_X12_460 (by decide) ht hC (rNo_12 t hC) (by decide) kk
theorem p_X12_460 {x : Int} (h : w_Cl l R D cs aS aV A cc nL RX12 nm K) (hd : decode cc pc = .ok (.putfield 460, 3)) (ht : t < n) (hC : rC t = 12) (hx : rI x) (kk : K ad n nl ce sl (pc + 3) lv st (si σ t 61 x)) : K ad n nl ce sl pc lv (.int (vI x) :: .ref (ad t) :: st) σ := r_putI (T := TX12) (N := 84) (k := 61) (co := 12) (Cn := RX12) h hd inG12 tyX12 tyX12_ok nmX12 rfl (by decide) fl_X12_460 (by decide) ht hC (rNo_12 t hC) (by decide) rfl rfl hx kk
set_option maxRecDepth 100000 in
theorem fl_X12_463 : Cond.fieldLink RX12 463 (TX12 79).1 (TX12 79).2.1 (TX12 79).2.2.1 ∈ GT := gt_in6 172 rfl rfl
theorem g_X12_463 (h : w_Cl l R D cs aS aV A cc nL RX12 nm K) (hd : decode cc pc = .ok (.getfield 463, 3)) (ht : t < n) (hC : rC t = 12) (kk : K ad n nl ce sl (pc + 3) lv (.int (vI (gi σ t 79)) :: st) σ) : K ad n nl ce sl pc lv (.ref (ad t) :: st) σ := r_getI (T := TX12) (N := 84) (k := 79) (co := 12) (Cn := RX12) h hd inG12 rfl (by decide) fl_X12_463 (by decide) ht hC (rNo_12 t hC) (by decide) kk
theorem p_X12_463 {x : Int} (h : w_Cl l R D cs aS aV A cc nL RX12 nm K) (hd : decode cc pc = .ok (.putfield 463, 3)) (ht : t < n) (hC : rC t = 12) (hx : rI x) (kk : K ad n nl ce sl (pc + 3) lv st (si σ t 79 x)) : K ad n nl ce sl pc lv (.int (vI x) :: .ref (ad t) :: st) σ := r_putI (T := TX12) (N := 84) (k := 79) (co := 12) (Cn := RX12) h hd inG12 tyX12 tyX12_ok nmX12 rfl (by decide) fl_X12_463 (by decide) ht hC (rNo_12 t hC) (by decide) rfl rfl hx kk
set_option maxRecDepth 100000 in
theorem fl_X12_466 : Cond.fieldLink RX12 466 (TX12 62).1 (TX12 62).2.1 (TX12 62).2.2.1 ∈ GT := gt_in6 155 rfl rfl
theorem g_X12_466 (h : w_Cl l R D cs aS aV A cc nL RX12 nm K) (hd : decode cc pc = .ok (.getfield 466, 3)) (ht : t < n) (hC : rC t = 12) (kk : K ad n nl ce sl (pc + 3) lv (.int (vI (gi σ t 62)) :: st) σ) : K ad n nl ce sl pc lv (.ref (ad t) :: st) σ := r_getI (T := TX12) (N := 84) (k := 62) (co := 12) (Cn := RX12) h hd inG12 rfl (by decide) fl_X12_466 (by decide) ht hC (rNo_12 t hC) (by decide) kk
theorem p_X12_466 {x : Int} (h : w_Cl l R D cs aS aV A cc nL RX12 nm K) (hd : decode cc pc = .ok (.putfield 466, 3)) (ht : t < n) (hC : rC t = 12) (hx : rI x) (kk : K ad n nl ce sl (pc + 3) lv st (si σ t 62 x)) : K ad n nl ce sl pc lv (.int (vI x) :: .ref (ad t) :: st) σ := r_putI (T := TX12) (N := 84) (k := 62) (co := 12) (Cn := RX12) h hd inG12 tyX12 tyX12_ok nmX12 rfl (by decide) fl_X12_466 (by decide) ht hC (rNo_12 t hC) (by decide) rfl rfl hx kk
set_option maxRecDepth 100000 in
theorem fl_X12_487 : Cond.fieldLink RX12 487 (TX12 63).1 (TX12 63).2.1 (TX12 63).2.2.1 ∈ GT := gt_in6 156 rfl rfl
theorem g_X12_487 (h : w_Cl l R D cs aS aV A cc nL RX12 nm K) (hd : decode cc pc = .ok (.getfield 487, 3)) (ht : t < n) (hC : rC t = 12) (kk : K ad n nl ce sl (pc + 3) lv (.int (vI (gi σ t 63)) :: st) σ) : K ad n nl ce sl pc lv (.ref (ad t) :: st) σ := r_getI (T := TX12) (N := 84) (k := 63) (co := 12) (Cn := RX12) h hd inG12 rfl (by decide) fl_X12_487 (by decide) ht hC (rNo_12 t hC) (by decide) kk
theorem p_X12_487 {x : Int} (h : w_Cl l R D cs aS aV A cc nL RX12 nm K) (hd : decode cc pc = .ok (.putfield 487, 3)) (ht : t < n) (hC : rC t = 12) (hx : rI x) (kk : K ad n nl ce sl (pc + 3) lv st (si σ t 63 x)) : K ad n nl ce sl pc lv (.int (vI x) :: .ref (ad t) :: st) σ := r_putI (T := TX12) (N := 84) (k := 63) (co := 12) (Cn := RX12) h hd inG12 tyX12 tyX12_ok nmX12 rfl (by decide) fl_X12_487 (by decide) ht hC (rNo_12 t hC) (by decide) rfl rfl hx kk
set_option maxRecDepth 100000 in
theorem fl_X12_490 : Cond.fieldLink RX12 490 (TX12 64).1 (TX12 64).2.1 (TX12 64).2.2.1 ∈ GT := gt_in6 157 rfl rfl
theorem g_X12_490 (h : w_Cl l R D cs aS aV A cc nL RX12 nm K) (hd : decode cc pc = .ok (.getfield 490, 3)) (ht : t < n) (hC : rC t = 12) (kk : K ad n nl ce sl (pc + 3) lv (.int (vI (gi σ t 64)) :: st) σ) : K ad n nl ce sl pc lv (.ref (ad t) :: st) σ := r_getI (T := TX12) (N := 84) (k := 64) (co := 12) (Cn := RX12) h hd inG12 rfl (by decide) fl_X12_490 (by decide) ht hC (rNo_12 t hC) (by decide) kk
theorem p_X12_490 {x : Int} (h : w_Cl l R D cs aS aV A cc nL RX12 nm K) (hd : decode cc pc = .ok (.putfield 490, 3)) (ht : t < n) (hC : rC t = 12) (hx : rI x) (kk : K ad n nl ce sl (pc + 3) lv st (si σ t 64 x)) : K ad n nl ce sl pc lv (.int (vI x) :: .ref (ad t) :: st) σ := r_putI (T := TX12) (N := 84) (k := 64) (co := 12) (Cn := RX12) h hd inG12 tyX12 tyX12_ok nmX12 rfl (by decide) fl_X12_490 (by decide) ht hC (rNo_12 t hC) (by decide) rfl rfl hx kk
set_option maxRecDepth 100000 in
theorem fl_X12_500 : Cond.fieldLink RX12 500 (TX12 67).1 (TX12 67).2.1 (TX12 67).2.2.1 ∈ GT := gt_in6 160 rfl rfl
theorem g_X12_500 (h : w_Cl l R D cs aS aV A cc nL RX12 nm K) (hd : decode cc pc = .ok (.getfield 500, 3)) (ht : t < n) (hC : rC t = 12) (kk : K ad n nl ce sl (pc + 3) lv (.int (vI (gi σ t 67)) :: st) σ) : K ad n nl ce sl pc lv (.ref (ad t) :: st) σ := r_getI (T := TX12) (N := 84) (k := 67) (co := 12) (Cn := RX12) h hd inG12 rfl (by decide) fl_X12_500 (by decide) ht hC (rNo_12 t hC) (by decide) kk
theorem p_X12_500 {x : Int} (h : w_Cl l R D cs aS aV A cc nL RX12 nm K) (hd : decode cc pc = .ok (.putfield 500, 3)) (ht : t < n) (hC : rC t = 12) (hx : rI x) (kk : K ad n nl ce sl (pc + 3) lv st (si σ t 67 x)) : K ad n nl ce sl pc lv (.int (vI x) :: .ref (ad t) :: st) σ := r_putI (T := TX12) (N := 84) (k := 67) (co := 12) (Cn := RX12) h hd inG12 tyX12 tyX12_ok nmX12 rfl (by decide) fl_X12_500 (by decide) ht hC (rNo_12 t hC) (by decide) rfl rfl hx kk
set_option maxRecDepth 100000 in
theorem fl_X12_524 : Cond.fieldLink RX12 524 (TX12 68).1 (TX12 68).2.1 (TX12 68).2.2.1 ∈ GT := gt_in6 161 rfl rfl
theorem g_X12_524 (h : w_Cl l R D cs aS aV A cc nL RX12 nm K) (hd : decode cc pc = .ok (.getfield 524, 3)) (ht : t < n) (hC : rC t = 12) (kk : K ad n nl ce sl (pc + 3) lv (.int (vI (gi σ t 68)) :: st) σ) : K ad n nl ce sl pc lv (.ref (ad t) :: st) σ := r_getI (T := TX12) (N := 84) (k := 68) (co := 12) (Cn := RX12) h hd inG12 rfl (by decide) fl_X12_524 (by decide) ht hC (rNo_12 t hC) (by decide) kk
theorem p_X12_524 {x : Int} (h : w_Cl l R D cs aS aV A cc nL RX12 nm K) (hd : decode cc pc = .ok (.putfield 524, 3)) (ht : t < n) (hC : rC t = 12) (hx : rI x) (kk : K ad n nl ce sl (pc + 3) lv st (si σ t 68 x)) : K ad n nl ce sl pc lv (.int (vI x) :: .ref (ad t) :: st) σ := r_putI (T := TX12) (N := 84) (k := 68) (co := 12) (Cn := RX12) h hd inG12 tyX12 tyX12_ok nmX12 rfl (by decide) fl_X12_524 (by decide) ht hC (rNo_12 t hC) (by decide) rfl rfl hx kk
set_option maxRecDepth 100000 in
theorem fl_X12_568 : Cond.fieldLink RX12 568 (TX12 80).1 (TX12 80).2.1 (TX12 80).2.2.1 ∈ GT := gt_in6 173 rfl rfl
theorem g_X12_568 (h : w_Cl l R D cs aS aV A cc nL RX12 nm K) (hd : decode cc pc = .ok (.getfield 568, 3)) (ht : t < n) (hC : rC t = 12) (kk : K ad n nl ce sl (pc + 3) lv (.int (vI (gi σ t 80)) :: st) σ) : K ad n nl ce sl pc lv (.ref (ad t) :: st) σ := r_getI (T := TX12) (N := 84) (k := 80) (co := 12) (Cn := RX12) h hd inG12 rfl (by decide) fl_X12_568 (by decide) ht hC (rNo_12 t hC) (by decide) kk
theorem p_X12_568 {x : Int} (h : w_Cl l R D cs aS aV A cc nL RX12 nm K) (hd : decode cc pc = .ok (.putfield 568, 3)) (ht : t < n) (hC : rC t = 12) (hx : rI x) (kk : K ad n nl ce sl (pc + 3) lv st (si σ t 80 x)) : K ad n nl ce sl pc lv (.int (vI x) :: .ref (ad t) :: st) σ := r_putI (T := TX12) (N := 84) (k := 80) (co := 12) (Cn := RX12) h hd inG12 tyX12 tyX12_ok nmX12 rfl (by decide) fl_X12_568 (by decide) ht hC (rNo_12 t hC) (by decide) rfl rfl hx kk
set_option maxRecDepth 100000 in
theorem fl_X2_9 : Cond.fieldLink RX2 9 (TX2 0).1 (TX2 0).2.1 (TX2 0).2.2.1 ∈ GT := gt_in1 40 rfl rfl
theorem g_X2_9 (h : w_Cl l R D cs aS aV A cc nL RX2 nm K) (hd : decode cc pc = .ok (.getfield 9, 3)) (ht : t < n) (hC : rC t = 2) (hnl : nl t 0 = true) (kk : K ad n nl ce sl (pc + 3) lv (.ref (ad (t + 1)) :: st) σ) : K ad n nl ce sl pc lv (.ref (ad t) :: st) σ := r_getR (T := TX2) (N := 4) (k := 0) (co := 2) (Cn := RX2) h hd inG2 rfl (by decide) fl_X2_9 (by decide) ht hC (rNo_2 t hC) (by decide) hnl (t + 1) (rf_2_0 t hC).1 kk
theorem p_X2_9 (h : w_Cl l R D cs aS aV A cc nL RX2 "<init>" K) (hd : decode cc pc = .ok (.putfield 9, 3)) (ht : t < n) (hC : rC t = 2) (kk : K ad n (nu nl t 0) ce sl (pc + 3) lv st σ) : K ad n nl ce sl pc lv (.ref (ad (t + 1)) :: .ref (ad t) :: st) σ := r_putR (T := TX2) (N := 4) (k := 0) (co := 2) (Cn := RX2) h hd inG2 tyX2 tyX2_ok nmX2 rfl (by decide) fl_X2_9 (by decide) ht hC (rNo_2 t hC) (by decide) rfl rfl rfl (fun _ => ⟨rfl, rfl⟩) (rf_2_0 t hC).1 kk
set_option maxRecDepth 100000 in
theorem fl_X2_15 : Cond.fieldLink RX2 15 (TX2 1).1 (TX2 1).2.1 (TX2 1).2.2.1 ∈ GT := gt_in1 41 rfl rfl
theorem g_X2_15 (h : w_Cl l R D cs aS aV A cc nL RX2 nm K) (hd : decode cc pc = .ok (.getfield 15, 3)) (ht : t < n) (hC : rC t = 2) (hnl : nl t 1 = true) (kk : K ad n nl ce sl (pc + 3) lv (.ref (ad (t + 2)) :: st) σ) : K ad n nl ce sl pc lv (.ref (ad t) :: st) σ := r_getR (T := TX2) (N := 4) (k := 1) (co := 2) (Cn := RX2) h hd inG2 rfl (by decide) fl_X2_15 (by decide) ht hC (rNo_2 t hC) (by decide) hnl (t + 2) (rf_2_1 t hC).1 kk
theorem p_X2_15 (h : w_Cl l R D cs aS aV A cc nL RX2 "<init>" K) (hd : decode cc pc = .ok (.putfield 15, 3)) (ht : t < n) (hC : rC t = 2) (kk : K ad n (nu nl t 1) ce sl (pc + 3) lv st σ) : K ad n nl ce sl pc lv (.ref (ad (t + 2)) :: .ref (ad t) :: st) σ := r_putR (T := TX2) (N := 4) (k := 1) (co := 2) (Cn := RX2) h hd inG2 tyX2 tyX2_ok nmX2 rfl (by decide) fl_X2_15 (by decide) ht hC (rNo_2 t hC) (by decide) rfl rfl rfl (fun _ => ⟨rfl, rfl⟩) (rf_2_1 t hC).1 kk
set_option maxRecDepth 100000 in
theorem fl_X2_18 : Cond.fieldLink RX2 18 (TX2 2).1 (TX2 2).2.1 (TX2 2).2.2.1 ∈ GT := gt_in1 42 rfl rfl
theorem g_X2_18 (h : w_Cl l R D cs aS aV A cc nL RX2 nm K) (hd : decode cc pc = .ok (.getfield 18, 3)) (ht : t < n) (hC : rC t = 2) (kk : K ad n nl ce sl (pc + 3) lv (.int (vI (gi σ t 2)) :: st) σ) : K ad n nl ce sl pc lv (.ref (ad t) :: st) σ := r_getI (T := TX2) (N := 4) (k := 2) (co := 2) (Cn := RX2) h hd inG2 rfl (by decide) fl_X2_18 (by decide) ht hC (rNo_2 t hC) (by decide) kk
theorem p_X2_18 {x : Int} (h : w_Cl l R D cs aS aV A cc nL RX2 nm K) (hd : decode cc pc = .ok (.putfield 18, 3)) (ht : t < n) (hC : rC t = 2) (hx : rI x) (kk : K ad n nl ce sl (pc + 3) lv st (si σ t 2 x)) : K ad n nl ce sl pc lv (.int (vI x) :: .ref (ad t) :: st) σ := r_putI (T := TX2) (N := 4) (k := 2) (co := 2) (Cn := RX2) h hd inG2 tyX2 tyX2_ok nmX2 rfl (by decide) fl_X2_18 (by decide) ht hC (rNo_2 t hC) (by decide) rfl rfl hx kk
set_option maxRecDepth 100000 in
theorem fl_X2_22 : Cond.fieldLink RX2 22 (TX2 3).1 (TX2 3).2.1 (TX2 3).2.2.1 ∈ GT := gt_in1 43 rfl rfl
theorem p_X2_22 {x : Int} (h : w_Cl l R D cs aS aV A cc nL RX2 nm K) (hd : decode cc pc = .ok (.putfield 22, 3)) (ht : t < n) (hC : rC t = 2) (hx : rI x) (kk : K ad n nl ce sl (pc + 3) lv st (si σ t 3 x)) : K ad n nl ce sl pc lv (.int (vI x) :: .ref (ad t) :: st) σ := r_putI (T := TX2) (N := 4) (k := 3) (co := 2) (Cn := RX2) h hd inG2 tyX2 tyX2_ok nmX2 rfl (by decide) fl_X2_22 (by decide) ht hC (rNo_2 t hC) (by decide) rfl rfl hx kk
set_option maxRecDepth 100000 in
theorem fl_X3_9 : Cond.fieldLink RX3 9 (TX3 1).1 (TX3 1).2.1 (TX3 1).2.2.1 ∈ GT := gt_in1 216 rfl rfl
theorem g_X3_9 (h : w_Cl l R D cs aS aV A cc nL RX3 nm K) (hd : decode cc pc = .ok (.getfield 9, 3)) (ht : t < n) (hC : rC t = 3) (hnl : nl t 1 = true) (kk : K ad n nl ce sl (pc + 3) lv (.ref (ad (45)) :: st) σ) : K ad n nl ce sl pc lv (.ref (ad t) :: st) σ := r_getR (T := TX3) (N := 5) (k := 1) (co := 3) (Cn := RX3) h hd inG3 rfl (by decide) fl_X3_9 (by decide) ht hC (rNo_3 t hC) (by decide) hnl (45) (by have z : t = 44 := rC_uni3 t hC; subst z; exact rf_3_1) kk
theorem p_X3_9 (h : w_Cl l R D cs aS aV A cc nL RX3 "<init>" K) (hd : decode cc pc = .ok (.putfield 9, 3)) (ht : t < n) (hC : rC t = 3) (kk : K ad n (nu nl t 1) ce sl (pc + 3) lv st σ) : K ad n nl ce sl pc lv (.ref (ad (45)) :: .ref (ad t) :: st) σ := r_putR (T := TX3) (N := 5) (k := 1) (co := 3) (Cn := RX3) h hd inG3 tyX3 tyX3_ok nmX3 rfl (by decide) fl_X3_9 (by decide) ht hC (rNo_3 t hC) (by decide) rfl rfl rfl (fun _ => ⟨rfl, rfl⟩) (by have z : t = 44 := rC_uni3 t hC; subst z; exact rf_3_1) kk
set_option maxRecDepth 100000 in
theorem fl_X3_15 : Cond.fieldLink RX3 15 (TX3 0).1 (TX3 0).2.1 (TX3 0).2.2.1 ∈ GT := gt_in1 215 rfl rfl
theorem g_X3_15 (h : w_Cl l R D cs aS aV A cc nL RX3 nm K) (hd : decode cc pc = .ok (.getfield 15, 3)) (ht : t < n) (hC : rC t = 3) (hnl : nl t 0 = true) (kk : K ad n nl ce sl (pc + 3) lv (.ref (ad (43)) :: st) σ) : K ad n nl ce sl pc lv (.ref (ad t) :: st) σ := r_getR (T := TX3) (N := 5) (k := 0) (co := 3) (Cn := RX3) h hd inG3 rfl (by decide) fl_X3_15 (by decide) ht hC (rNo_3 t hC) (by decide) hnl (43) (by have z : t = 44 := rC_uni3 t hC; subst z; exact rf_3_0) kk
theorem p_X3_15 (h : w_Cl l R D cs aS aV A cc nL RX3 "<init>" K) (hd : decode cc pc = .ok (.putfield 15, 3)) (ht : t < n) (hC : rC t = 3) (kk : K ad n (nu nl t 0) ce sl (pc + 3) lv st σ) : K ad n nl ce sl pc lv (.ref (ad (43)) :: .ref (ad t) :: st) σ := r_putR (T := TX3) (N := 5) (k := 0) (co := 3) (Cn := RX3) h hd inG3 tyX3 tyX3_ok nmX3 rfl (by decide) fl_X3_15 (by decide) ht hC (rNo_3 t hC) (by decide) rfl rfl rfl (fun _ => ⟨rfl, rfl⟩) (by have z : t = 44 := rC_uni3 t hC; subst z; exact rf_3_0) kk
set_option maxRecDepth 100000 in
theorem fl_X3_24 : Cond.fieldLink RX3 24 (TX3 2).1 (TX3 2).2.1 (TX3 2).2.2.1 ∈ GT := gt_in1 217 rfl rfl
theorem g_X3_24 (h : w_Cl l R D cs aS aV A cc nL RX3 nm K) (hd : decode cc pc = .ok (.getfield 24, 3)) (ht : t < n) (hC : rC t = 3) (kk : K ad n nl ce sl (pc + 3) lv (.int (vI (gi σ t 2)) :: st) σ) : K ad n nl ce sl pc lv (.ref (ad t) :: st) σ := r_getI (T := TX3) (N := 5) (k := 2) (co := 3) (Cn := RX3) h hd inG3 rfl (by decide) fl_X3_24 (by decide) ht hC (rNo_3 t hC) (by decide) kk
theorem p_X3_24 {x : Int} (h : w_Cl l R D cs aS aV A cc nL RX3 nm K) (hd : decode cc pc = .ok (.putfield 24, 3)) (ht : t < n) (hC : rC t = 3) (hx : rI x) (kk : K ad n nl ce sl (pc + 3) lv st (si σ t 2 x)) : K ad n nl ce sl pc lv (.int (vI x) :: .ref (ad t) :: st) σ := r_putI (T := TX3) (N := 5) (k := 2) (co := 3) (Cn := RX3) h hd inG3 tyX3 tyX3_ok nmX3 rfl (by decide) fl_X3_24 (by decide) ht hC (rNo_3 t hC) (by decide) rfl rfl hx kk
set_option maxRecDepth 100000 in
theorem fl_X3_28 : Cond.fieldLink RX3 28 (TX3 3).1 (TX3 3).2.1 (TX3 3).2.2.1 ∈ GT := gt_in1 218 rfl rfl
theorem g_X3_28 (h : w_Cl l R D cs aS aV A cc nL RX3 nm K) (hd : decode cc pc = .ok (.getfield 28, 3)) (ht : t < n) (hC : rC t = 3) (kk : K ad n nl ce sl (pc + 3) lv (.int (vI (gi σ t 3)) :: st) σ) : K ad n nl ce sl pc lv (.ref (ad t) :: st) σ := r_getI (T := TX3) (N := 5) (k := 3) (co := 3) (Cn := RX3) h hd inG3 rfl (by decide) fl_X3_28 (by decide) ht hC (rNo_3 t hC) (by decide) kk
theorem p_X3_28 {x : Int} (h : w_Cl l R D cs aS aV A cc nL RX3 nm K) (hd : decode cc pc = .ok (.putfield 28, 3)) (ht : t < n) (hC : rC t = 3) (hx : rI x) (kk : K ad n nl ce sl (pc + 3) lv st (si σ t 3 x)) : K ad n nl ce sl pc lv (.int (vI x) :: .ref (ad t) :: st) σ := r_putI (T := TX3) (N := 5) (k := 3) (co := 3) (Cn := RX3) h hd inG3 tyX3 tyX3_ok nmX3 rfl (by decide) fl_X3_28 (by decide) ht hC (rNo_3 t hC) (by decide) rfl rfl hx kk
set_option maxRecDepth 100000 in
theorem fl_X3_31 : Cond.fieldLink RX3 31 (TX3 4).1 (TX3 4).2.1 (TX3 4).2.2.1 ∈ GT := gt_in1 219 rfl rfl
theorem g_X3_31 (h : w_Cl l R D cs aS aV A cc nL RX3 nm K) (hd : decode cc pc = .ok (.getfield 31, 3)) (ht : t < n) (hC : rC t = 3) (kk : K ad n nl ce sl (pc + 3) lv (.int (vI (gi σ t 4)) :: st) σ) : K ad n nl ce sl pc lv (.ref (ad t) :: st) σ := r_getI (T := TX3) (N := 5) (k := 4) (co := 3) (Cn := RX3) h hd inG3 rfl (by decide) fl_X3_31 (by decide) ht hC (rNo_3 t hC) (by decide) kk
theorem p_X3_31 {x : Int} (h : w_Cl l R D cs aS aV A cc nL RX3 nm K) (hd : decode cc pc = .ok (.putfield 31, 3)) (ht : t < n) (hC : rC t = 3) (hx : rI x) (kk : K ad n nl ce sl (pc + 3) lv st (si σ t 4 x)) : K ad n nl ce sl pc lv (.int (vI x) :: .ref (ad t) :: st) σ := r_putI (T := TX3) (N := 5) (k := 4) (co := 3) (Cn := RX3) h hd inG3 tyX3 tyX3_ok nmX3 rfl (by decide) fl_X3_31 (by decide) ht hC (rNo_3 t hC) (by decide) rfl rfl hx kk
set_option maxRecDepth 100000 in
theorem fl_X3_34 : Cond.fieldLink RX3 34 (TX10 3).1 (TX10 3).2.1 (TX10 3).2.2.1 ∈ GT := gt_in1 180 rfl rfl
theorem g_X3_34 (h : w_Cl l R D cs aS aV A cc nL RX3 nm K) (hd : decode cc pc = .ok (.getfield 34, 3)) (ht : t < n) (hC : rC t = 10) (kk : K ad n nl ce sl (pc + 3) lv (.int (vI (gi σ t 3)) :: st) σ) : K ad n nl ce sl pc lv (.ref (ad t) :: st) σ := r_getI (T := TX10) (N := 7) (k := 3) (co := 10) (Cn := RX10) h hd inG10 rfl (by decide) fl_X3_34 (by decide) ht hC (rNo_10 t hC) (by decide) kk
set_option maxRecDepth 100000 in
theorem fl_X3_58 : Cond.fieldLink RX3 58 (TX2 3).1 (TX2 3).2.1 (TX2 3).2.2.1 ∈ GT := gt_in1 44 rfl rfl
theorem g_X3_58 (h : w_Cl l R D cs aS aV A cc nL RX3 nm K) (hd : decode cc pc = .ok (.getfield 58, 3)) (ht : t < n) (hC : rC t = 2) (kk : K ad n nl ce sl (pc + 3) lv (.int (vI (gi σ t 3)) :: st) σ) : K ad n nl ce sl pc lv (.ref (ad t) :: st) σ := r_getI (T := TX2) (N := 4) (k := 3) (co := 2) (Cn := RX2) h hd inG2 rfl (by decide) fl_X3_58 (by decide) ht hC (rNo_2 t hC) (by decide) kk
theorem p_X3_58 {x : Int} (h : w_Cl l R D cs aS aV A cc nL RX3 nm K) (hd : decode cc pc = .ok (.putfield 58, 3)) (ht : t < n) (hC : rC t = 2) (hx : rI x) (kk : K ad n nl ce sl (pc + 3) lv st (si σ t 3 x)) : K ad n nl ce sl pc lv (.int (vI x) :: .ref (ad t) :: st) σ := r_putI (T := TX2) (N := 4) (k := 3) (co := 2) (Cn := RX2) h hd inG2 tyX2 tyX2_ok nmX2 rfl (by decide) fl_X3_58 (by decide) ht hC (rNo_2 t hC) (by decide) rfl rfl hx kk
set_option maxRecDepth 100000 in
theorem fl_X3_65 : Cond.fieldLink RX3 65 (TX10 5).1 (TX10 5).2.1 (TX10 5).2.2.1 ∈ GT := gt_in1 185 rfl rfl
theorem g_X3_65 (h : w_Cl l R D cs aS aV A cc nL RX3 nm K) (hd : decode cc pc = .ok (.getfield 65, 3)) (ht : t < n) (hC : rC t = 10) (kk : K ad n nl ce sl (pc + 3) lv (.int (vI (gi σ t 5)) :: st) σ) : K ad n nl ce sl pc lv (.ref (ad t) :: st) σ := r_getI (T := TX10) (N := 7) (k := 5) (co := 10) (Cn := RX10) h hd inG10 rfl (by decide) fl_X3_65 (by decide) ht hC (rNo_10 t hC) (by decide) kk
set_option maxRecDepth 100000 in
theorem fl_X4_9 : Cond.fieldLink RX4 9 (TX4 1).1 (TX4 1).2.1 (TX4 1).2.2.1 ∈ GT := gt_in1 61 rfl rfl
theorem p_X4_9 (h : w_Cl l R D cs aS aV A cc nL RX4 "<init>" K) (hd : decode cc pc = .ok (.putfield 9, 3)) (ht : t < n) (hC : rC t = 4) (kk : K ad n (nu nl t 1) ce sl (pc + 3) lv st σ) : K ad n nl ce sl pc lv (.ref (ad (t + 1)) :: .ref (ad t) :: st) σ := r_putR (T := TX4) (N := 20) (k := 1) (co := 4) (Cn := RX4) h hd inG4 tyX4 tyX4_ok nmX4 rfl (by decide) fl_X4_9 (by decide) ht hC (rNo_4 t hC) (by decide) rfl rfl rfl (fun _ => ⟨rfl, rfl⟩) (rf_4_1 t hC).1 kk
set_option maxRecDepth 100000 in
theorem fl_X4_15 : Cond.fieldLink RX4 15 (TX4 2).1 (TX4 2).2.1 (TX4 2).2.2.1 ∈ GT := gt_in1 63 rfl rfl
theorem p_X4_15 (h : w_Cl l R D cs aS aV A cc nL RX4 "<init>" K) (hd : decode cc pc = .ok (.putfield 15, 3)) (ht : t < n) (hC : rC t = 4) (kk : K ad n (nu nl t 2) ce sl (pc + 3) lv st σ) : K ad n nl ce sl pc lv (.ref (ad (t + 2)) :: .ref (ad t) :: st) σ := r_putR (T := TX4) (N := 20) (k := 2) (co := 4) (Cn := RX4) h hd inG4 tyX4 tyX4_ok nmX4 rfl (by decide) fl_X4_15 (by decide) ht hC (rNo_4 t hC) (by decide) rfl rfl rfl (fun _ => ⟨rfl, rfl⟩) (rf_4_2 t hC).1 kk
set_option maxRecDepth 100000 in
theorem fl_X4_19 : Cond.fieldLink RX4 19 (TX4 3).1 (TX4 3).2.1 (TX4 3).2.2.1 ∈ GT := gt_in1 66 rfl rfl
theorem p_X4_19 (h : w_Cl l R D cs aS aV A cc nL RX4 "<init>" K) (hd : decode cc pc = .ok (.putfield 19, 3)) (ht : t < n) (hC : rC t = 4) (kk : K ad n (nu nl t 3) ce sl (pc + 3) lv st σ) : K ad n nl ce sl pc lv (.ref (ad (t + 3)) :: .ref (ad t) :: st) σ := r_putR (T := TX4) (N := 20) (k := 3) (co := 4) (Cn := RX4) h hd inG4 tyX4 tyX4_ok nmX4 rfl (by decide) fl_X4_19 (by decide) ht hC (rNo_4 t hC) (by decide) rfl rfl rfl (fun _ => ⟨rfl, rfl⟩) (rf_4_3 t hC).1 kk
set_option maxRecDepth 100000 in
theorem fl_X4_22 : Cond.fieldLink RX4 22 (TX4 5).1 (TX4 5).2.1 (TX4 5).2.2.1 ∈ GT := gt_in1 73 rfl rfl
theorem g_X4_22 (h : w_Cl l R D cs aS aV A cc nL RX4 nm K) (hd : decode cc pc = .ok (.getfield 22, 3)) (ht : t < n) (hC : rC t = 4) (hnl : nl t 5 = true) (kk : K ad n nl ce sl (pc + 3) lv (.ref (ad (t + 4)) :: st) σ) : K ad n nl ce sl pc lv (.ref (ad t) :: st) σ := r_getR (T := TX4) (N := 20) (k := 5) (co := 4) (Cn := RX4) h hd inG4 rfl (by decide) fl_X4_22 (by decide) ht hC (rNo_4 t hC) (by decide) hnl (t + 4) (rf_4_5 t hC).1 kk
theorem p_X4_22 (h : w_Cl l R D cs aS aV A cc nL RX4 "<init>" K) (hd : decode cc pc = .ok (.putfield 22, 3)) (ht : t < n) (hC : rC t = 4) (kk : K ad n (nu nl t 5) ce sl (pc + 3) lv st σ) : K ad n nl ce sl pc lv (.ref (ad (t + 4)) :: .ref (ad t) :: st) σ := r_putR (T := TX4) (N := 20) (k := 5) (co := 4) (Cn := RX4) h hd inG4 tyX4 tyX4_ok nmX4 rfl (by decide) fl_X4_22 (by decide) ht hC (rNo_4 t hC) (by decide) rfl rfl rfl (fun _ => ⟨rfl, rfl⟩) (rf_4_5 t hC).1 kk
set_option maxRecDepth 100000 in
theorem fl_X4_25 : Cond.fieldLink RX4 25 (TX4 6).1 (TX4 6).2.1 (TX4 6).2.2.1 ∈ GT := gt_in1 77 rfl rfl
theorem g_X4_25 (h : w_Cl l R D cs aS aV A cc nL RX4 nm K) (hd : decode cc pc = .ok (.getfield 25, 3)) (ht : t < n) (hC : rC t = 4) (hnl : nl t 6 = true) (kk : K ad n nl ce sl (pc + 3) lv (.ref (ad (t + 5)) :: st) σ) : K ad n nl ce sl pc lv (.ref (ad t) :: st) σ := r_getR (T := TX4) (N := 20) (k := 6) (co := 4) (Cn := RX4) h hd inG4 rfl (by decide) fl_X4_25 (by decide) ht hC (rNo_4 t hC) (by decide) hnl (t + 5) (rf_4_6 t hC).1 kk
theorem p_X4_25 (h : w_Cl l R D cs aS aV A cc nL RX4 "<init>" K) (hd : decode cc pc = .ok (.putfield 25, 3)) (ht : t < n) (hC : rC t = 4) (kk : K ad n (nu nl t 6) ce sl (pc + 3) lv st σ) : K ad n nl ce sl pc lv (.ref (ad (t + 5)) :: .ref (ad t) :: st) σ := r_putR (T := TX4) (N := 20) (k := 6) (co := 4) (Cn := RX4) h hd inG4 tyX4 tyX4_ok nmX4 rfl (by decide) fl_X4_25 (by decide) ht hC (rNo_4 t hC) (by decide) rfl rfl rfl (fun _ => ⟨rfl, rfl⟩) (rf_4_6 t hC).1 kk
set_option maxRecDepth 100000 in
theorem fl_X4_28 : Cond.fieldLink RX4 28 (TX4 7).1 (TX4 7).2.1 (TX4 7).2.2.1 ∈ GT := gt_in1 81 rfl rfl
theorem p_X4_28 (h : w_Cl l R D cs aS aV A cc nL RX4 "<init>" K) (hd : decode cc pc = .ok (.putfield 28, 3)) (ht : t < n) (hC : rC t = 4) (kk : K ad n (nu nl t 7) ce sl (pc + 3) lv st σ) : K ad n nl ce sl pc lv (.ref (ad (t + 6)) :: .ref (ad t) :: st) σ := r_putR (T := TX4) (N := 20) (k := 7) (co := 4) (Cn := RX4) h hd inG4 tyX4 tyX4_ok nmX4 rfl (by decide) fl_X4_28 (by decide) ht hC (rNo_4 t hC) (by decide) rfl rfl rfl (fun _ => ⟨rfl, rfl⟩) (rf_4_7 t hC).1 kk
set_option maxRecDepth 100000 in
theorem fl_X4_31 : Cond.fieldLink RX4 31 (TX4 8).1 (TX4 8).2.1 (TX4 8).2.2.1 ∈ GT := gt_in1 88 rfl rfl
theorem p_X4_31 (h : w_Cl l R D cs aS aV A cc nL RX4 "<init>" K) (hd : decode cc pc = .ok (.putfield 31, 3)) (ht : t < n) (hC : rC t = 4) (kk : K ad n (nu nl t 8) ce sl (pc + 3) lv st σ) : K ad n nl ce sl pc lv (.ref (ad (t + 7)) :: .ref (ad t) :: st) σ := r_putR (T := TX4) (N := 20) (k := 8) (co := 4) (Cn := RX4) h hd inG4 tyX4 tyX4_ok nmX4 rfl (by decide) fl_X4_31 (by decide) ht hC (rNo_4 t hC) (by decide) rfl rfl rfl (fun _ => ⟨rfl, rfl⟩) (rf_4_8 t hC).1 kk
set_option maxRecDepth 100000 in
theorem fl_X4_34 : Cond.fieldLink RX4 34 (TX4 10).1 (TX4 10).2.1 (TX4 10).2.2.1 ∈ GT := gt_in1 95 rfl rfl
theorem p_X4_34 (h : w_Cl l R D cs aS aV A cc nL RX4 "<init>" K) (hd : decode cc pc = .ok (.putfield 34, 3)) (ht : t < n) (hC : rC t = 4) (kk : K ad n (nu nl t 10) ce sl (pc + 3) lv st σ) : K ad n nl ce sl pc lv (.ref (ad (t + 8)) :: .ref (ad t) :: st) σ := r_putR (T := TX4) (N := 20) (k := 10) (co := 4) (Cn := RX4) h hd inG4 tyX4 tyX4_ok nmX4 rfl (by decide) fl_X4_34 (by decide) ht hC (rNo_4 t hC) (by decide) rfl rfl rfl (fun _ => ⟨rfl, rfl⟩) (rf_4_10 t hC).1 kk
set_option maxRecDepth 100000 in
theorem fl_X4_37 : Cond.fieldLink RX4 37 (TX4 11).1 (TX4 11).2.1 (TX4 11).2.2.1 ∈ GT := gt_in1 97 rfl rfl
theorem p_X4_37 (h : w_Cl l R D cs aS aV A cc nL RX4 "<init>" K) (hd : decode cc pc = .ok (.putfield 37, 3)) (ht : t < n) (hC : rC t = 4) (kk : K ad n (nu nl t 11) ce sl (pc + 3) lv st σ) : K ad n nl ce sl pc lv (.ref (ad (t + 9)) :: .ref (ad t) :: st) σ := r_putR (T := TX4) (N := 20) (k := 11) (co := 4) (Cn := RX4) h hd inG4 tyX4 tyX4_ok nmX4 rfl (by decide) fl_X4_37 (by decide) ht hC (rNo_4 t hC) (by decide) rfl rfl rfl (fun _ => ⟨rfl, rfl⟩) (rf_4_11 t hC).1 kk
set_option maxRecDepth 100000 in
theorem fl_X4_40 : Cond.fieldLink RX4 40 (TX4 13).1 (TX4 13).2.1 (TX4 13).2.2.1 ∈ GT := gt_in1 104 rfl rfl
theorem p_X4_40 (h : w_Cl l R D cs aS aV A cc nL RX4 "<init>" K) (hd : decode cc pc = .ok (.putfield 40, 3)) (ht : t < n) (hC : rC t = 4) (kk : K ad n (nu nl t 13) ce sl (pc + 3) lv st σ) : K ad n nl ce sl pc lv (.ref (ad (t + 10)) :: .ref (ad t) :: st) σ := r_putR (T := TX4) (N := 20) (k := 13) (co := 4) (Cn := RX4) h hd inG4 tyX4 tyX4_ok nmX4 rfl (by decide) fl_X4_40 (by decide) ht hC (rNo_4 t hC) (by decide) rfl rfl rfl (fun _ => ⟨rfl, rfl⟩) (rf_4_13 t hC).1 kk
set_option maxRecDepth 100000 in
theorem fl_X4_43 : Cond.fieldLink RX4 43 (TX4 14).1 (TX4 14).2.1 (TX4 14).2.2.1 ∈ GT := gt_in1 106 rfl rfl
theorem p_X4_43 (h : w_Cl l R D cs aS aV A cc nL RX4 "<init>" K) (hd : decode cc pc = .ok (.putfield 43, 3)) (ht : t < n) (hC : rC t = 4) (kk : K ad n (nu nl t 14) ce sl (pc + 3) lv st σ) : K ad n nl ce sl pc lv (.ref (ad (t + 11)) :: .ref (ad t) :: st) σ := r_putR (T := TX4) (N := 20) (k := 14) (co := 4) (Cn := RX4) h hd inG4 tyX4 tyX4_ok nmX4 rfl (by decide) fl_X4_43 (by decide) ht hC (rNo_4 t hC) (by decide) rfl rfl rfl (fun _ => ⟨rfl, rfl⟩) (rf_4_14 t hC).1 kk
set_option maxRecDepth 100000 in
theorem fl_X4_46 : Cond.fieldLink RX4 46 (TX4 15).1 (TX4 15).2.1 (TX4 15).2.2.1 ∈ GT := gt_in1 109 rfl rfl
theorem p_X4_46 (h : w_Cl l R D cs aS aV A cc nL RX4 "<init>" K) (hd : decode cc pc = .ok (.putfield 46, 3)) (ht : t < n) (hC : rC t = 4) (kk : K ad n (nu nl t 15) ce sl (pc + 3) lv st σ) : K ad n nl ce sl pc lv (.ref (ad (t + 12)) :: .ref (ad t) :: st) σ := r_putR (T := TX4) (N := 20) (k := 15) (co := 4) (Cn := RX4) h hd inG4 tyX4 tyX4_ok nmX4 rfl (by decide) fl_X4_46 (by decide) ht hC (rNo_4 t hC) (by decide) rfl rfl rfl (fun _ => ⟨rfl, rfl⟩) (rf_4_15 t hC).1 kk
set_option maxRecDepth 100000 in
theorem fl_X4_49 : Cond.fieldLink RX4 49 (TX4 16).1 (TX4 16).2.1 (TX4 16).2.2.1 ∈ GT := gt_in1 112 rfl rfl
theorem p_X4_49 (h : w_Cl l R D cs aS aV A cc nL RX4 "<init>" K) (hd : decode cc pc = .ok (.putfield 49, 3)) (ht : t < n) (hC : rC t = 4) (kk : K ad n (nu nl t 16) ce sl (pc + 3) lv st σ) : K ad n nl ce sl pc lv (.ref (ad (t + 13)) :: .ref (ad t) :: st) σ := r_putR (T := TX4) (N := 20) (k := 16) (co := 4) (Cn := RX4) h hd inG4 tyX4 tyX4_ok nmX4 rfl (by decide) fl_X4_49 (by decide) ht hC (rNo_4 t hC) (by decide) rfl rfl rfl (fun _ => ⟨rfl, rfl⟩) (rf_4_16 t hC).1 kk
set_option maxRecDepth 100000 in
theorem fl_X4_55 : Cond.fieldLink RX4 55 (TX4 18).1 (TX4 18).2.1 (TX4 18).2.2.1 ∈ GT := gt_in1 118 rfl rfl
theorem g_X4_55 (h : w_Cl l R D cs aS aV A cc nL RX4 nm K) (hd : decode cc pc = .ok (.getfield 55, 3)) (ht : t < n) (hC : rC t = 4) (hnl : nl t 18 = true) (kk : K ad n nl ce sl (pc + 3) lv (.ref (ad (t + 14)) :: st) σ) : K ad n nl ce sl pc lv (.ref (ad t) :: st) σ := r_getR (T := TX4) (N := 20) (k := 18) (co := 4) (Cn := RX4) h hd inG4 rfl (by decide) fl_X4_55 (by decide) ht hC (rNo_4 t hC) (by decide) hnl (t + 14) (rf_4_18 t hC).1 kk
theorem p_X4_55 (h : w_Cl l R D cs aS aV A cc nL RX4 "<init>" K) (hd : decode cc pc = .ok (.putfield 55, 3)) (ht : t < n) (hC : rC t = 4) (kk : K ad n (nu nl t 18) ce sl (pc + 3) lv st σ) : K ad n nl ce sl pc lv (.ref (ad (t + 14)) :: .ref (ad t) :: st) σ := r_putR (T := TX4) (N := 20) (k := 18) (co := 4) (Cn := RX4) h hd inG4 tyX4 tyX4_ok nmX4 rfl (by decide) fl_X4_55 (by decide) ht hC (rNo_4 t hC) (by decide) rfl rfl rfl (fun _ => ⟨rfl, rfl⟩) (rf_4_18 t hC).1 kk
set_option maxRecDepth 100000 in
theorem fl_X4_59 : Cond.fieldLink RX4 59 (TX4 19).1 (TX4 19).2.1 (TX4 19).2.2.1 ∈ GT := gt_in1 123 rfl rfl
theorem g_X4_59 (h : w_Cl l R D cs aS aV A cc nL RX4 nm K) (hd : decode cc pc = .ok (.getfield 59, 3)) (ht : t < n) (hC : rC t = 4) (hnl : nl t 19 = true) (kk : K ad n nl ce sl (pc + 3) lv (.ref (ad (t + 17)) :: st) σ) : K ad n nl ce sl pc lv (.ref (ad t) :: st) σ := r_getR (T := TX4) (N := 20) (k := 19) (co := 4) (Cn := RX4) h hd inG4 rfl (by decide) fl_X4_59 (by decide) ht hC (rNo_4 t hC) (by decide) hnl (t + 17) (rf_4_19 t hC).1 kk
theorem p_X4_59 (h : w_Cl l R D cs aS aV A cc nL RX4 "<init>" K) (hd : decode cc pc = .ok (.putfield 59, 3)) (ht : t < n) (hC : rC t = 4) (kk : K ad n (nu nl t 19) ce sl (pc + 3) lv st σ) : K ad n nl ce sl pc lv (.ref (ad (t + 17)) :: .ref (ad t) :: st) σ := r_putR (T := TX4) (N := 20) (k := 19) (co := 4) (Cn := RX4) h hd inG4 tyX4 tyX4_ok nmX4 rfl (by decide) fl_X4_59 (by decide) ht hC (rNo_4 t hC) (by decide) rfl rfl rfl (fun _ => ⟨rfl, rfl⟩) (rf_4_19 t hC).1 kk
set_option maxRecDepth 100000 in
theorem fl_X4_62 : Cond.fieldLink RX4 62 (TX4 0).1 (TX4 0).2.1 (TX4 0).2.2.1 ∈ GT := gt_in1 58 rfl rfl
theorem g_X4_62 (h : w_Cl l R D cs aS aV A cc nL RX4 nm K) (hd : decode cc pc = .ok (.getfield 62, 3)) (ht : t < n) (hC : rC t = 4) (kk : K ad n nl ce sl (pc + 3) lv (.int (vI (gi σ t 0)) :: st) σ) : K ad n nl ce sl pc lv (.ref (ad t) :: st) σ := r_getI (T := TX4) (N := 20) (k := 0) (co := 4) (Cn := RX4) h hd inG4 rfl (by decide) fl_X4_62 (by decide) ht hC (rNo_4 t hC) (by decide) kk
theorem p_X4_62 {x : Int} (h : w_Cl l R D cs aS aV A cc nL RX4 nm K) (hd : decode cc pc = .ok (.putfield 62, 3)) (ht : t < n) (hC : rC t = 4) (hx : rI x) (kk : K ad n nl ce sl (pc + 3) lv st (si σ t 0 x)) : K ad n nl ce sl pc lv (.int (vI x) :: .ref (ad t) :: st) σ := r_putI (T := TX4) (N := 20) (k := 0) (co := 4) (Cn := RX4) h hd inG4 tyX4 tyX4_ok nmX4 rfl (by decide) fl_X4_62 (by decide) ht hC (rNo_4 t hC) (by decide) rfl rfl hx kk
set_option maxRecDepth 100000 in
theorem fl_X4_66 : Cond.fieldLink RX4 66 (TX4 4).1 (TX4 4).2.1 (TX4 4).2.2.1 ∈ GT := gt_in1 69 rfl rfl
theorem g_X4_66 (h : w_Cl l R D cs aS aV A cc nL RX4 nm K) (hd : decode cc pc = .ok (.getfield 66, 3)) (ht : t < n) (hC : rC t = 4) (kk : K ad n nl ce sl (pc + 3) lv (.int (vI (gi σ t 4)) :: st) σ) : K ad n nl ce sl pc lv (.ref (ad t) :: st) σ := r_getI (T := TX4) (N := 20) (k := 4) (co := 4) (Cn := RX4) h hd inG4 rfl (by decide) fl_X4_66 (by decide) ht hC (rNo_4 t hC) (by decide) kk
theorem p_X4_66 {x : Int} (h : w_Cl l R D cs aS aV A cc nL RX4 nm K) (hd : decode cc pc = .ok (.putfield 66, 3)) (ht : t < n) (hC : rC t = 4) (hx : rI x) (kk : K ad n nl ce sl (pc + 3) lv st (si σ t 4 x)) : K ad n nl ce sl pc lv (.int (vI x) :: .ref (ad t) :: st) σ := r_putI (T := TX4) (N := 20) (k := 4) (co := 4) (Cn := RX4) h hd inG4 tyX4 tyX4_ok nmX4 rfl (by decide) fl_X4_66 (by decide) ht hC (rNo_4 t hC) (by decide) rfl rfl hx kk
set_option maxRecDepth 100000 in
theorem fl_X4_69 : Cond.fieldLink RX4 69 (TX4 9).1 (TX4 9).2.1 (TX4 9).2.2.1 ∈ GT := gt_in1 91 rfl rfl
theorem g_X4_69 (h : w_Cl l R D cs aS aV A cc nL RX4 nm K) (hd : decode cc pc = .ok (.getfield 69, 3)) (ht : t < n) (hC : rC t = 4) (kk : K ad n nl ce sl (pc + 3) lv (.int (vI (gi σ t 9)) :: st) σ) : K ad n nl ce sl pc lv (.ref (ad t) :: st) σ := r_getI (T := TX4) (N := 20) (k := 9) (co := 4) (Cn := RX4) h hd inG4 rfl (by decide) fl_X4_69 (by decide) ht hC (rNo_4 t hC) (by decide) kk
theorem p_X4_69 {x : Int} (h : w_Cl l R D cs aS aV A cc nL RX4 nm K) (hd : decode cc pc = .ok (.putfield 69, 3)) (ht : t < n) (hC : rC t = 4) (hx : rI x) (kk : K ad n nl ce sl (pc + 3) lv st (si σ t 9 x)) : K ad n nl ce sl pc lv (.int (vI x) :: .ref (ad t) :: st) σ := r_putI (T := TX4) (N := 20) (k := 9) (co := 4) (Cn := RX4) h hd inG4 tyX4 tyX4_ok nmX4 rfl (by decide) fl_X4_69 (by decide) ht hC (rNo_4 t hC) (by decide) rfl rfl hx kk
set_option maxRecDepth 100000 in
theorem fl_X4_72 : Cond.fieldLink RX4 72 (TX4 12).1 (TX4 12).2.1 (TX4 12).2.2.1 ∈ GT := gt_in1 101 rfl rfl
theorem g_X4_72 (h : w_Cl l R D cs aS aV A cc nL RX4 nm K) (hd : decode cc pc = .ok (.getfield 72, 3)) (ht : t < n) (hC : rC t = 4) (kk : K ad n nl ce sl (pc + 3) lv (.int (vI (gi σ t 12)) :: st) σ) : K ad n nl ce sl pc lv (.ref (ad t) :: st) σ := r_getI (T := TX4) (N := 20) (k := 12) (co := 4) (Cn := RX4) h hd inG4 rfl (by decide) fl_X4_72 (by decide) ht hC (rNo_4 t hC) (by decide) kk
theorem p_X4_72 {x : Int} (h : w_Cl l R D cs aS aV A cc nL RX4 nm K) (hd : decode cc pc = .ok (.putfield 72, 3)) (ht : t < n) (hC : rC t = 4) (hx : rI x) (kk : K ad n nl ce sl (pc + 3) lv st (si σ t 12 x)) : K ad n nl ce sl pc lv (.int (vI x) :: .ref (ad t) :: st) σ := r_putI (T := TX4) (N := 20) (k := 12) (co := 4) (Cn := RX4) h hd inG4 tyX4 tyX4_ok nmX4 rfl (by decide) fl_X4_72 (by decide) ht hC (rNo_4 t hC) (by decide) rfl rfl hx kk
set_option maxRecDepth 100000 in
theorem fl_X4_75 : Cond.fieldLink RX4 75 (TX4 17).1 (TX4 17).2.1 (TX4 17).2.2.1 ∈ GT := gt_in1 115 rfl rfl
theorem p_X4_75 {x : Int} (h : w_Cl l R D cs aS aV A cc nL RX4 nm K) (hd : decode cc pc = .ok (.putfield 75, 3)) (ht : t < n) (hC : rC t = 4) (hx : rI x) (kk : K ad n nl ce sl (pc + 3) lv st (si σ t 17 x)) : K ad n nl ce sl pc lv (.int (vI x) :: .ref (ad t) :: st) σ := r_putI (T := TX4) (N := 20) (k := 17) (co := 4) (Cn := RX4) h hd inG4 tyX4 tyX4_ok nmX4 rfl (by decide) fl_X4_75 (by decide) ht hC (rNo_4 t hC) (by decide) rfl rfl hx kk
set_option maxRecDepth 100000 in
theorem fl_X5_9 : Cond.fieldLink RX5 9 (TX5 0).1 (TX5 0).2.1 (TX5 0).2.2.1 ∈ GT := gt_in1 231 rfl rfl
theorem g_X5_9 (h : w_Cl l R D cs aS aV A cc nL RX5 nm K) (hd : decode cc pc = .ok (.getfield 9, 3)) (ht : t < n) (hC : rC t = 5) (hnl : nl t 0 = true) (kk : K ad n nl ce sl (pc + 3) lv (.ref (ad (43)) :: st) σ) : K ad n nl ce sl pc lv (.ref (ad t) :: st) σ := r_getR (T := TX5) (N := 6) (k := 0) (co := 5) (Cn := RX5) h hd inG5 rfl (by decide) fl_X5_9 (by decide) ht hC (rNo_5 t hC) (by decide) hnl (43) (by have z : t = 42 := rC_uni5 t hC; subst z; exact rf_5_0) kk
theorem p_X5_9 (h : w_Cl l R D cs aS aV A cc nL RX5 "<init>" K) (hd : decode cc pc = .ok (.putfield 9, 3)) (ht : t < n) (hC : rC t = 5) (kk : K ad n (nu nl t 0) ce sl (pc + 3) lv st σ) : K ad n nl ce sl pc lv (.ref (ad (43)) :: .ref (ad t) :: st) σ := r_putR (T := TX5) (N := 6) (k := 0) (co := 5) (Cn := RX5) h hd inG5 tyX5 tyX5_ok nmX5 rfl (by decide) fl_X5_9 (by decide) ht hC (rNo_5 t hC) (by decide) rfl rfl rfl (fun _ => ⟨rfl, rfl⟩) (by have z : t = 42 := rC_uni5 t hC; subst z; exact rf_5_0) kk
set_option maxRecDepth 100000 in
theorem fl_X5_20 : Cond.fieldLink RX5 20 (TX5 1).1 (TX5 1).2.1 (TX5 1).2.2.1 ∈ GT := gt_in1 232 rfl rfl
theorem g_X5_20 (h : w_Cl l R D cs aS aV A cc nL RX5 nm K) (hd : decode cc pc = .ok (.getfield 20, 3)) (ht : t < n) (hC : rC t = 5) (hnl : nl t 1 = true) (kk : K ad n nl ce sl (pc + 3) lv (.ref (ad (44)) :: st) σ) : K ad n nl ce sl pc lv (.ref (ad t) :: st) σ := r_getR (T := TX5) (N := 6) (k := 1) (co := 5) (Cn := RX5) h hd inG5 rfl (by decide) fl_X5_20 (by decide) ht hC (rNo_5 t hC) (by decide) hnl (44) (by have z : t = 42 := rC_uni5 t hC; subst z; exact rf_5_1) kk
theorem p_X5_20 (h : w_Cl l R D cs aS aV A cc nL RX5 "<init>" K) (hd : decode cc pc = .ok (.putfield 20, 3)) (ht : t < n) (hC : rC t = 5) (kk : K ad n (nu nl t 1) ce sl (pc + 3) lv st σ) : K ad n nl ce sl pc lv (.ref (ad (44)) :: .ref (ad t) :: st) σ := r_putR (T := TX5) (N := 6) (k := 1) (co := 5) (Cn := RX5) h hd inG5 tyX5 tyX5_ok nmX5 rfl (by decide) fl_X5_20 (by decide) ht hC (rNo_5 t hC) (by decide) rfl rfl rfl (fun _ => ⟨rfl, rfl⟩) (by have z : t = 42 := rC_uni5 t hC; subst z; exact rf_5_1) kk
set_option maxRecDepth 100000 in
theorem fl_X5_24 : Cond.fieldLink RX5 24 (TX5 2).1 (TX5 2).2.1 (TX5 2).2.2.1 ∈ GT := gt_in1 233 rfl rfl
theorem p_X5_24 {x : Int} (h : w_Cl l R D cs aS aV A cc nL RX5 nm K) (hd : decode cc pc = .ok (.putfield 24, 3)) (ht : t < n) (hC : rC t = 5) (hx : rI x) (kk : K ad n nl ce sl (pc + 3) lv st (si σ t 2 x)) : K ad n nl ce sl pc lv (.int (vI x) :: .ref (ad t) :: st) σ := r_putI (T := TX5) (N := 6) (k := 2) (co := 5) (Cn := RX5) h hd inG5 tyX5 tyX5_ok nmX5 rfl (by decide) fl_X5_24 (by decide) ht hC (rNo_5 t hC) (by decide) rfl rfl hx kk
set_option maxRecDepth 100000 in
theorem fl_X5_28 : Cond.fieldLink RX5 28 (TX5 3).1 (TX5 3).2.1 (TX5 3).2.2.1 ∈ GT := gt_in1 235 rfl rfl
theorem p_X5_28 {x : Int} (h : w_Cl l R D cs aS aV A cc nL RX5 nm K) (hd : decode cc pc = .ok (.putfield 28, 3)) (ht : t < n) (hC : rC t = 5) (hx : rI x) (kk : K ad n nl ce sl (pc + 3) lv st (si σ t 3 x)) : K ad n nl ce sl pc lv (.int (vI x) :: .ref (ad t) :: st) σ := r_putI (T := TX5) (N := 6) (k := 3) (co := 5) (Cn := RX5) h hd inG5 tyX5 tyX5_ok nmX5 rfl (by decide) fl_X5_28 (by decide) ht hC (rNo_5 t hC) (by decide) rfl rfl hx kk
set_option maxRecDepth 100000 in
theorem fl_X5_36 : Cond.fieldLink RX5 36 (TX5 5).1 (TX5 5).2.1 (TX5 5).2.2.1 ∈ GT := gt_in1 238 rfl rfl
theorem g_X5_36 (h : w_Cl l R D cs aS aV A cc nL RX5 nm K) (hd : decode cc pc = .ok (.getfield 36, 3)) (ht : t < n) (hC : rC t = 5) (kk : K ad n nl ce sl (pc + 3) lv (.int (vI (gi σ t 5)) :: st) σ) : K ad n nl ce sl pc lv (.ref (ad t) :: st) σ := r_getI (T := TX5) (N := 6) (k := 5) (co := 5) (Cn := RX5) h hd inG5 rfl (by decide) fl_X5_36 (by decide) ht hC (rNo_5 t hC) (by decide) kk
theorem p_X5_36 {x : Int} (h : w_Cl l R D cs aS aV A cc nL RX5 nm K) (hd : decode cc pc = .ok (.putfield 36, 3)) (ht : t < n) (hC : rC t = 5) (hx : x = 0 ∨ x = 1) (kk : K ad n nl ce sl (pc + 3) lv st (si σ t 5 x)) : K ad n nl ce sl pc lv (.int (vI x) :: .ref (ad t) :: st) σ := r_putZ (T := TX5) (N := 6) (k := 5) (co := 5) (Cn := RX5) h hd inG5 tyX5 tyX5_ok nmX5 rfl (by decide) fl_X5_36 (by decide) ht hC (rNo_5 t hC) (by decide) rfl rfl hx kk
set_option maxRecDepth 100000 in
theorem fl_X5_46 : Cond.fieldLink RX5 46 (TX10 3).1 (TX10 3).2.1 (TX10 3).2.2.1 ∈ GT := gt_in1 181 rfl rfl
theorem g_X5_46 (h : w_Cl l R D cs aS aV A cc nL RX5 nm K) (hd : decode cc pc = .ok (.getfield 46, 3)) (ht : t < n) (hC : rC t = 10) (kk : K ad n nl ce sl (pc + 3) lv (.int (vI (gi σ t 3)) :: st) σ) : K ad n nl ce sl pc lv (.ref (ad t) :: st) σ := r_getI (T := TX10) (N := 7) (k := 3) (co := 10) (Cn := RX10) h hd inG10 rfl (by decide) fl_X5_46 (by decide) ht hC (rNo_10 t hC) (by decide) kk
set_option maxRecDepth 100000 in
theorem fl_X5_62 : Cond.fieldLink RX5 62 (TX4 18).1 (TX4 18).2.1 (TX4 18).2.2.1 ∈ GT := gt_in1 119 rfl rfl
theorem g_X5_62 (h : w_Cl l R D cs aS aV A cc nL RX5 nm K) (hd : decode cc pc = .ok (.getfield 62, 3)) (ht : t < n) (hC : rC t = 4) (hnl : nl t 18 = true) (kk : K ad n nl ce sl (pc + 3) lv (.ref (ad (t + 14)) :: st) σ) : K ad n nl ce sl pc lv (.ref (ad t) :: st) σ := r_getR (T := TX4) (N := 20) (k := 18) (co := 4) (Cn := RX4) h hd inG4 rfl (by decide) fl_X5_62 (by decide) ht hC (rNo_4 t hC) (by decide) hnl (t + 14) (rf_4_18 t hC).1 kk
set_option maxRecDepth 100000 in
theorem fl_X5_70 : Cond.fieldLink RX5 70 (TX4 19).1 (TX4 19).2.1 (TX4 19).2.2.1 ∈ GT := gt_in1 124 rfl rfl
theorem g_X5_70 (h : w_Cl l R D cs aS aV A cc nL RX5 nm K) (hd : decode cc pc = .ok (.getfield 70, 3)) (ht : t < n) (hC : rC t = 4) (hnl : nl t 19 = true) (kk : K ad n nl ce sl (pc + 3) lv (.ref (ad (t + 17)) :: st) σ) : K ad n nl ce sl pc lv (.ref (ad t) :: st) σ := r_getR (T := TX4) (N := 20) (k := 19) (co := 4) (Cn := RX4) h hd inG4 rfl (by decide) fl_X5_70 (by decide) ht hC (rNo_4 t hC) (by decide) hnl (t + 17) (rf_4_19 t hC).1 kk
set_option maxRecDepth 100000 in
theorem fl_X5_84 : Cond.fieldLink RX5 84 (TX4 0).1 (TX4 0).2.1 (TX4 0).2.2.1 ∈ GT := gt_in1 59 rfl rfl
theorem g_X5_84 (h : w_Cl l R D cs aS aV A cc nL RX5 nm K) (hd : decode cc pc = .ok (.getfield 84, 3)) (ht : t < n) (hC : rC t = 4) (kk : K ad n nl ce sl (pc + 3) lv (.int (vI (gi σ t 0)) :: st) σ) : K ad n nl ce sl pc lv (.ref (ad t) :: st) σ := r_getI (T := TX4) (N := 20) (k := 0) (co := 4) (Cn := RX4) h hd inG4 rfl (by decide) fl_X5_84 (by decide) ht hC (rNo_4 t hC) (by decide) kk
theorem p_X5_84 {x : Int} (h : w_Cl l R D cs aS aV A cc nL RX5 nm K) (hd : decode cc pc = .ok (.putfield 84, 3)) (ht : t < n) (hC : rC t = 4) (hx : rI x) (kk : K ad n nl ce sl (pc + 3) lv st (si σ t 0 x)) : K ad n nl ce sl pc lv (.int (vI x) :: .ref (ad t) :: st) σ := r_putI (T := TX4) (N := 20) (k := 0) (co := 4) (Cn := RX4) h hd inG4 tyX4 tyX4_ok nmX4 rfl (by decide) fl_X5_84 (by decide) ht hC (rNo_4 t hC) (by decide) rfl rfl hx kk
set_option maxRecDepth 100000 in
theorem fl_X5_90 : Cond.fieldLink RX5 90 (TX4 1).1 (TX4 1).2.1 (TX4 1).2.2.1 ∈ GT := gt_in1 62 rfl rfl
theorem g_X5_90 (h : w_Cl l R D cs aS aV A cc nL RX5 nm K) (hd : decode cc pc = .ok (.getfield 90, 3)) (ht : t < n) (hC : rC t = 4) (hnl : nl t 1 = true) (kk : K ad n nl ce sl (pc + 3) lv (.ref (ad (t + 1)) :: st) σ) : K ad n nl ce sl pc lv (.ref (ad t) :: st) σ := r_getR (T := TX4) (N := 20) (k := 1) (co := 4) (Cn := RX4) h hd inG4 rfl (by decide) fl_X5_90 (by decide) ht hC (rNo_4 t hC) (by decide) hnl (t + 1) (rf_4_1 t hC).1 kk
set_option maxRecDepth 100000 in
theorem fl_X5_98 : Cond.fieldLink RX5 98 (TX4 2).1 (TX4 2).2.1 (TX4 2).2.2.1 ∈ GT := gt_in1 64 rfl rfl
theorem g_X5_98 (h : w_Cl l R D cs aS aV A cc nL RX5 nm K) (hd : decode cc pc = .ok (.getfield 98, 3)) (ht : t < n) (hC : rC t = 4) (hnl : nl t 2 = true) (kk : K ad n nl ce sl (pc + 3) lv (.ref (ad (t + 2)) :: st) σ) : K ad n nl ce sl pc lv (.ref (ad t) :: st) σ := r_getR (T := TX4) (N := 20) (k := 2) (co := 4) (Cn := RX4) h hd inG4 rfl (by decide) fl_X5_98 (by decide) ht hC (rNo_4 t hC) (by decide) hnl (t + 2) (rf_4_2 t hC).1 kk
set_option maxRecDepth 100000 in
theorem fl_X5_102 : Cond.fieldLink RX5 102 (TX4 3).1 (TX4 3).2.1 (TX4 3).2.2.1 ∈ GT := gt_in1 67 rfl rfl
theorem g_X5_102 (h : w_Cl l R D cs aS aV A cc nL RX5 nm K) (hd : decode cc pc = .ok (.getfield 102, 3)) (ht : t < n) (hC : rC t = 4) (hnl : nl t 3 = true) (kk : K ad n nl ce sl (pc + 3) lv (.ref (ad (t + 3)) :: st) σ) : K ad n nl ce sl pc lv (.ref (ad t) :: st) σ := r_getR (T := TX4) (N := 20) (k := 3) (co := 4) (Cn := RX4) h hd inG4 rfl (by decide) fl_X5_102 (by decide) ht hC (rNo_4 t hC) (by decide) hnl (t + 3) (rf_4_3 t hC).1 kk
set_option maxRecDepth 100000 in
theorem fl_X5_109 : Cond.fieldLink RX5 109 (TX5 4).1 (TX5 4).2.1 (TX5 4).2.2.1 ∈ GT := gt_in1 237 rfl rfl
theorem g_X5_109 (h : w_Cl l R D cs aS aV A cc nL RX5 nm K) (hd : decode cc pc = .ok (.getfield 109, 3)) (ht : t < n) (hC : rC t = 5) (kk : K ad n nl ce sl (pc + 3) lv (.int (vI (gi σ t 4)) :: st) σ) : K ad n nl ce sl pc lv (.ref (ad t) :: st) σ := r_getI (T := TX5) (N := 6) (k := 4) (co := 5) (Cn := RX5) h hd inG5 rfl (by decide) fl_X5_109 (by decide) ht hC (rNo_5 t hC) (by decide) kk
theorem p_X5_109 {x : Int} (h : w_Cl l R D cs aS aV A cc nL RX5 nm K) (hd : decode cc pc = .ok (.putfield 109, 3)) (ht : t < n) (hC : rC t = 5) (hx : rI x) (kk : K ad n nl ce sl (pc + 3) lv st (si σ t 4 x)) : K ad n nl ce sl pc lv (.int (vI x) :: .ref (ad t) :: st) σ := r_putI (T := TX5) (N := 6) (k := 4) (co := 5) (Cn := RX5) h hd inG5 tyX5 tyX5_ok nmX5 rfl (by decide) fl_X5_109 (by decide) ht hC (rNo_5 t hC) (by decide) rfl rfl hx kk
set_option maxRecDepth 100000 in
theorem fl_X5_112 : Cond.fieldLink RX5 112 (TX4 4).1 (TX4 4).2.1 (TX4 4).2.2.1 ∈ GT := gt_in1 70 rfl rfl
theorem g_X5_112 (h : w_Cl l R D cs aS aV A cc nL RX5 nm K) (hd : decode cc pc = .ok (.getfield 112, 3)) (ht : t < n) (hC : rC t = 4) (kk : K ad n nl ce sl (pc + 3) lv (.int (vI (gi σ t 4)) :: st) σ) : K ad n nl ce sl pc lv (.ref (ad t) :: st) σ := r_getI (T := TX4) (N := 20) (k := 4) (co := 4) (Cn := RX4) h hd inG4 rfl (by decide) fl_X5_112 (by decide) ht hC (rNo_4 t hC) (by decide) kk
theorem p_X5_112 {x : Int} (h : w_Cl l R D cs aS aV A cc nL RX5 nm K) (hd : decode cc pc = .ok (.putfield 112, 3)) (ht : t < n) (hC : rC t = 4) (hx : rI x) (kk : K ad n nl ce sl (pc + 3) lv st (si σ t 4 x)) : K ad n nl ce sl pc lv (.int (vI x) :: .ref (ad t) :: st) σ := r_putI (T := TX4) (N := 20) (k := 4) (co := 4) (Cn := RX4) h hd inG4 tyX4 tyX4_ok nmX4 rfl (by decide) fl_X5_112 (by decide) ht hC (rNo_4 t hC) (by decide) rfl rfl hx kk
set_option maxRecDepth 100000 in
theorem fl_X5_119 : Cond.fieldLink RX5 119 (TX4 5).1 (TX4 5).2.1 (TX4 5).2.2.1 ∈ GT := gt_in1 74 rfl rfl
theorem g_X5_119 (h : w_Cl l R D cs aS aV A cc nL RX5 nm K) (hd : decode cc pc = .ok (.getfield 119, 3)) (ht : t < n) (hC : rC t = 4) (hnl : nl t 5 = true) (kk : K ad n nl ce sl (pc + 3) lv (.ref (ad (t + 4)) :: st) σ) : K ad n nl ce sl pc lv (.ref (ad t) :: st) σ := r_getR (T := TX4) (N := 20) (k := 5) (co := 4) (Cn := RX4) h hd inG4 rfl (by decide) fl_X5_119 (by decide) ht hC (rNo_4 t hC) (by decide) hnl (t + 4) (rf_4_5 t hC).1 kk
set_option maxRecDepth 100000 in
theorem fl_X5_122 : Cond.fieldLink RX5 122 (TX4 6).1 (TX4 6).2.1 (TX4 6).2.2.1 ∈ GT := gt_in1 78 rfl rfl
theorem g_X5_122 (h : w_Cl l R D cs aS aV A cc nL RX5 nm K) (hd : decode cc pc = .ok (.getfield 122, 3)) (ht : t < n) (hC : rC t = 4) (hnl : nl t 6 = true) (kk : K ad n nl ce sl (pc + 3) lv (.ref (ad (t + 5)) :: st) σ) : K ad n nl ce sl pc lv (.ref (ad t) :: st) σ := r_getR (T := TX4) (N := 20) (k := 6) (co := 4) (Cn := RX4) h hd inG4 rfl (by decide) fl_X5_122 (by decide) ht hC (rNo_4 t hC) (by decide) hnl (t + 5) (rf_4_6 t hC).1 kk
set_option maxRecDepth 100000 in
theorem fl_X5_129 : Cond.fieldLink RX5 129 (TX4 7).1 (TX4 7).2.1 (TX4 7).2.2.1 ∈ GT := gt_in1 83 rfl rfl
theorem g_X5_129 (h : w_Cl l R D cs aS aV A cc nL RX5 nm K) (hd : decode cc pc = .ok (.getfield 129, 3)) (ht : t < n) (hC : rC t = 4) (hnl : nl t 7 = true) (kk : K ad n nl ce sl (pc + 3) lv (.ref (ad (t + 6)) :: st) σ) : K ad n nl ce sl pc lv (.ref (ad t) :: st) σ := r_getR (T := TX4) (N := 20) (k := 7) (co := 4) (Cn := RX4) h hd inG4 rfl (by decide) fl_X5_129 (by decide) ht hC (rNo_4 t hC) (by decide) hnl (t + 6) (rf_4_7 t hC).1 kk
set_option maxRecDepth 100000 in
theorem fl_X5_132 : Cond.fieldLink RX5 132 (TX4 8).1 (TX4 8).2.1 (TX4 8).2.2.1 ∈ GT := gt_in1 89 rfl rfl
theorem g_X5_132 (h : w_Cl l R D cs aS aV A cc nL RX5 nm K) (hd : decode cc pc = .ok (.getfield 132, 3)) (ht : t < n) (hC : rC t = 4) (hnl : nl t 8 = true) (kk : K ad n nl ce sl (pc + 3) lv (.ref (ad (t + 7)) :: st) σ) : K ad n nl ce sl pc lv (.ref (ad t) :: st) σ := r_getR (T := TX4) (N := 20) (k := 8) (co := 4) (Cn := RX4) h hd inG4 rfl (by decide) fl_X5_132 (by decide) ht hC (rNo_4 t hC) (by decide) hnl (t + 7) (rf_4_8 t hC).1 kk
set_option maxRecDepth 100000 in
theorem fl_X5_138 : Cond.fieldLink RX5 138 (TX10 4).1 (TX10 4).2.1 (TX10 4).2.2.1 ∈ GT := gt_in1 184 rfl rfl
theorem g_X5_138 (h : w_Cl l R D cs aS aV A cc nL RX5 nm K) (hd : decode cc pc = .ok (.getfield 138, 3)) (ht : t < n) (hC : rC t = 10) (kk : K ad n nl ce sl (pc + 3) lv (.int (vI (gi σ t 4)) :: st) σ) : K ad n nl ce sl pc lv (.ref (ad t) :: st) σ := r_getI (T := TX10) (N := 7) (k := 4) (co := 10) (Cn := RX10) h hd inG10 rfl (by decide) fl_X5_138 (by decide) ht hC (rNo_10 t hC) (by decide) kk
set_option maxRecDepth 100000 in
theorem fl_X5_141 : Cond.fieldLink RX5 141 (TX10 5).1 (TX10 5).2.1 (TX10 5).2.2.1 ∈ GT := gt_in1 186 rfl rfl
theorem g_X5_141 (h : w_Cl l R D cs aS aV A cc nL RX5 nm K) (hd : decode cc pc = .ok (.getfield 141, 3)) (ht : t < n) (hC : rC t = 10) (kk : K ad n nl ce sl (pc + 3) lv (.int (vI (gi σ t 5)) :: st) σ) : K ad n nl ce sl pc lv (.ref (ad t) :: st) σ := r_getI (T := TX10) (N := 7) (k := 5) (co := 10) (Cn := RX10) h hd inG10 rfl (by decide) fl_X5_141 (by decide) ht hC (rNo_10 t hC) (by decide) kk
set_option maxRecDepth 100000 in
theorem fl_X5_147 : Cond.fieldLink RX5 147 (TX4 9).1 (TX4 9).2.1 (TX4 9).2.2.1 ∈ GT := gt_in1 93 rfl rfl
theorem g_X5_147 (h : w_Cl l R D cs aS aV A cc nL RX5 nm K) (hd : decode cc pc = .ok (.getfield 147, 3)) (ht : t < n) (hC : rC t = 4) (kk : K ad n nl ce sl (pc + 3) lv (.int (vI (gi σ t 9)) :: st) σ) : K ad n nl ce sl pc lv (.ref (ad t) :: st) σ := r_getI (T := TX4) (N := 20) (k := 9) (co := 4) (Cn := RX4) h hd inG4 rfl (by decide) fl_X5_147 (by decide) ht hC (rNo_4 t hC) (by decide) kk
theorem p_X5_147 {x : Int} (h : w_Cl l R D cs aS aV A cc nL RX5 nm K) (hd : decode cc pc = .ok (.putfield 147, 3)) (ht : t < n) (hC : rC t = 4) (hx : rI x) (kk : K ad n nl ce sl (pc + 3) lv st (si σ t 9 x)) : K ad n nl ce sl pc lv (.int (vI x) :: .ref (ad t) :: st) σ := r_putI (T := TX4) (N := 20) (k := 9) (co := 4) (Cn := RX4) h hd inG4 tyX4 tyX4_ok nmX4 rfl (by decide) fl_X5_147 (by decide) ht hC (rNo_4 t hC) (by decide) rfl rfl hx kk
set_option maxRecDepth 100000 in
theorem fl_X5_150 : Cond.fieldLink RX5 150 (TX4 10).1 (TX4 10).2.1 (TX4 10).2.2.1 ∈ GT := gt_in1 96 rfl rfl
theorem g_X5_150 (h : w_Cl l R D cs aS aV A cc nL RX5 nm K) (hd : decode cc pc = .ok (.getfield 150, 3)) (ht : t < n) (hC : rC t = 4) (hnl : nl t 10 = true) (kk : K ad n nl ce sl (pc + 3) lv (.ref (ad (t + 8)) :: st) σ) : K ad n nl ce sl pc lv (.ref (ad t) :: st) σ := r_getR (T := TX4) (N := 20) (k := 10) (co := 4) (Cn := RX4) h hd inG4 rfl (by decide) fl_X5_150 (by decide) ht hC (rNo_4 t hC) (by decide) hnl (t + 8) (rf_4_10 t hC).1 kk
set_option maxRecDepth 100000 in
theorem fl_X5_153 : Cond.fieldLink RX5 153 (TX4 11).1 (TX4 11).2.1 (TX4 11).2.2.1 ∈ GT := gt_in1 99 rfl rfl
theorem g_X5_153 (h : w_Cl l R D cs aS aV A cc nL RX5 nm K) (hd : decode cc pc = .ok (.getfield 153, 3)) (ht : t < n) (hC : rC t = 4) (hnl : nl t 11 = true) (kk : K ad n nl ce sl (pc + 3) lv (.ref (ad (t + 9)) :: st) σ) : K ad n nl ce sl pc lv (.ref (ad t) :: st) σ := r_getR (T := TX4) (N := 20) (k := 11) (co := 4) (Cn := RX4) h hd inG4 rfl (by decide) fl_X5_153 (by decide) ht hC (rNo_4 t hC) (by decide) hnl (t + 9) (rf_4_11 t hC).1 kk
set_option maxRecDepth 100000 in
theorem fl_X5_156 : Cond.fieldLink RX5 156 (TX4 12).1 (TX4 12).2.1 (TX4 12).2.2.1 ∈ GT := gt_in1 102 rfl rfl
theorem g_X5_156 (h : w_Cl l R D cs aS aV A cc nL RX5 nm K) (hd : decode cc pc = .ok (.getfield 156, 3)) (ht : t < n) (hC : rC t = 4) (kk : K ad n nl ce sl (pc + 3) lv (.int (vI (gi σ t 12)) :: st) σ) : K ad n nl ce sl pc lv (.ref (ad t) :: st) σ := r_getI (T := TX4) (N := 20) (k := 12) (co := 4) (Cn := RX4) h hd inG4 rfl (by decide) fl_X5_156 (by decide) ht hC (rNo_4 t hC) (by decide) kk
theorem p_X5_156 {x : Int} (h : w_Cl l R D cs aS aV A cc nL RX5 nm K) (hd : decode cc pc = .ok (.putfield 156, 3)) (ht : t < n) (hC : rC t = 4) (hx : rI x) (kk : K ad n nl ce sl (pc + 3) lv st (si σ t 12 x)) : K ad n nl ce sl pc lv (.int (vI x) :: .ref (ad t) :: st) σ := r_putI (T := TX4) (N := 20) (k := 12) (co := 4) (Cn := RX4) h hd inG4 tyX4 tyX4_ok nmX4 rfl (by decide) fl_X5_156 (by decide) ht hC (rNo_4 t hC) (by decide) rfl rfl hx kk
set_option maxRecDepth 100000 in
theorem fl_X5_159 : Cond.fieldLink RX5 159 (TX4 13).1 (TX4 13).2.1 (TX4 13).2.2.1 ∈ GT := gt_in1 105 rfl rfl
theorem g_X5_159 (h : w_Cl l R D cs aS aV A cc nL RX5 nm K) (hd : decode cc pc = .ok (.getfield 159, 3)) (ht : t < n) (hC : rC t = 4) (hnl : nl t 13 = true) (kk : K ad n nl ce sl (pc + 3) lv (.ref (ad (t + 10)) :: st) σ) : K ad n nl ce sl pc lv (.ref (ad t) :: st) σ := r_getR (T := TX4) (N := 20) (k := 13) (co := 4) (Cn := RX4) h hd inG4 rfl (by decide) fl_X5_159 (by decide) ht hC (rNo_4 t hC) (by decide) hnl (t + 10) (rf_4_13 t hC).1 kk
set_option maxRecDepth 100000 in
theorem fl_X5_162 : Cond.fieldLink RX5 162 (TX4 14).1 (TX4 14).2.1 (TX4 14).2.2.1 ∈ GT := gt_in1 108 rfl rfl
theorem g_X5_162 (h : w_Cl l R D cs aS aV A cc nL RX5 nm K) (hd : decode cc pc = .ok (.getfield 162, 3)) (ht : t < n) (hC : rC t = 4) (hnl : nl t 14 = true) (kk : K ad n nl ce sl (pc + 3) lv (.ref (ad (t + 11)) :: st) σ) : K ad n nl ce sl pc lv (.ref (ad t) :: st) σ := r_getR (T := TX4) (N := 20) (k := 14) (co := 4) (Cn := RX4) h hd inG4 rfl (by decide) fl_X5_162 (by decide) ht hC (rNo_4 t hC) (by decide) hnl (t + 11) (rf_4_14 t hC).1 kk
set_option maxRecDepth 100000 in
theorem fl_X5_165 : Cond.fieldLink RX5 165 (TX4 16).1 (TX4 16).2.1 (TX4 16).2.2.1 ∈ GT := gt_in1 114 rfl rfl
theorem g_X5_165 (h : w_Cl l R D cs aS aV A cc nL RX5 nm K) (hd : decode cc pc = .ok (.getfield 165, 3)) (ht : t < n) (hC : rC t = 4) (hnl : nl t 16 = true) (kk : K ad n nl ce sl (pc + 3) lv (.ref (ad (t + 13)) :: st) σ) : K ad n nl ce sl pc lv (.ref (ad t) :: st) σ := r_getR (T := TX4) (N := 20) (k := 16) (co := 4) (Cn := RX4) h hd inG4 rfl (by decide) fl_X5_165 (by decide) ht hC (rNo_4 t hC) (by decide) hnl (t + 13) (rf_4_16 t hC).1 kk
set_option maxRecDepth 100000 in
theorem fl_X5_168 : Cond.fieldLink RX5 168 (TX4 15).1 (TX4 15).2.1 (TX4 15).2.2.1 ∈ GT := gt_in1 111 rfl rfl
theorem g_X5_168 (h : w_Cl l R D cs aS aV A cc nL RX5 nm K) (hd : decode cc pc = .ok (.getfield 168, 3)) (ht : t < n) (hC : rC t = 4) (hnl : nl t 15 = true) (kk : K ad n nl ce sl (pc + 3) lv (.ref (ad (t + 12)) :: st) σ) : K ad n nl ce sl pc lv (.ref (ad t) :: st) σ := r_getR (T := TX4) (N := 20) (k := 15) (co := 4) (Cn := RX4) h hd inG4 rfl (by decide) fl_X5_168 (by decide) ht hC (rNo_4 t hC) (by decide) hnl (t + 12) (rf_4_15 t hC).1 kk
set_option maxRecDepth 100000 in
theorem fl_X5_179 : Cond.fieldLink RX5 179 (TX4 17).1 (TX4 17).2.1 (TX4 17).2.2.1 ∈ GT := gt_in1 117 rfl rfl
theorem p_X5_179 {x : Int} (h : w_Cl l R D cs aS aV A cc nL RX5 nm K) (hd : decode cc pc = .ok (.putfield 179, 3)) (ht : t < n) (hC : rC t = 4) (hx : rI x) (kk : K ad n nl ce sl (pc + 3) lv st (si σ t 17 x)) : K ad n nl ce sl pc lv (.int (vI x) :: .ref (ad t) :: st) σ := r_putI (T := TX4) (N := 20) (k := 17) (co := 4) (Cn := RX4) h hd inG4 tyX4 tyX4_ok nmX4 rfl (by decide) fl_X5_179 (by decide) ht hC (rNo_4 t hC) (by decide) rfl rfl hx kk
set_option maxRecDepth 100000 in
theorem fl_X5_182 : Cond.fieldLink RX5 182 (TX10 6).1 (TX10 6).2.1 (TX10 6).2.2.1 ∈ GT := gt_in1 189 rfl rfl
theorem g_X5_182 (h : w_Cl l R D cs aS aV A cc nL RX5 nm K) (hd : decode cc pc = .ok (.getfield 182, 3)) (ht : t < n) (hC : rC t = 10) (kk : K ad n nl ce sl (pc + 3) lv (.long (vJ (gj σ t 6)) :: st) σ) : K ad n nl ce sl pc lv (.ref (ad t) :: st) σ := r_getJ (T := TX10) (N := 7) (k := 6) (co := 10) (Cn := RX10) h hd inG10 rfl (by decide) fl_X5_182 (by decide) ht hC (rNo_10 t hC) (by decide) kk
set_option maxRecDepth 100000 in
theorem fl_X6_9 : Cond.fieldLink RX6 9 (TX6 4).1 (TX6 4).2.1 (TX6 4).2.2.1 ∈ GT := gt_in3 17 rfl rfl
theorem g_X6_9 (h : w_Cl l R D cs aS aV A cc nL RX6 nm K) (hd : decode cc pc = .ok (.getfield 9, 3)) (ht : t < n) (hC : rC t = 6) (hnl : nl t 4 = true) (kk : K ad n nl ce sl (pc + 3) lv (.ref (ad (80)) :: st) σ) : K ad n nl ce sl pc lv (.ref (ad t) :: st) σ := r_getR (T := TX6) (N := 7) (k := 4) (co := 6) (Cn := RX6) h hd inG6 rfl (by decide) fl_X6_9 (by decide) ht hC (rNo_6 t hC) (by decide) hnl (80) (by have z : t = 79 := rC_uni6 t hC; subst z; exact rf_6_4) kk
theorem p_X6_9 (h : w_Cl l R D cs aS aV A cc nL RX6 "<init>" K) (hd : decode cc pc = .ok (.putfield 9, 3)) (ht : t < n) (hC : rC t = 6) (kk : K ad n (nu nl t 4) ce sl (pc + 3) lv st σ) : K ad n nl ce sl pc lv (.ref (ad (80)) :: .ref (ad t) :: st) σ := r_putR (T := TX6) (N := 7) (k := 4) (co := 6) (Cn := RX6) h hd inG6 tyX6 tyX6_ok nmX6 rfl (by decide) fl_X6_9 (by decide) ht hC (rNo_6 t hC) (by decide) rfl rfl rfl (fun _ => ⟨rfl, rfl⟩) (by have z : t = 79 := rC_uni6 t hC; subst z; exact rf_6_4) kk
set_option maxRecDepth 100000 in
theorem fl_X6_15 : Cond.fieldLink RX6 15 (TX6 5).1 (TX6 5).2.1 (TX6 5).2.2.1 ∈ GT := gt_in3 18 rfl rfl
theorem g_X6_15 (h : w_Cl l R D cs aS aV A cc nL RX6 nm K) (hd : decode cc pc = .ok (.getfield 15, 3)) (ht : t < n) (hC : rC t = 6) (hnl : nl t 5 = true) (kk : K ad n nl ce sl (pc + 3) lv (.ref (ad (81)) :: st) σ) : K ad n nl ce sl pc lv (.ref (ad t) :: st) σ := r_getR (T := TX6) (N := 7) (k := 5) (co := 6) (Cn := RX6) h hd inG6 rfl (by decide) fl_X6_15 (by decide) ht hC (rNo_6 t hC) (by decide) hnl (81) (by have z : t = 79 := rC_uni6 t hC; subst z; exact rf_6_5) kk
theorem p_X6_15 (h : w_Cl l R D cs aS aV A cc nL RX6 "<init>" K) (hd : decode cc pc = .ok (.putfield 15, 3)) (ht : t < n) (hC : rC t = 6) (kk : K ad n (nu nl t 5) ce sl (pc + 3) lv st σ) : K ad n nl ce sl pc lv (.ref (ad (81)) :: .ref (ad t) :: st) σ := r_putR (T := TX6) (N := 7) (k := 5) (co := 6) (Cn := RX6) h hd inG6 tyX6 tyX6_ok nmX6 rfl (by decide) fl_X6_15 (by decide) ht hC (rNo_6 t hC) (by decide) rfl rfl rfl (fun _ => ⟨rfl, rfl⟩) (by have z : t = 79 := rC_uni6 t hC; subst z; exact rf_6_5) kk
set_option maxRecDepth 100000 in
theorem fl_X6_18 : Cond.fieldLink RX6 18 (TX6 6).1 (TX6 6).2.1 (TX6 6).2.2.1 ∈ GT := gt_in3 19 rfl rfl
theorem g_X6_18 (h : w_Cl l R D cs aS aV A cc nL RX6 nm K) (hd : decode cc pc = .ok (.getfield 18, 3)) (ht : t < n) (hC : rC t = 6) (hnl : nl t 6 = true) (kk : K ad n nl ce sl (pc + 3) lv (.ref (ad (82)) :: st) σ) : K ad n nl ce sl pc lv (.ref (ad t) :: st) σ := r_getR (T := TX6) (N := 7) (k := 6) (co := 6) (Cn := RX6) h hd inG6 rfl (by decide) fl_X6_18 (by decide) ht hC (rNo_6 t hC) (by decide) hnl (82) (by have z : t = 79 := rC_uni6 t hC; subst z; exact rf_6_6) kk
theorem p_X6_18 (h : w_Cl l R D cs aS aV A cc nL RX6 "<init>" K) (hd : decode cc pc = .ok (.putfield 18, 3)) (ht : t < n) (hC : rC t = 6) (kk : K ad n (nu nl t 6) ce sl (pc + 3) lv st σ) : K ad n nl ce sl pc lv (.ref (ad (82)) :: .ref (ad t) :: st) σ := r_putR (T := TX6) (N := 7) (k := 6) (co := 6) (Cn := RX6) h hd inG6 tyX6 tyX6_ok nmX6 rfl (by decide) fl_X6_18 (by decide) ht hC (rNo_6 t hC) (by decide) rfl rfl rfl (fun _ => ⟨rfl, rfl⟩) (by have z : t = 79 := rC_uni6 t hC; subst z; exact rf_6_6) kk
set_option maxRecDepth 100000 in
theorem fl_X6_22 : Cond.fieldLink RX6 22 (TX6 0).1 (TX6 0).2.1 (TX6 0).2.2.1 ∈ GT := gt_in3 11 rfl rfl
theorem g_X6_22 (h : w_Cl l R D cs aS aV A cc nL RX6 nm K) (hd : decode cc pc = .ok (.getfield 22, 3)) (ht : t < n) (hC : rC t = 6) (hnl : nl t 0 = true) (kk : K ad n nl ce sl (pc + 3) lv (.ref (ad (2)) :: st) σ) : K ad n nl ce sl pc lv (.ref (ad t) :: st) σ := r_getR (T := TX6) (N := 7) (k := 0) (co := 6) (Cn := RX6) h hd inG6 rfl (by decide) fl_X6_22 (by decide) ht hC (rNo_6 t hC) (by decide) hnl (2) (by have z : t = 79 := rC_uni6 t hC; subst z; exact rf_6_0) kk
theorem p_X6_22 (h : w_Cl l R D cs aS aV A cc nL RX6 "<init>" K) (hd : decode cc pc = .ok (.putfield 22, 3)) (ht : t < n) (hC : rC t = 6) (kk : K ad n (nu nl t 0) ce sl (pc + 3) lv st σ) : K ad n nl ce sl pc lv (.ref (ad (2)) :: .ref (ad t) :: st) σ := r_putR (T := TX6) (N := 7) (k := 0) (co := 6) (Cn := RX6) h hd inG6 tyX6 tyX6_ok nmX6 rfl (by decide) fl_X6_22 (by decide) ht hC (rNo_6 t hC) (by decide) rfl rfl rfl (fun _ => ⟨rfl, rfl⟩) (by have z : t = 79 := rC_uni6 t hC; subst z; exact rf_6_0) kk
set_option maxRecDepth 100000 in
theorem fl_X6_31 : Cond.fieldLink RX6 31 (TX6 1).1 (TX6 1).2.1 (TX6 1).2.2.1 ∈ GT := gt_in3 12 rfl rfl
theorem g_X6_31 (h : w_Cl l R D cs aS aV A cc nL RX6 nm K) (hd : decode cc pc = .ok (.getfield 31, 3)) (ht : t < n) (hC : rC t = 6) (hnl : nl t 1 = true) (kk : K ad n nl ce sl (pc + 3) lv (.ref (ad (83)) :: st) σ) : K ad n nl ce sl pc lv (.ref (ad t) :: st) σ := r_getR (T := TX6) (N := 7) (k := 1) (co := 6) (Cn := RX6) h hd inG6 rfl (by decide) fl_X6_31 (by decide) ht hC (rNo_6 t hC) (by decide) hnl (83) (by have z : t = 79 := rC_uni6 t hC; subst z; exact rf_6_1) kk
theorem p_X6_31 (h : w_Cl l R D cs aS aV A cc nL RX6 "<init>" K) (hd : decode cc pc = .ok (.putfield 31, 3)) (ht : t < n) (hC : rC t = 6) (kk : K ad n (nu nl t 1) ce sl (pc + 3) lv st σ) : K ad n nl ce sl pc lv (.ref (ad (83)) :: .ref (ad t) :: st) σ := r_putR (T := TX6) (N := 7) (k := 1) (co := 6) (Cn := RX6) h hd inG6 tyX6 tyX6_ok nmX6 rfl (by decide) fl_X6_31 (by decide) ht hC (rNo_6 t hC) (by decide) rfl rfl rfl (fun _ => ⟨rfl, rfl⟩) (by have z : t = 79 := rC_uni6 t hC; subst z; exact rf_6_1) kk
set_option maxRecDepth 100000 in
theorem fl_X6_35 : Cond.fieldLink RX6 35 (TX6 3).1 (TX6 3).2.1 (TX6 3).2.2.1 ∈ GT := gt_in3 15 rfl rfl
theorem g_X6_35 (h : w_Cl l R D cs aS aV A cc nL RX6 nm K) (hd : decode cc pc = .ok (.getfield 35, 3)) (ht : t < n) (hC : rC t = 6) (kk : K ad n nl ce sl (pc + 3) lv (.int (vI (gi σ t 3)) :: st) σ) : K ad n nl ce sl pc lv (.ref (ad t) :: st) σ := r_getI (T := TX6) (N := 7) (k := 3) (co := 6) (Cn := RX6) h hd inG6 rfl (by decide) fl_X6_35 (by decide) ht hC (rNo_6 t hC) (by decide) kk
theorem p_X6_35 {x : Int} (h : w_Cl l R D cs aS aV A cc nL RX6 nm K) (hd : decode cc pc = .ok (.putfield 35, 3)) (ht : t < n) (hC : rC t = 6) (hx : rI x) (kk : K ad n nl ce sl (pc + 3) lv st (si σ t 3 x)) : K ad n nl ce sl pc lv (.int (vI x) :: .ref (ad t) :: st) σ := r_putI (T := TX6) (N := 7) (k := 3) (co := 6) (Cn := RX6) h hd inG6 tyX6 tyX6_ok nmX6 rfl (by decide) fl_X6_35 (by decide) ht hC (rNo_6 t hC) (by decide) rfl rfl hx kk
set_option maxRecDepth 100000 in
theorem fl_X6_39 : Cond.fieldLink RX6 39 (TX6 2).1 (TX6 2).2.1 (TX6 2).2.2.1 ∈ GT := gt_in3 13 rfl rfl
theorem g_X6_39 (h : w_Cl l R D cs aS aV A cc nL RX6 nm K) (hd : decode cc pc = .ok (.getfield 39, 3)) (ht : t < n) (hC : rC t = 6) (kk : K ad n nl ce sl (pc + 3) lv (.int (vI (gi σ t 2)) :: st) σ) : K ad n nl ce sl pc lv (.ref (ad t) :: st) σ := r_getI (T := TX6) (N := 7) (k := 2) (co := 6) (Cn := RX6) h hd inG6 rfl (by decide) fl_X6_39 (by decide) ht hC (rNo_6 t hC) (by decide) kk
theorem p_X6_39 {x : Int} (h : w_Cl l R D cs aS aV A cc nL RX6 nm K) (hd : decode cc pc = .ok (.putfield 39, 3)) (ht : t < n) (hC : rC t = 6) (hx : rI x) (kk : K ad n nl ce sl (pc + 3) lv st (si σ t 2 x)) : K ad n nl ce sl pc lv (.int (vI x) :: .ref (ad t) :: st) σ := r_putI (T := TX6) (N := 7) (k := 2) (co := 6) (Cn := RX6) h hd inG6 tyX6 tyX6_ok nmX6 rfl (by decide) fl_X6_39 (by decide) ht hC (rNo_6 t hC) (by decide) rfl rfl hx kk
set_option maxRecDepth 100000 in
theorem fl_X6_83 : Cond.fieldLink RX6 83 (TX4 11).1 (TX4 11).2.1 (TX4 11).2.2.1 ∈ GT := gt_in1 100 rfl rfl
theorem g_X6_83 (h : w_Cl l R D cs aS aV A cc nL RX6 nm K) (hd : decode cc pc = .ok (.getfield 83, 3)) (ht : t < n) (hC : rC t = 4) (hnl : nl t 11 = true) (kk : K ad n nl ce sl (pc + 3) lv (.ref (ad (t + 9)) :: st) σ) : K ad n nl ce sl pc lv (.ref (ad t) :: st) σ := r_getR (T := TX4) (N := 20) (k := 11) (co := 4) (Cn := RX4) h hd inG4 rfl (by decide) fl_X6_83 (by decide) ht hC (rNo_4 t hC) (by decide) hnl (t + 9) (rf_4_11 t hC).1 kk
set_option maxRecDepth 100000 in
theorem fl_X7_9 : Cond.fieldLink RX7 9 (TX7 0).1 (TX7 0).2.1 (TX7 0).2.2.1 ∈ GT := gt_in2 125 rfl rfl
theorem g_X7_9 (h : w_Cl l R D cs aS aV A cc nL RX7 nm K) (hd : decode cc pc = .ok (.getfield 9, 3)) (ht : t < n) (hC : rC t = 7) (hnl : nl t 0 = true) (kk : K ad n nl ce sl (pc + 3) lv (.ref (ad (t + 1)) :: st) σ) : K ad n nl ce sl pc lv (.ref (ad t) :: st) σ := r_getR (T := TX7) (N := 4) (k := 0) (co := 7) (Cn := RX7) h hd inG7 rfl (by decide) fl_X7_9 (by decide) ht hC (rNo_7 t hC) (by decide) hnl (t + 1) (rf_7_0 t hC).1 kk
theorem p_X7_9 (h : w_Cl l R D cs aS aV A cc nL RX7 "<init>" K) (hd : decode cc pc = .ok (.putfield 9, 3)) (ht : t < n) (hC : rC t = 7) (kk : K ad n (nu nl t 0) ce sl (pc + 3) lv st σ) : K ad n nl ce sl pc lv (.ref (ad (t + 1)) :: .ref (ad t) :: st) σ := r_putR (T := TX7) (N := 4) (k := 0) (co := 7) (Cn := RX7) h hd inG7 tyX7 tyX7_ok nmX7 rfl (by decide) fl_X7_9 (by decide) ht hC (rNo_7 t hC) (by decide) rfl rfl rfl (fun _ => ⟨rfl, rfl⟩) (rf_7_0 t hC).1 kk
set_option maxRecDepth 100000 in
theorem fl_X7_15 : Cond.fieldLink RX7 15 (TX7 1).1 (TX7 1).2.1 (TX7 1).2.2.1 ∈ GT := gt_in2 128 rfl rfl
theorem g_X7_15 (h : w_Cl l R D cs aS aV A cc nL RX7 nm K) (hd : decode cc pc = .ok (.getfield 15, 3)) (ht : t < n) (hC : rC t = 7) (hnl : nl t 1 = true) (kk : K ad n nl ce sl (pc + 3) lv (.ref (ad (t + 2)) :: st) σ) : K ad n nl ce sl pc lv (.ref (ad t) :: st) σ := r_getR (T := TX7) (N := 4) (k := 1) (co := 7) (Cn := RX7) h hd inG7 rfl (by decide) fl_X7_15 (by decide) ht hC (rNo_7 t hC) (by decide) hnl (t + 2) (rf_7_1 t hC).1 kk
theorem p_X7_15 (h : w_Cl l R D cs aS aV A cc nL RX7 "<init>" K) (hd : decode cc pc = .ok (.putfield 15, 3)) (ht : t < n) (hC : rC t = 7) (kk : K ad n (nu nl t 1) ce sl (pc + 3) lv st σ) : K ad n nl ce sl pc lv (.ref (ad (t + 2)) :: .ref (ad t) :: st) σ := r_putR (T := TX7) (N := 4) (k := 1) (co := 7) (Cn := RX7) h hd inG7 tyX7 tyX7_ok nmX7 rfl (by decide) fl_X7_15 (by decide) ht hC (rNo_7 t hC) (by decide) rfl rfl rfl (fun _ => ⟨rfl, rfl⟩) (rf_7_1 t hC).1 kk
set_option maxRecDepth 100000 in
theorem fl_X7_18 : Cond.fieldLink RX7 18 (TX7 2).1 (TX7 2).2.1 (TX7 2).2.2.1 ∈ GT := gt_in2 130 rfl rfl
theorem g_X7_18 (h : w_Cl l R D cs aS aV A cc nL RX7 nm K) (hd : decode cc pc = .ok (.getfield 18, 3)) (ht : t < n) (hC : rC t = 7) (kk : K ad n nl ce sl (pc + 3) lv (.int (vI (gi σ t 2)) :: st) σ) : K ad n nl ce sl pc lv (.ref (ad t) :: st) σ := r_getI (T := TX7) (N := 4) (k := 2) (co := 7) (Cn := RX7) h hd inG7 rfl (by decide) fl_X7_18 (by decide) ht hC (rNo_7 t hC) (by decide) kk
theorem p_X7_18 {x : Int} (h : w_Cl l R D cs aS aV A cc nL RX7 nm K) (hd : decode cc pc = .ok (.putfield 18, 3)) (ht : t < n) (hC : rC t = 7) (hx : rI x) (kk : K ad n nl ce sl (pc + 3) lv st (si σ t 2 x)) : K ad n nl ce sl pc lv (.int (vI x) :: .ref (ad t) :: st) σ := r_putI (T := TX7) (N := 4) (k := 2) (co := 7) (Cn := RX7) h hd inG7 tyX7 tyX7_ok nmX7 rfl (by decide) fl_X7_18 (by decide) ht hC (rNo_7 t hC) (by decide) rfl rfl hx kk
set_option maxRecDepth 100000 in
theorem fl_X7_22 : Cond.fieldLink RX7 22 (TX7 3).1 (TX7 3).2.1 (TX7 3).2.2.1 ∈ GT := gt_in2 134 rfl rfl
theorem g_X7_22 (h : w_Cl l R D cs aS aV A cc nL RX7 nm K) (hd : decode cc pc = .ok (.getfield 22, 3)) (ht : t < n) (hC : rC t = 7) (kk : K ad n nl ce sl (pc + 3) lv (.int (vI (gi σ t 3)) :: st) σ) : K ad n nl ce sl pc lv (.ref (ad t) :: st) σ := r_getI (T := TX7) (N := 4) (k := 3) (co := 7) (Cn := RX7) h hd inG7 rfl (by decide) fl_X7_22 (by decide) ht hC (rNo_7 t hC) (by decide) kk
theorem p_X7_22 {x : Int} (h : w_Cl l R D cs aS aV A cc nL RX7 nm K) (hd : decode cc pc = .ok (.putfield 22, 3)) (ht : t < n) (hC : rC t = 7) (hx : rI x) (kk : K ad n nl ce sl (pc + 3) lv st (si σ t 3 x)) : K ad n nl ce sl pc lv (.int (vI x) :: .ref (ad t) :: st) σ := r_putI (T := TX7) (N := 4) (k := 3) (co := 7) (Cn := RX7) h hd inG7 tyX7 tyX7_ok nmX7 rfl (by decide) fl_X7_22 (by decide) ht hC (rNo_7 t hC) (by decide) rfl rfl hx kk
set_option maxRecDepth 100000 in
theorem fl_X8_9 : Cond.fieldLink RX8 9 (TX8 0).1 (TX8 0).2.1 (TX8 0).2.2.1 ∈ GT := gt_in2 154 rfl rfl
theorem g_X8_9 (h : w_Cl l R D cs aS aV A cc nL RX8 nm K) (hd : decode cc pc = .ok (.getfield 9, 3)) (ht : t < n) (hC : rC t = 8) (hnl : nl t 0 = true) (kk : K ad n nl ce sl (pc + 3) lv (.ref (ad (2)) :: st) σ) : K ad n nl ce sl pc lv (.ref (ad t) :: st) σ := r_getR (T := TX8) (N := 4) (k := 0) (co := 8) (Cn := RX8) h hd inG8 rfl (by decide) fl_X8_9 (by decide) ht hC (rNo_8 t hC) (by decide) hnl (2) (rf_8_0 t hC).1 kk
theorem p_X8_9 (h : w_Cl l R D cs aS aV A cc nL RX8 "<init>" K) (hd : decode cc pc = .ok (.putfield 9, 3)) (ht : t < n) (hC : rC t = 8) (kk : K ad n (nu nl t 0) ce sl (pc + 3) lv st σ) : K ad n nl ce sl pc lv (.ref (ad (2)) :: .ref (ad t) :: st) σ := r_putR (T := TX8) (N := 4) (k := 0) (co := 8) (Cn := RX8) h hd inG8 tyX8 tyX8_ok nmX8 rfl (by decide) fl_X8_9 (by decide) ht hC (rNo_8 t hC) (by decide) rfl rfl rfl (fun _ => ⟨rfl, rfl⟩) (rf_8_0 t hC).1 kk
set_option maxRecDepth 100000 in
theorem fl_X8_20 : Cond.fieldLink RX8 20 (TX8 1).1 (TX8 1).2.1 (TX8 1).2.2.1 ∈ GT := gt_in2 155 rfl rfl
theorem g_X8_20 (h : w_Cl l R D cs aS aV A cc nL RX8 nm K) (hd : decode cc pc = .ok (.getfield 20, 3)) (ht : t < n) (hC : rC t = 8) (hnl : nl t 1 = true) (kk : K ad n nl ce sl (pc + 3) lv (.ref (ad (t + 1)) :: st) σ) : K ad n nl ce sl pc lv (.ref (ad t) :: st) σ := r_getR (T := TX8) (N := 4) (k := 1) (co := 8) (Cn := RX8) h hd inG8 rfl (by decide) fl_X8_20 (by decide) ht hC (rNo_8 t hC) (by decide) hnl (t + 1) (rf_8_1 t hC).1 kk
theorem p_X8_20 (h : w_Cl l R D cs aS aV A cc nL RX8 "<init>" K) (hd : decode cc pc = .ok (.putfield 20, 3)) (ht : t < n) (hC : rC t = 8) (kk : K ad n (nu nl t 1) ce sl (pc + 3) lv st σ) : K ad n nl ce sl pc lv (.ref (ad (t + 1)) :: .ref (ad t) :: st) σ := r_putR (T := TX8) (N := 4) (k := 1) (co := 8) (Cn := RX8) h hd inG8 tyX8 tyX8_ok nmX8 rfl (by decide) fl_X8_20 (by decide) ht hC (rNo_8 t hC) (by decide) rfl rfl rfl (fun _ => ⟨rfl, rfl⟩) (rf_8_1 t hC).1 kk
set_option maxRecDepth 100000 in
theorem fl_X8_28 : Cond.fieldLink RX8 28 (TX8 2).1 (TX8 2).2.1 (TX8 2).2.2.1 ∈ GT := gt_in2 158 rfl rfl
theorem g_X8_28 (h : w_Cl l R D cs aS aV A cc nL RX8 nm K) (hd : decode cc pc = .ok (.getfield 28, 3)) (ht : t < n) (hC : rC t = 8) (kk : K ad n nl ce sl (pc + 3) lv (.int (vI (gi σ t 2)) :: st) σ) : K ad n nl ce sl pc lv (.ref (ad t) :: st) σ := r_getI (T := TX8) (N := 4) (k := 2) (co := 8) (Cn := RX8) h hd inG8 rfl (by decide) fl_X8_28 (by decide) ht hC (rNo_8 t hC) (by decide) kk
theorem p_X8_28 {x : Int} (h : w_Cl l R D cs aS aV A cc nL RX8 nm K) (hd : decode cc pc = .ok (.putfield 28, 3)) (ht : t < n) (hC : rC t = 8) (hx : rI x) (kk : K ad n nl ce sl (pc + 3) lv st (si σ t 2 x)) : K ad n nl ce sl pc lv (.int (vI x) :: .ref (ad t) :: st) σ := r_putI (T := TX8) (N := 4) (k := 2) (co := 8) (Cn := RX8) h hd inG8 tyX8 tyX8_ok nmX8 rfl (by decide) fl_X8_28 (by decide) ht hC (rNo_8 t hC) (by decide) rfl rfl hx kk
set_option maxRecDepth 100000 in
theorem fl_X8_32 : Cond.fieldLink RX8 32 (TX8 3).1 (TX8 3).2.1 (TX8 3).2.2.1 ∈ GT := gt_in2 160 rfl rfl
theorem g_X8_32 (h : w_Cl l R D cs aS aV A cc nL RX8 nm K) (hd : decode cc pc = .ok (.getfield 32, 3)) (ht : t < n) (hC : rC t = 8) (kk : K ad n nl ce sl (pc + 3) lv (.int (vI (gi σ t 3)) :: st) σ) : K ad n nl ce sl pc lv (.ref (ad t) :: st) σ := r_getI (T := TX8) (N := 4) (k := 3) (co := 8) (Cn := RX8) h hd inG8 rfl (by decide) fl_X8_32 (by decide) ht hC (rNo_8 t hC) (by decide) kk
theorem p_X8_32 {x : Int} (h : w_Cl l R D cs aS aV A cc nL RX8 nm K) (hd : decode cc pc = .ok (.putfield 32, 3)) (ht : t < n) (hC : rC t = 8) (hx : rI x) (kk : K ad n nl ce sl (pc + 3) lv st (si σ t 3 x)) : K ad n nl ce sl pc lv (.int (vI x) :: .ref (ad t) :: st) σ := r_putI (T := TX8) (N := 4) (k := 3) (co := 8) (Cn := RX8) h hd inG8 tyX8 tyX8_ok nmX8 rfl (by decide) fl_X8_32 (by decide) ht hC (rNo_8 t hC) (by decide) rfl rfl hx kk
set_option maxRecDepth 100000 in
theorem fl_X8_35 : Cond.fieldLink RX8 35 (TX7 2).1 (TX7 2).2.1 (TX7 2).2.2.1 ∈ GT := gt_in2 131 rfl rfl
theorem g_X8_35 (h : w_Cl l R D cs aS aV A cc nL RX8 nm K) (hd : decode cc pc = .ok (.getfield 35, 3)) (ht : t < n) (hC : rC t = 7) (kk : K ad n nl ce sl (pc + 3) lv (.int (vI (gi σ t 2)) :: st) σ) : K ad n nl ce sl pc lv (.ref (ad t) :: st) σ := r_getI (T := TX7) (N := 4) (k := 2) (co := 7) (Cn := RX7) h hd inG7 rfl (by decide) fl_X8_35 (by decide) ht hC (rNo_7 t hC) (by decide) kk
set_option maxRecDepth 100000 in
theorem fl_X8_40 : Cond.fieldLink RX8 40 (TX7 0).1 (TX7 0).2.1 (TX7 0).2.2.1 ∈ GT := gt_in2 126 rfl rfl
theorem g_X8_40 (h : w_Cl l R D cs aS aV A cc nL RX8 nm K) (hd : decode cc pc = .ok (.getfield 40, 3)) (ht : t < n) (hC : rC t = 7) (hnl : nl t 0 = true) (kk : K ad n nl ce sl (pc + 3) lv (.ref (ad (t + 1)) :: st) σ) : K ad n nl ce sl pc lv (.ref (ad t) :: st) σ := r_getR (T := TX7) (N := 4) (k := 0) (co := 7) (Cn := RX7) h hd inG7 rfl (by decide) fl_X8_40 (by decide) ht hC (rNo_7 t hC) (by decide) hnl (t + 1) (rf_7_0 t hC).1 kk
set_option maxRecDepth 100000 in
theorem fl_X8_48 : Cond.fieldLink RX8 48 (TX7 1).1 (TX7 1).2.1 (TX7 1).2.2.1 ∈ GT := gt_in2 129 rfl rfl
theorem g_X8_48 (h : w_Cl l R D cs aS aV A cc nL RX8 nm K) (hd : decode cc pc = .ok (.getfield 48, 3)) (ht : t < n) (hC : rC t = 7) (hnl : nl t 1 = true) (kk : K ad n nl ce sl (pc + 3) lv (.ref (ad (t + 2)) :: st) σ) : K ad n nl ce sl pc lv (.ref (ad t) :: st) σ := r_getR (T := TX7) (N := 4) (k := 1) (co := 7) (Cn := RX7) h hd inG7 rfl (by decide) fl_X8_48 (by decide) ht hC (rNo_7 t hC) (by decide) hnl (t + 2) (rf_7_1 t hC).1 kk
set_option maxRecDepth 100000 in
theorem fl_X8_65 : Cond.fieldLink RX8 65 (TX4 7).1 (TX4 7).2.1 (TX4 7).2.2.1 ∈ GT := gt_in1 84 rfl rfl
theorem g_X8_65 (h : w_Cl l R D cs aS aV A cc nL RX8 nm K) (hd : decode cc pc = .ok (.getfield 65, 3)) (ht : t < n) (hC : rC t = 4) (hnl : nl t 7 = true) (kk : K ad n nl ce sl (pc + 3) lv (.ref (ad (t + 6)) :: st) σ) : K ad n nl ce sl pc lv (.ref (ad t) :: st) σ := r_getR (T := TX4) (N := 20) (k := 7) (co := 4) (Cn := RX4) h hd inG4 rfl (by decide) fl_X8_65 (by decide) ht hC (rNo_4 t hC) (by decide) hnl (t + 6) (rf_4_7 t hC).1 kk
set_option maxRecDepth 100000 in
theorem fl_X9_9 : Cond.fieldLink RX9 9 (TX9 1).1 (TX9 1).2.1 (TX9 1).2.2.1 ∈ GT := gt_in2 25 rfl rfl
theorem g_X9_9 (h : w_Cl l R D cs aS aV A cc nL RX9 nm K) (hd : decode cc pc = .ok (.getfield 9, 3)) (ht : t < n) (hC : rC t = 9) (hnl : nl t 1 = true) (kk : K ad n nl ce sl (pc + 3) lv (.ref (ad (t + 1)) :: st) σ) : K ad n nl ce sl pc lv (.ref (ad t) :: st) σ := r_getR (T := TX9) (N := 7) (k := 1) (co := 9) (Cn := RX9) h hd inG9 rfl (by decide) fl_X9_9 (by decide) ht hC (rNo_9 t hC) (by decide) hnl (t + 1) (rf_9_1 t hC).1 kk
theorem p_X9_9 (h : w_Cl l R D cs aS aV A cc nL RX9 "<init>" K) (hd : decode cc pc = .ok (.putfield 9, 3)) (ht : t < n) (hC : rC t = 9) (kk : K ad n (nu nl t 1) ce sl (pc + 3) lv st σ) : K ad n nl ce sl pc lv (.ref (ad (t + 1)) :: .ref (ad t) :: st) σ := r_putR (T := TX9) (N := 7) (k := 1) (co := 9) (Cn := RX9) h hd inG9 tyX9 tyX9_ok nmX9 rfl (by decide) fl_X9_9 (by decide) ht hC (rNo_9 t hC) (by decide) rfl rfl rfl (fun _ => ⟨rfl, rfl⟩) (rf_9_1 t hC).1 kk
set_option maxRecDepth 100000 in
theorem fl_X9_15 : Cond.fieldLink RX9 15 (TX9 2).1 (TX9 2).2.1 (TX9 2).2.2.1 ∈ GT := gt_in2 26 rfl rfl
theorem g_X9_15 (h : w_Cl l R D cs aS aV A cc nL RX9 nm K) (hd : decode cc pc = .ok (.getfield 15, 3)) (ht : t < n) (hC : rC t = 9) (hnl : nl t 2 = true) (kk : K ad n nl ce sl (pc + 3) lv (.ref (ad (t + 2)) :: st) σ) : K ad n nl ce sl pc lv (.ref (ad t) :: st) σ := r_getR (T := TX9) (N := 7) (k := 2) (co := 9) (Cn := RX9) h hd inG9 rfl (by decide) fl_X9_15 (by decide) ht hC (rNo_9 t hC) (by decide) hnl (t + 2) (rf_9_2 t hC).1 kk
theorem p_X9_15 (h : w_Cl l R D cs aS aV A cc nL RX9 "<init>" K) (hd : decode cc pc = .ok (.putfield 15, 3)) (ht : t < n) (hC : rC t = 9) (kk : K ad n (nu nl t 2) ce sl (pc + 3) lv st σ) : K ad n nl ce sl pc lv (.ref (ad (t + 2)) :: .ref (ad t) :: st) σ := r_putR (T := TX9) (N := 7) (k := 2) (co := 9) (Cn := RX9) h hd inG9 tyX9 tyX9_ok nmX9 rfl (by decide) fl_X9_15 (by decide) ht hC (rNo_9 t hC) (by decide) rfl rfl rfl (fun _ => ⟨rfl, rfl⟩) (rf_9_2 t hC).1 kk
set_option maxRecDepth 100000 in
theorem fl_X9_18 : Cond.fieldLink RX9 18 (TX9 0).1 (TX9 0).2.1 (TX9 0).2.2.1 ∈ GT := gt_in2 24 rfl rfl
theorem g_X9_18 (h : w_Cl l R D cs aS aV A cc nL RX9 nm K) (hd : decode cc pc = .ok (.getfield 18, 3)) (ht : t < n) (hC : rC t = 9) (hnl : nl t 0 = true) (kk : K ad n nl ce sl (pc + 3) lv (.ref (ad (2)) :: st) σ) : K ad n nl ce sl pc lv (.ref (ad t) :: st) σ := r_getR (T := TX9) (N := 7) (k := 0) (co := 9) (Cn := RX9) h hd inG9 rfl (by decide) fl_X9_18 (by decide) ht hC (rNo_9 t hC) (by decide) hnl (2) (rf_9_0 t hC).1 kk
theorem p_X9_18 (h : w_Cl l R D cs aS aV A cc nL RX9 "<init>" K) (hd : decode cc pc = .ok (.putfield 18, 3)) (ht : t < n) (hC : rC t = 9) (kk : K ad n (nu nl t 0) ce sl (pc + 3) lv st σ) : K ad n nl ce sl pc lv (.ref (ad (2)) :: .ref (ad t) :: st) σ := r_putR (T := TX9) (N := 7) (k := 0) (co := 9) (Cn := RX9) h hd inG9 tyX9 tyX9_ok nmX9 rfl (by decide) fl_X9_18 (by decide) ht hC (rNo_9 t hC) (by decide) rfl rfl rfl (fun _ => ⟨rfl, rfl⟩) (rf_9_0 t hC).1 kk
set_option maxRecDepth 100000 in
theorem fl_X9_28 : Cond.fieldLink RX9 28 (TX9 3).1 (TX9 3).2.1 (TX9 3).2.2.1 ∈ GT := gt_in2 27 rfl rfl
theorem g_X9_28 (h : w_Cl l R D cs aS aV A cc nL RX9 nm K) (hd : decode cc pc = .ok (.getfield 28, 3)) (ht : t < n) (hC : rC t = 9) (kk : K ad n nl ce sl (pc + 3) lv (.int (vI (gi σ t 3)) :: st) σ) : K ad n nl ce sl pc lv (.ref (ad t) :: st) σ := r_getI (T := TX9) (N := 7) (k := 3) (co := 9) (Cn := RX9) h hd inG9 rfl (by decide) fl_X9_28 (by decide) ht hC (rNo_9 t hC) (by decide) kk
theorem p_X9_28 {x : Int} (h : w_Cl l R D cs aS aV A cc nL RX9 nm K) (hd : decode cc pc = .ok (.putfield 28, 3)) (ht : t < n) (hC : rC t = 9) (hx : rI x) (kk : K ad n nl ce sl (pc + 3) lv st (si σ t 3 x)) : K ad n nl ce sl pc lv (.int (vI x) :: .ref (ad t) :: st) σ := r_putI (T := TX9) (N := 7) (k := 3) (co := 9) (Cn := RX9) h hd inG9 tyX9 tyX9_ok nmX9 rfl (by decide) fl_X9_28 (by decide) ht hC (rNo_9 t hC) (by decide) rfl rfl hx kk
set_option maxRecDepth 100000 in
theorem fl_X9_32 : Cond.fieldLink RX9 32 (TX4 14).1 (TX4 14).2.1 (TX4 14).2.2.1 ∈ GT := gt_in1 107 rfl rfl
theorem g_X9_32 (h : w_Cl l R D cs aS aV A cc nL RX9 nm K) (hd : decode cc pc = .ok (.getfield 32, 3)) (ht : t < n) (hC : rC t = 4) (hnl : nl t 14 = true) (kk : K ad n nl ce sl (pc + 3) lv (.ref (ad (t + 11)) :: st) σ) : K ad n nl ce sl pc lv (.ref (ad t) :: st) σ := r_getR (T := TX4) (N := 20) (k := 14) (co := 4) (Cn := RX4) h hd inG4 rfl (by decide) fl_X9_32 (by decide) ht hC (rNo_4 t hC) (by decide) hnl (t + 11) (rf_4_14 t hC).1 kk
set_option maxRecDepth 100000 in
theorem fl_X9_35 : Cond.fieldLink RX9 35 (TX9 4).1 (TX9 4).2.1 (TX9 4).2.2.1 ∈ GT := gt_in2 28 rfl rfl
theorem g_X9_35 (h : w_Cl l R D cs aS aV A cc nL RX9 nm K) (hd : decode cc pc = .ok (.getfield 35, 3)) (ht : t < n) (hC : rC t = 9) (kk : K ad n nl ce sl (pc + 3) lv (.int (vI (gi σ t 4)) :: st) σ) : K ad n nl ce sl pc lv (.ref (ad t) :: st) σ := r_getI (T := TX9) (N := 7) (k := 4) (co := 9) (Cn := RX9) h hd inG9 rfl (by decide) fl_X9_35 (by decide) ht hC (rNo_9 t hC) (by decide) kk
theorem p_X9_35 {x : Int} (h : w_Cl l R D cs aS aV A cc nL RX9 nm K) (hd : decode cc pc = .ok (.putfield 35, 3)) (ht : t < n) (hC : rC t = 9) (hx : rI x) (kk : K ad n nl ce sl (pc + 3) lv st (si σ t 4 x)) : K ad n nl ce sl pc lv (.int (vI x) :: .ref (ad t) :: st) σ := r_putI (T := TX9) (N := 7) (k := 4) (co := 9) (Cn := RX9) h hd inG9 tyX9 tyX9_ok nmX9 rfl (by decide) fl_X9_35 (by decide) ht hC (rNo_9 t hC) (by decide) rfl rfl hx kk
set_option maxRecDepth 100000 in
theorem fl_X9_38 : Cond.fieldLink RX9 38 (TX9 5).1 (TX9 5).2.1 (TX9 5).2.2.1 ∈ GT := gt_in2 31 rfl rfl
theorem g_X9_38 (h : w_Cl l R D cs aS aV A cc nL RX9 nm K) (hd : decode cc pc = .ok (.getfield 38, 3)) (ht : t < n) (hC : rC t = 9) (kk : K ad n nl ce sl (pc + 3) lv (.int (vI (gi σ t 5)) :: st) σ) : K ad n nl ce sl pc lv (.ref (ad t) :: st) σ := r_getI (T := TX9) (N := 7) (k := 5) (co := 9) (Cn := RX9) h hd inG9 rfl (by decide) fl_X9_38 (by decide) ht hC (rNo_9 t hC) (by decide) kk
theorem p_X9_38 {x : Int} (h : w_Cl l R D cs aS aV A cc nL RX9 nm K) (hd : decode cc pc = .ok (.putfield 38, 3)) (ht : t < n) (hC : rC t = 9) (hx : rI x) (kk : K ad n nl ce sl (pc + 3) lv st (si σ t 5 x)) : K ad n nl ce sl pc lv (.int (vI x) :: .ref (ad t) :: st) σ := r_putI (T := TX9) (N := 7) (k := 5) (co := 9) (Cn := RX9) h hd inG9 tyX9 tyX9_ok nmX9 rfl (by decide) fl_X9_38 (by decide) ht hC (rNo_9 t hC) (by decide) rfl rfl hx kk
set_option maxRecDepth 100000 in
theorem fl_X9_41 : Cond.fieldLink RX9 41 (TX4 15).1 (TX4 15).2.1 (TX4 15).2.2.1 ∈ GT := gt_in1 110 rfl rfl
theorem g_X9_41 (h : w_Cl l R D cs aS aV A cc nL RX9 nm K) (hd : decode cc pc = .ok (.getfield 41, 3)) (ht : t < n) (hC : rC t = 4) (hnl : nl t 15 = true) (kk : K ad n nl ce sl (pc + 3) lv (.ref (ad (t + 12)) :: st) σ) : K ad n nl ce sl pc lv (.ref (ad t) :: st) σ := r_getR (T := TX4) (N := 20) (k := 15) (co := 4) (Cn := RX4) h hd inG4 rfl (by decide) fl_X9_41 (by decide) ht hC (rNo_4 t hC) (by decide) hnl (t + 12) (rf_4_15 t hC).1 kk
set_option maxRecDepth 100000 in
theorem fl_X9_48 : Cond.fieldLink RX9 48 (TX9 6).1 (TX9 6).2.1 (TX9 6).2.2.1 ∈ GT := gt_in2 34 rfl rfl
theorem g_X9_48 (h : w_Cl l R D cs aS aV A cc nL RX9 nm K) (hd : decode cc pc = .ok (.getfield 48, 3)) (ht : t < n) (hC : rC t = 9) (kk : K ad n nl ce sl (pc + 3) lv (.int (vI (gi σ t 6)) :: st) σ) : K ad n nl ce sl pc lv (.ref (ad t) :: st) σ := r_getI (T := TX9) (N := 7) (k := 6) (co := 9) (Cn := RX9) h hd inG9 rfl (by decide) fl_X9_48 (by decide) ht hC (rNo_9 t hC) (by decide) kk
theorem p_X9_48 {x : Int} (h : w_Cl l R D cs aS aV A cc nL RX9 nm K) (hd : decode cc pc = .ok (.putfield 48, 3)) (ht : t < n) (hC : rC t = 9) (hx : rI x) (kk : K ad n nl ce sl (pc + 3) lv st (si σ t 6 x)) : K ad n nl ce sl pc lv (.int (vI x) :: .ref (ad t) :: st) σ := r_putI (T := TX9) (N := 7) (k := 6) (co := 9) (Cn := RX9) h hd inG9 tyX9 tyX9_ok nmX9 rfl (by decide) fl_X9_48 (by decide) ht hC (rNo_9 t hC) (by decide) rfl rfl hx kk
set_option maxRecDepth 100000 in
theorem fl_X9_51 : Cond.fieldLink RX9 51 (TX4 16).1 (TX4 16).2.1 (TX4 16).2.2.1 ∈ GT := gt_in1 113 rfl rfl
theorem g_X9_51 (h : w_Cl l R D cs aS aV A cc nL RX9 nm K) (hd : decode cc pc = .ok (.getfield 51, 3)) (ht : t < n) (hC : rC t = 4) (hnl : nl t 16 = true) (kk : K ad n nl ce sl (pc + 3) lv (.ref (ad (t + 13)) :: st) σ) : K ad n nl ce sl pc lv (.ref (ad t) :: st) σ := r_getR (T := TX4) (N := 20) (k := 16) (co := 4) (Cn := RX4) h hd inG4 rfl (by decide) fl_X9_51 (by decide) ht hC (rNo_4 t hC) (by decide) hnl (t + 13) (rf_4_16 t hC).1 kk
set_option maxRecDepth 100000 in
theorem fl_X9_56 : Cond.fieldLink RX9 56 (TX4 18).1 (TX4 18).2.1 (TX4 18).2.2.1 ∈ GT := gt_in1 120 rfl rfl
theorem g_X9_56 (h : w_Cl l R D cs aS aV A cc nL RX9 nm K) (hd : decode cc pc = .ok (.getfield 56, 3)) (ht : t < n) (hC : rC t = 4) (hnl : nl t 18 = true) (kk : K ad n nl ce sl (pc + 3) lv (.ref (ad (t + 14)) :: st) σ) : K ad n nl ce sl pc lv (.ref (ad t) :: st) σ := r_getR (T := TX4) (N := 20) (k := 18) (co := 4) (Cn := RX4) h hd inG4 rfl (by decide) fl_X9_56 (by decide) ht hC (rNo_4 t hC) (by decide) hnl (t + 14) (rf_4_18 t hC).1 kk
set_option maxRecDepth 100000 in
theorem fl_X9_66 : Cond.fieldLink RX9 66 (TX4 19).1 (TX4 19).2.1 (TX4 19).2.2.1 ∈ GT := gt_in1 125 rfl rfl
theorem g_X9_66 (h : w_Cl l R D cs aS aV A cc nL RX9 nm K) (hd : decode cc pc = .ok (.getfield 66, 3)) (ht : t < n) (hC : rC t = 4) (hnl : nl t 19 = true) (kk : K ad n nl ce sl (pc + 3) lv (.ref (ad (t + 17)) :: st) σ) : K ad n nl ce sl pc lv (.ref (ad t) :: st) σ := r_getR (T := TX4) (N := 20) (k := 19) (co := 4) (Cn := RX4) h hd inG4 rfl (by decide) fl_X9_66 (by decide) ht hC (rNo_4 t hC) (by decide) hnl (t + 17) (rf_4_19 t hC).1 kk
set_option maxRecDepth 100000 in
theorem fl_X9_85 : Cond.fieldLink RX9 85 (TX4 8).1 (TX4 8).2.1 (TX4 8).2.2.1 ∈ GT := gt_in1 90 rfl rfl
theorem g_X9_85 (h : w_Cl l R D cs aS aV A cc nL RX9 nm K) (hd : decode cc pc = .ok (.getfield 85, 3)) (ht : t < n) (hC : rC t = 4) (hnl : nl t 8 = true) (kk : K ad n nl ce sl (pc + 3) lv (.ref (ad (t + 7)) :: st) σ) : K ad n nl ce sl pc lv (.ref (ad t) :: st) σ := r_getR (T := TX4) (N := 20) (k := 8) (co := 4) (Cn := RX4) h hd inG4 rfl (by decide) fl_X9_85 (by decide) ht hC (rNo_4 t hC) (by decide) hnl (t + 7) (rf_4_8 t hC).1 kk
set_option maxRecDepth 100000 in
theorem fl_X9_88 : Cond.fieldLink RX9 88 (TX4 7).1 (TX4 7).2.1 (TX4 7).2.2.1 ∈ GT := gt_in1 85 rfl rfl
theorem g_X9_88 (h : w_Cl l R D cs aS aV A cc nL RX9 nm K) (hd : decode cc pc = .ok (.getfield 88, 3)) (ht : t < n) (hC : rC t = 4) (hnl : nl t 7 = true) (kk : K ad n nl ce sl (pc + 3) lv (.ref (ad (t + 6)) :: st) σ) : K ad n nl ce sl pc lv (.ref (ad t) :: st) σ := r_getR (T := TX4) (N := 20) (k := 7) (co := 4) (Cn := RX4) h hd inG4 rfl (by decide) fl_X9_88 (by decide) ht hC (rNo_4 t hC) (by decide) hnl (t + 6) (rf_4_7 t hC).1 kk
set_option maxRecDepth 100000 in
theorem fl_X9_91 : Cond.fieldLink RX9 91 (TX4 2).1 (TX4 2).2.1 (TX4 2).2.2.1 ∈ GT := gt_in1 65 rfl rfl
theorem g_X9_91 (h : w_Cl l R D cs aS aV A cc nL RX9 nm K) (hd : decode cc pc = .ok (.getfield 91, 3)) (ht : t < n) (hC : rC t = 4) (hnl : nl t 2 = true) (kk : K ad n nl ce sl (pc + 3) lv (.ref (ad (t + 2)) :: st) σ) : K ad n nl ce sl pc lv (.ref (ad t) :: st) σ := r_getR (T := TX4) (N := 20) (k := 2) (co := 4) (Cn := RX4) h hd inG4 rfl (by decide) fl_X9_91 (by decide) ht hC (rNo_4 t hC) (by decide) hnl (t + 2) (rf_4_2 t hC).1 kk
set_option maxRecDepth 100000 in
theorem fl_X9_97 : Cond.fieldLink RX9 97 (TX4 3).1 (TX4 3).2.1 (TX4 3).2.2.1 ∈ GT := gt_in1 68 rfl rfl
theorem g_X9_97 (h : w_Cl l R D cs aS aV A cc nL RX9 nm K) (hd : decode cc pc = .ok (.getfield 97, 3)) (ht : t < n) (hC : rC t = 4) (hnl : nl t 3 = true) (kk : K ad n nl ce sl (pc + 3) lv (.ref (ad (t + 3)) :: st) σ) : K ad n nl ce sl pc lv (.ref (ad t) :: st) σ := r_getR (T := TX4) (N := 20) (k := 3) (co := 4) (Cn := RX4) h hd inG4 rfl (by decide) fl_X9_97 (by decide) ht hC (rNo_4 t hC) (by decide) hnl (t + 3) (rf_4_3 t hC).1 kk
end LK
set_option maxRecDepth 100000 in
theorem ml_L_9 : Cond.methodLink RL 9 yX11_init ∈ GT := gt_in1 22 rfl rfl
set_option maxRecDepth 100000 in
theorem ml_L_12 : Cond.methodLink RL 12 yX12_init ∈ GT := gt_in6 77 rfl rfl
set_option maxRecDepth 100000 in
theorem ml_L_13 : Cond.methodLink RL 13 yX11_feed ∈ GT := gt_in3 66 rfl rfl
set_option maxRecDepth 100000 in
theorem ml_L_17 : Cond.methodLink RL 17 yX12_feed ∈ GT := gt_in9 96 rfl rfl
set_option maxRecDepth 100000 in
theorem ml_L_18 : Cond.methodLink RL 18 yX11_end ∈ GT := gt_in3 74 rfl rfl
set_option maxRecDepth 100000 in
theorem ml_L_22 : Cond.methodLink RL 22 yX12_end ∈ GT := gt_in9 100 rfl rfl
set_option maxRecDepth 100000 in
theorem ml_L_23 : Cond.methodLink RL 23 yX11_land ∈ GT := gt_in3 78 rfl rfl
set_option maxRecDepth 100000 in
theorem ml_L_27 : Cond.methodLink RL 27 yX12_land ∈ GT := gt_in7 106 rfl rfl
set_option maxRecDepth 100000 in
theorem ml_L_28 : Cond.methodLink RL 28 yX11_fault ∈ GT := gt_in4 68 rfl rfl
set_option maxRecDepth 100000 in
theorem ml_L_31 : Cond.methodLink RL 31 yX12_fault ∈ GT := gt_in8 19 rfl rfl
set_option maxRecDepth 100000 in
theorem ml_L_32 : Cond.methodLink RL 32 yX11_soul ∈ GT := gt_in4 72 rfl rfl
set_option maxRecDepth 100000 in
theorem ml_L_36 : Cond.methodLink RL 36 yX12_soul ∈ GT := gt_in8 74 rfl rfl
set_option maxRecDepth 100000 in
theorem ml_L_37 : Cond.methodLink RL 37 yX11_way ∈ GT := gt_in4 80 rfl rfl
set_option maxRecDepth 100000 in
theorem ml_L_40 : Cond.methodLink RL 40 yX12_way ∈ GT := gt_in8 78 rfl rfl
set_option maxRecDepth 100000 in
theorem ml_L_41 : Cond.methodLink RL 41 yX11_quarrel ∈ GT := gt_in4 88 rfl rfl
set_option maxRecDepth 100000 in
theorem ml_L_45 : Cond.methodLink RL 45 yX12_quarrel ∈ GT := gt_in8 23 rfl rfl
set_option maxRecDepth 100000 in
theorem ml_L_46 : Cond.methodLink RL 46 yX11_heat ∈ GT := gt_in4 130 rfl rfl
set_option maxRecDepth 100000 in
theorem ml_L_50 : Cond.methodLink RL 50 yX12_heat ∈ GT := gt_in8 70 rfl rfl
set_option maxRecDepth 100000 in
theorem ml_L_51 : Cond.methodLink RL 51 yX11_setOut ∈ GT := gt_in4 134 rfl rfl
set_option maxRecDepth 100000 in
theorem ml_L_54 : Cond.methodLink RL 54 yX12_setOut ∈ GT := gt_in8 98 rfl rfl
set_option maxRecDepth 100000 in
theorem ml_L_55 : Cond.methodLink RL 55 yX11_take ∈ GT := gt_in4 151 rfl rfl
set_option maxRecDepth 100000 in
theorem ml_L_58 : Cond.methodLink RL 58 yX12_take ∈ GT := gt_in8 110 rfl rfl
set_option maxRecDepth 100000 in
theorem ml_L_59 : Cond.methodLink RL 59 yX11_words ∈ GT := gt_in4 165 rfl rfl
set_option maxRecDepth 100000 in
theorem ml_L_62 : Cond.methodLink RL 62 yX12_words ∈ GT := gt_in8 122 rfl rfl
set_option maxRecDepth 100000 in
theorem ml_L_63 : Cond.methodLink RL 63 yX11_year ∈ GT := gt_in4 187 rfl rfl
set_option maxRecDepth 100000 in
theorem ml_L_66 : Cond.methodLink RL 66 yX12_year ∈ GT := gt_in8 126 rfl rfl
set_option maxRecDepth 100000 in
theorem ml_L_67 : Cond.methodLink RL 67 yX11_walk ∈ GT := gt_in4 196 rfl rfl
set_option maxRecDepth 100000 in
theorem ml_L_70 : Cond.methodLink RL 70 yX12_walk ∈ GT := gt_in8 130 rfl rfl
set_option maxRecDepth 100000 in
theorem ml_L_71 : Cond.methodLink RL 71 yX11_undo ∈ GT := gt_in4 204 rfl rfl
set_option maxRecDepth 100000 in
theorem ml_L_75 : Cond.methodLink RL 75 yX12_undo ∈ GT := gt_in8 134 rfl rfl
set_option maxRecDepth 100000 in
theorem ml_L_76 : Cond.methodLink RL 76 yX11_redo ∈ GT := gt_in4 220 rfl rfl
set_option maxRecDepth 100000 in
theorem ml_L_79 : Cond.methodLink RL 79 yX12_redo ∈ GT := gt_in8 142 rfl rfl
set_option maxRecDepth 100000 in
theorem ml_L_80 : Cond.methodLink RL 80 yX11_start ∈ GT := gt_in4 228 rfl rfl
set_option maxRecDepth 100000 in
theorem ml_L_83 : Cond.methodLink RL 83 yX12_start ∈ GT := gt_in8 150 rfl rfl
set_option maxRecDepth 100000 in
theorem ml_L_84 : Cond.methodLink RL 84 yX11_step ∈ GT := gt_in4 232 rfl rfl
set_option maxRecDepth 100000 in
theorem ml_L_87 : Cond.methodLink RL 87 yX12_step ∈ GT := gt_in8 154 rfl rfl
set_option maxRecDepth 100000 in
theorem ml_L_88 : Cond.methodLink RL 88 yX11_walked ∈ GT := gt_in5 1 rfl rfl
set_option maxRecDepth 100000 in
theorem ml_L_91 : Cond.methodLink RL 91 yX12_walked ∈ GT := gt_in8 162 rfl rfl
set_option maxRecDepth 100000 in
theorem ml_L_92 : Cond.methodLink RL 92 yX11_shortest ∈ GT := gt_in5 21 rfl rfl
set_option maxRecDepth 100000 in
theorem ml_L_95 : Cond.methodLink RL 95 yX12_shortest ∈ GT := gt_in8 170 rfl rfl
set_option maxRecDepth 100000 in
theorem ml_L_96 : Cond.methodLink RL 96 yX11_send ∈ GT := gt_in5 52 rfl rfl
set_option maxRecDepth 100000 in
theorem ml_L_99 : Cond.methodLink RL 99 yX12_send ∈ GT := gt_in8 183 rfl rfl
set_option maxRecDepth 100000 in
theorem ml_L_100 : Cond.methodLink RL 100 yX11_measure ∈ GT := gt_in5 75 rfl rfl
set_option maxRecDepth 100000 in
theorem ml_L_104 : Cond.methodLink RL 104 yX12_measure ∈ GT := gt_in8 208 rfl rfl
set_option maxRecDepth 100000 in
theorem ml_L_105 : Cond.methodLink RL 105 yX11_adds ∈ GT := gt_in5 89 rfl rfl
set_option maxRecDepth 100000 in
theorem ml_L_108 : Cond.methodLink RL 108 yX12_adds ∈ GT := gt_in8 220 rfl rfl
set_option maxRecDepth 100000 in
theorem ml_L_109 : Cond.methodLink RL 109 yX11_fair ∈ GT := gt_in5 99 rfl rfl
set_option maxRecDepth 100000 in
theorem ml_L_112 : Cond.methodLink RL 112 yX12_fair ∈ GT := gt_in8 224 rfl rfl
set_option maxRecDepth 100000 in
theorem ml_L_113 : Cond.methodLink RL 113 yX11_cover ∈ GT := gt_in5 107 rfl rfl
set_option maxRecDepth 100000 in
theorem ml_L_116 : Cond.methodLink RL 116 yX12_cover ∈ GT := gt_in8 232 rfl rfl
set_option maxRecDepth 100000 in
theorem ml_L_117 : Cond.methodLink RL 117 yX11_turned ∈ GT := gt_in5 136 rfl rfl
set_option maxRecDepth 100000 in
theorem ml_L_120 : Cond.methodLink RL 120 yX12_turned ∈ GT := gt_in9 8 rfl rfl
set_option maxRecDepth 100000 in
theorem ml_L_121 : Cond.methodLink RL 121 yX11_loud ∈ GT := gt_in5 150 rfl rfl
set_option maxRecDepth 100000 in
theorem ml_L_124 : Cond.methodLink RL 124 yX12_loud ∈ GT := gt_in9 12 rfl rfl
set_option maxRecDepth 100000 in
theorem ml_L_125 : Cond.methodLink RL 125 yX11_home ∈ GT := gt_in5 156 rfl rfl
set_option maxRecDepth 100000 in
theorem ml_L_129 : Cond.methodLink RL 129 yX12_home ∈ GT := gt_in9 16 rfl rfl
set_option maxRecDepth 100000 in
theorem ml_L_130 : Cond.methodLink RL 130 yX11_temper ∈ GT := gt_in5 180 rfl rfl
set_option maxRecDepth 100000 in
theorem ml_L_133 : Cond.methodLink RL 133 yX12_temper ∈ GT := gt_in9 28 rfl rfl
set_option maxRecDepth 100000 in
theorem ml_L_134 : Cond.methodLink RL 134 yX11_lies ∈ GT := gt_in5 218 rfl rfl
set_option maxRecDepth 100000 in
theorem ml_L_137 : Cond.methodLink RL 137 yX12_lies ∈ GT := gt_in8 146 rfl rfl
set_option maxRecDepth 100000 in
theorem ml_L_138 : Cond.methodLink RL 138 yX11_report ∈ GT := gt_in5 226 rfl rfl
set_option maxRecDepth 100000 in
theorem ml_L_141 : Cond.methodLink RL 141 yX12_report ∈ GT := gt_in9 43 rfl rfl
set_option maxRecDepth 100000 in
theorem ml_L_142 : Cond.methodLink RL 142 yX11_untell ∈ GT := gt_in6 5 rfl rfl
set_option maxRecDepth 100000 in
theorem ml_L_146 : Cond.methodLink RL 146 yX12_untell ∈ GT := gt_in9 51 rfl rfl
set_option maxRecDepth 100000 in
theorem ml_L_147 : Cond.methodLink RL 147 yX11_later ∈ GT := gt_in6 13 rfl rfl
set_option maxRecDepth 100000 in
theorem ml_L_150 : Cond.methodLink RL 150 yX12_later ∈ GT := gt_in9 55 rfl rfl
set_option maxRecDepth 100000 in
theorem ml_L_151 : Cond.methodLink RL 151 yX11_miles ∈ GT := gt_in6 22 rfl rfl
set_option maxRecDepth 100000 in
theorem ml_L_155 : Cond.methodLink RL 155 yX12_miles ∈ GT := gt_in9 60 rfl rfl
set_option maxRecDepth 100000 in
theorem ml_L_156 : Cond.methodLink RL 156 yX11_ask ∈ GT := gt_in6 30 rfl rfl
set_option maxRecDepth 100000 in
theorem ml_L_159 : Cond.methodLink RL 159 yX12_ask ∈ GT := gt_in9 71 rfl rfl
set_option maxRecDepth 100000 in
theorem ml_L_160 : Cond.methodLink RL 160 yX11_image ∈ GT := gt_in6 51 rfl rfl
set_option maxRecDepth 100000 in
theorem ml_L_163 : Cond.methodLink RL 163 yX12_image ∈ GT := gt_in9 80 rfl rfl
set_option maxRecDepth 100000 in
theorem ml_L_164 : Cond.methodLink RL 164 yX11_back ∈ GT := gt_in6 63 rfl rfl
set_option maxRecDepth 100000 in
theorem ml_L_167 : Cond.methodLink RL 167 yX12_back ∈ GT := gt_in9 88 rfl rfl
set_option maxRecDepth 100000 in
theorem ml_L_168 : Cond.methodLink RL 168 yX11_about ∈ GT := gt_in6 71 rfl rfl
set_option maxRecDepth 100000 in
theorem ml_L_171 : Cond.methodLink RL 171 yX12_about ∈ GT := gt_in9 92 rfl rfl
set_option maxRecDepth 100000 in
theorem ml_X0_3 : Cond.methodLink RX0 3 Lib.objectInit ∈ GT := gt_in2 17 rfl rfl
set_option maxRecDepth 100000 in
theorem ml_X0_31 : Cond.methodLink RX0 31 yX9_init ∈ GT := gt_in2 20 rfl rfl
set_option maxRecDepth 100000 in
theorem ml_X0_38 : Cond.methodLink RX0 38 yX0_beginAnew ∈ GT := gt_in2 52 rfl rfl
set_option maxRecDepth 100000 in
theorem ml_X0_67 : Cond.methodLink RX0 67 yX0_forgetActs ∈ GT := gt_in2 56 rfl rfl
set_option maxRecDepth 100000 in
theorem ml_X0_70 : Cond.methodLink RX0 70 yX9_begin ∈ GT := gt_in4 146 rfl rfl
set_option maxRecDepth 100000 in
theorem ml_X0_74 : Cond.methodLink RX0 74 yX0_keepAct ∈ GT := gt_in4 147 rfl rfl
set_option maxRecDepth 100000 in
theorem ml_X0_77 : Cond.methodLink RX0 77 yX9_isOver ∈ GT := gt_in4 159 rfl rfl
set_option maxRecDepth 100000 in
theorem ml_X0_81 : Cond.methodLink RX0 81 yX4_otherEnd ∈ GT := gt_in4 160 rfl rfl
set_option maxRecDepth 100000 in
theorem ml_X0_88 : Cond.methodLink RX0 88 yX4_isWay ∈ GT := gt_in4 173 rfl rfl
set_option maxRecDepth 100000 in
theorem ml_X0_92 : Cond.methodLink RX0 92 yX0_sayOne ∈ GT := gt_in4 174 rfl rfl
set_option maxRecDepth 100000 in
theorem ml_X0_95 : Cond.methodLink RX0 95 yX9_sayOnWay ∈ GT := gt_in4 178 rfl rfl
set_option maxRecDepth 100000 in
theorem ml_X0_119 : Cond.methodLink RX0 119 yX0_slot ∈ GT := gt_in2 60 rfl rfl
set_option maxRecDepth 100000 in
theorem ml_X0_123 : Cond.methodLink RX0 123 yX0_bring ∈ GT := gt_in4 212 rfl rfl
set_option maxRecDepth 100000 in
theorem ml_X0_127 : Cond.methodLink RX0 127 yX0_put ∈ GT := gt_in2 64 rfl rfl
set_option maxRecDepth 100000 in
theorem ml_X0_130 : Cond.methodLink RX0 130 yX0_wordsInAll ∈ GT := gt_in6 59 rfl rfl
set_option maxRecDepth 100000 in
theorem ml_X0_136 : Cond.methodLink RX0 136 yX9_put ∈ GT := gt_in2 68 rfl rfl
set_option maxRecDepth 100000 in
theorem ml_X0_137 : Cond.methodLink RX0 137 yX9_bring ∈ GT := gt_in4 216 rfl rfl
set_option maxRecDepth 100000 in
theorem ml_X1_3 : Cond.methodLink RX1 3 Lib.objectInit ∈ GT := gt_in2 176 rfl rfl
set_option maxRecDepth 100000 in
theorem ml_X1_11 : Cond.methodLink RX1 11 yX7_init ∈ GT := gt_in2 178 rfl rfl
set_option maxRecDepth 100000 in
theorem ml_X1_58 : Cond.methodLink RX1 58 yX8_init ∈ GT := gt_in2 180 rfl rfl
set_option maxRecDepth 100000 in
theorem ml_X1_69 : Cond.methodLink RX1 69 yX1_layNothing ∈ GT := gt_in5 29 rfl rfl
set_option maxRecDepth 100000 in
theorem ml_X1_72 : Cond.methodLink RX1 72 yX1_findPath ∈ GT := gt_in5 30 rfl rfl
set_option maxRecDepth 100000 in
theorem ml_X1_82 : Cond.methodLink RX1 82 yX1_lay ∈ GT := gt_in5 48 rfl rfl
set_option maxRecDepth 100000 in
theorem ml_X1_86 : Cond.methodLink RX1 86 yX4_isPlace ∈ GT := gt_in5 34 rfl rfl
set_option maxRecDepth 100000 in
theorem ml_X1_92 : Cond.methodLink RX1 92 yX1_lookHowFar ∈ GT := gt_in5 35 rfl rfl
set_option maxRecDepth 100000 in
theorem ml_X1_96 : Cond.methodLink RX1 96 yX7_reset ∈ GT := gt_in5 41 rfl rfl
set_option maxRecDepth 100000 in
theorem ml_X1_102 : Cond.methodLink RX1 102 yX1_firstWayNearer ∈ GT := gt_in5 42 rfl rfl
set_option maxRecDepth 100000 in
theorem ml_X1_106 : Cond.methodLink RX1 106 yX7_append ∈ GT := gt_in5 47 rfl rfl
set_option maxRecDepth 100000 in
theorem ml_X1_126 : Cond.methodLink RX1 126 yX4_otherEnd ∈ GT := gt_in5 46 rfl rfl
set_option maxRecDepth 100000 in
theorem ml_X1_129 : Cond.methodLink RX1 129 yX4_isCouple ∈ GT := gt_in5 60 rfl rfl
set_option maxRecDepth 100000 in
theorem ml_X1_132 : Cond.methodLink RX1 132 yX1_endsJustBehindPath ∈ GT := gt_in5 65 rfl rfl
set_option maxRecDepth 100000 in
theorem ml_X1_135 : Cond.methodLink RX1 135 yX8_begin ∈ GT := gt_in5 69 rfl rfl
set_option maxRecDepth 100000 in
theorem ml_X1_138 : Cond.methodLink RX1 138 yX8_goOn ∈ GT := gt_in5 70 rfl rfl
set_option maxRecDepth 100000 in
theorem ml_X1_142 : Cond.methodLink RX1 142 yX8_isAtEnd ∈ GT := gt_in5 71 rfl rfl
set_option maxRecDepth 100000 in
theorem ml_X1_146 : Cond.methodLink RX1 146 yX4_isWay ∈ GT := gt_in5 83 rfl rfl
set_option maxRecDepth 100000 in
theorem ml_X1_153 : Cond.methodLink RX1 153 yX9_begin ∈ GT := gt_in5 88 rfl rfl
set_option maxRecDepth 100000 in
theorem ml_X1_156 : Cond.methodLink RX1 156 yX1_setPath ∈ GT := gt_in5 97 rfl rfl
set_option maxRecDepth 100000 in
theorem ml_X1_160 : Cond.methodLink RX1 160 yX1_measurePath ∈ GT := gt_in5 98 rfl rfl
set_option maxRecDepth 100000 in
theorem ml_X1_166 : Cond.methodLink RX1 166 yX1_coverByOne ∈ GT := gt_in5 119 rfl rfl
set_option maxRecDepth 100000 in
theorem ml_X1_170 : Cond.methodLink RX1 170 yX1_coverByTwo ∈ GT := gt_in5 128 rfl rfl
set_option maxRecDepth 100000 in
theorem ml_X1_173 : Cond.methodLink RX1 173 yX1_coverByThree ∈ GT := gt_in5 132 rfl rfl
set_option maxRecDepth 100000 in
theorem ml_X1_176 : Cond.methodLink RX1 176 yX1_firstCovering ∈ GT := gt_in5 123 rfl rfl
set_option maxRecDepth 100000 in
theorem ml_X1_182 : Cond.methodLink RX1 182 yX1_openLength ∈ GT := gt_in5 144 rfl rfl
set_option maxRecDepth 100000 in
theorem ml_X1_185 : Cond.methodLink RX1 185 yX4_couple ∈ GT := gt_in5 149 rfl rfl
set_option maxRecDepth 100000 in
theorem ml_X1_189 : Cond.methodLink RX1 189 yX9_talkOpenly ∈ GT := gt_in5 148 rfl rfl
set_option maxRecDepth 100000 in
theorem ml_X1_202 : Cond.methodLink RX1 202 yX9_put ∈ GT := gt_in5 164 rfl rfl
set_option maxRecDepth 100000 in
theorem ml_X1_206 : Cond.methodLink RX1 206 yX1_searchHome ∈ GT := gt_in5 165 rfl rfl
set_option maxRecDepth 100000 in
theorem ml_X1_209 : Cond.methodLink RX1 209 yX1_goesOn ∈ GT := gt_in5 169 rfl rfl
set_option maxRecDepth 100000 in
theorem ml_X1_212 : Cond.methodLink RX1 212 yX9_bring ∈ GT := gt_in5 173 rfl rfl
set_option maxRecDepth 100000 in
theorem ml_X1_215 : Cond.methodLink RX1 215 yX9_isOver ∈ GT := gt_in5 174 rfl rfl
set_option maxRecDepth 100000 in
theorem ml_X1_218 : Cond.methodLink RX1 218 yX9_sayOnWay ∈ GT := gt_in5 175 rfl rfl
set_option maxRecDepth 100000 in
theorem ml_X1_222 : Cond.methodLink RX1 222 yX1_layRow ∈ GT := gt_in5 176 rfl rfl
set_option maxRecDepth 100000 in
theorem ml_X1_228 : Cond.methodLink RX1 228 yX1_setBounds ∈ GT := gt_in5 188 rfl rfl
set_option maxRecDepth 100000 in
theorem ml_X1_231 : Cond.methodLink RX1 231 yX1_layChanged ∈ GT := gt_in5 203 rfl rfl
set_option maxRecDepth 100000 in
theorem ml_X1_239 : Cond.methodLink RX1 239 yX2_asksFor ∈ GT := gt_in5 192 rfl rfl
set_option maxRecDepth 100000 in
theorem ml_X1_247 : Cond.methodLink RX1 247 yX1_temperNow ∈ GT := gt_in5 196 rfl rfl
set_option maxRecDepth 100000 in
theorem ml_X1_250 : Cond.methodLink RX1 250 yX1_temperAt ∈ GT := gt_in5 200 rfl rfl
set_option maxRecDepth 100000 in
theorem ml_X1_256 : Cond.methodLink RX1 256 yX1_tryTemper ∈ GT := gt_in5 210 rfl rfl
set_option maxRecDepth 100000 in
theorem ml_X1_260 : Cond.methodLink RX1 260 yX1_layIfLong ∈ GT := gt_in5 214 rfl rfl
set_option maxRecDepth 100000 in
theorem ml_X10_3 : Cond.methodLink RX10 3 Lib.objectInit ∈ GT := gt_in1 176 rfl rfl
set_option maxRecDepth 100000 in
theorem ml_X10_26 : Cond.methodLink RX10 26 yX10_move ∈ GT := gt_in3 101 rfl rfl
set_option maxRecDepth 100000 in
theorem ml_X10_29 : Cond.methodLink RX10 29 yX10_sign ∈ GT := gt_in3 105 rfl rfl
set_option maxRecDepth 100000 in
theorem ml_X10_33 : Cond.methodLink RX10 33 yX10_isBlank ∈ GT := gt_in3 109 rfl rfl
set_option maxRecDepth 100000 in
theorem ml_X10_43 : Cond.methodLink RX10 43 yX10_isLetter ∈ GT := gt_in3 112 rfl rfl
set_option maxRecDepth 100000 in
theorem ml_X10_46 : Cond.methodLink RX10 46 yX10_takeWord ∈ GT := gt_in3 115 rfl rfl
set_option maxRecDepth 100000 in
theorem ml_X10_49 : Cond.methodLink RX10 49 yX10_isDigit ∈ GT := gt_in3 169 rfl rfl
set_option maxRecDepth 100000 in
theorem ml_X10_52 : Cond.methodLink RX10 52 yX10_takeNumber ∈ GT := gt_in3 172 rfl rfl
set_option maxRecDepth 100000 in
theorem ml_X10_55 : Cond.methodLink RX10 55 yX10_isSign ∈ GT := gt_in3 176 rfl rfl
set_option maxRecDepth 100000 in
theorem ml_X11_3 : Cond.methodLink RX11 3 Lib.objectInit ∈ GT := gt_in1 25 rfl rfl
set_option maxRecDepth 100000 in
theorem ml_X11_31 : Cond.methodLink RX11 31 yX10_init ∈ GT := gt_in1 173 rfl rfl
set_option maxRecDepth 100000 in
theorem ml_X11_34 : Cond.methodLink RX11 34 yX5_init ∈ GT := gt_in1 205 rfl rfl
set_option maxRecDepth 100000 in
theorem ml_X11_43 : Cond.methodLink RX11 43 yX0_init ∈ GT := gt_in2 14 rfl rfl
set_option maxRecDepth 100000 in
theorem ml_X11_52 : Cond.methodLink RX11 52 yX7_init ∈ GT := gt_in2 121 rfl rfl
set_option maxRecDepth 100000 in
theorem ml_X11_59 : Cond.methodLink RX11 59 yX8_init ∈ GT := gt_in2 148 rfl rfl
set_option maxRecDepth 100000 in
theorem ml_X11_70 : Cond.methodLink RX11 70 yX1_init ∈ GT := gt_in2 173 rfl rfl
set_option maxRecDepth 100000 in
theorem ml_X11_79 : Cond.methodLink RX11 79 yX6_init ∈ GT := gt_in3 5 rfl rfl
set_option maxRecDepth 100000 in
theorem ml_X11_84 : Cond.methodLink RX11 84 yX11_tapeNumber ∈ GT := gt_in3 70 rfl rfl
set_option maxRecDepth 100000 in
theorem ml_X11_88 : Cond.methodLink RX11 88 yX5_readLand ∈ GT := gt_in3 82 rfl rfl
set_option maxRecDepth 100000 in
theorem ml_X11_92 : Cond.methodLink RX11 92 yX0_beginAnew ∈ GT := gt_in4 55 rfl rfl
set_option maxRecDepth 100000 in
theorem ml_X11_95 : Cond.methodLink RX11 95 yX7_reset ∈ GT := gt_in4 56 rfl rfl
set_option maxRecDepth 100000 in
theorem ml_X11_98 : Cond.methodLink RX11 98 yX1_layNothing ∈ GT := gt_in4 60 rfl rfl
set_option maxRecDepth 100000 in
theorem ml_X11_101 : Cond.methodLink RX11 101 yX6_forget ∈ GT := gt_in4 64 rfl rfl
set_option maxRecDepth 100000 in
theorem ml_X11_113 : Cond.methodLink RX11 113 yX4_isSoul ∈ GT := gt_in4 76 rfl rfl
set_option maxRecDepth 100000 in
theorem ml_X11_117 : Cond.methodLink RX11 117 yX4_isWay ∈ GT := gt_in4 84 rfl rfl
set_option maxRecDepth 100000 in
theorem ml_X11_129 : Cond.methodLink RX11 129 yX4_couple ∈ GT := gt_in4 92 rfl rfl
set_option maxRecDepth 100000 in
theorem ml_X11_137 : Cond.methodLink RX11 137 yX9_begin ∈ GT := gt_in4 101 rfl rfl
set_option maxRecDepth 100000 in
theorem ml_X11_142 : Cond.methodLink RX11 142 yX9_talkOpenly ∈ GT := gt_in4 107 rfl rfl
set_option maxRecDepth 100000 in
theorem ml_X11_149 : Cond.methodLink RX11 149 yX4_isPlace ∈ GT := gt_in4 138 rfl rfl
set_option maxRecDepth 100000 in
theorem ml_X11_152 : Cond.methodLink RX11 152 yX0_beginWalk ∈ GT := gt_in4 142 rfl rfl
set_option maxRecDepth 100000 in
theorem ml_X11_156 : Cond.methodLink RX11 156 yX0_takeWay ∈ GT := gt_in4 155 rfl rfl
set_option maxRecDepth 100000 in
theorem ml_X11_160 : Cond.methodLink RX11 160 yX0_sayWords ∈ GT := gt_in4 169 rfl rfl
set_option maxRecDepth 100000 in
theorem ml_X11_163 : Cond.methodLink RX11 163 yX0_passYear ∈ GT := gt_in4 191 rfl rfl
set_option maxRecDepth 100000 in
theorem ml_X11_167 : Cond.methodLink RX11 167 yX0_tellWalk ∈ GT := gt_in4 200 rfl rfl
set_option maxRecDepth 100000 in
theorem ml_X11_170 : Cond.methodLink RX11 170 yX0_takeBack ∈ GT := gt_in4 208 rfl rfl
set_option maxRecDepth 100000 in
theorem ml_X11_174 : Cond.methodLink RX11 174 yX0_doAgain ∈ GT := gt_in4 224 rfl rfl
set_option maxRecDepth 100000 in
theorem ml_X11_177 : Cond.methodLink RX11 177 yX7_append ∈ GT := gt_in4 236 rfl rfl
set_option maxRecDepth 100000 in
theorem ml_X11_186 : Cond.methodLink RX11 186 yX8_begin ∈ GT := gt_in5 5 rfl rfl
set_option maxRecDepth 100000 in
theorem ml_X11_187 : Cond.methodLink RX11 187 yX8_goOn ∈ GT := gt_in5 10 rfl rfl
set_option maxRecDepth 100000 in
theorem ml_X11_200 : Cond.methodLink RX11 200 yX1_layShortest ∈ GT := gt_in5 25 rfl rfl
set_option maxRecDepth 100000 in
theorem ml_X11_204 : Cond.methodLink RX11 204 yX1_laySent ∈ GT := gt_in5 56 rfl rfl
set_option maxRecDepth 100000 in
theorem ml_X11_207 : Cond.methodLink RX11 207 yX1_setPath ∈ GT := gt_in5 79 rfl rfl
set_option maxRecDepth 100000 in
theorem ml_X11_211 : Cond.methodLink RX11 211 yX1_measurePath ∈ GT := gt_in5 84 rfl rfl
set_option maxRecDepth 100000 in
theorem ml_X11_214 : Cond.methodLink RX11 214 yX1_countAdding ∈ GT := gt_in5 93 rfl rfl
set_option maxRecDepth 100000 in
theorem ml_X11_217 : Cond.methodLink RX11 217 yX1_countFair ∈ GT := gt_in5 103 rfl rfl
set_option maxRecDepth 100000 in
theorem ml_X11_220 : Cond.methodLink RX11 220 yX1_lookForEndings ∈ GT := gt_in5 111 rfl rfl
set_option maxRecDepth 100000 in
theorem ml_X11_223 : Cond.methodLink RX11 223 yX1_layCover ∈ GT := gt_in5 115 rfl rfl
set_option maxRecDepth 100000 in
theorem ml_X11_226 : Cond.methodLink RX11 226 yX1_countTurned ∈ GT := gt_in5 140 rfl rfl
set_option maxRecDepth 100000 in
theorem ml_X11_229 : Cond.methodLink RX11 229 yX9_isOver ∈ GT := gt_in5 154 rfl rfl
set_option maxRecDepth 100000 in
theorem ml_X11_232 : Cond.methodLink RX11 232 yX9_say ∈ GT := gt_in5 155 rfl rfl
set_option maxRecDepth 100000 in
theorem ml_X11_236 : Cond.methodLink RX11 236 yX1_layHome ∈ GT := gt_in5 160 rfl rfl
set_option maxRecDepth 100000 in
theorem ml_X11_240 : Cond.methodLink RX11 240 yX1_layTempers ∈ GT := gt_in5 184 rfl rfl
set_option maxRecDepth 100000 in
theorem ml_X11_243 : Cond.methodLink RX11 243 yX1_tellLying ∈ GT := gt_in5 222 rfl rfl
set_option maxRecDepth 100000 in
theorem ml_X11_246 : Cond.methodLink RX11 246 yX6_tell ∈ GT := gt_in5 230 rfl rfl
set_option maxRecDepth 100000 in
theorem ml_X11_249 : Cond.methodLink RX11 249 yX6_takeBack ∈ GT := gt_in6 9 rfl rfl
set_option maxRecDepth 100000 in
theorem ml_X11_251 : Cond.methodLink RX11 251 yX6_passTime ∈ GT := gt_in6 17 rfl rfl
set_option maxRecDepth 100000 in
theorem ml_X11_254 : Cond.methodLink RX11 254 yX6_roadsKnownAt ∈ GT := gt_in6 26 rfl rfl
set_option maxRecDepth 100000 in
theorem ml_X11_258 : Cond.methodLink RX11 258 yX6_findQuestion ∈ GT := gt_in6 34 rfl rfl
set_option maxRecDepth 100000 in
theorem ml_X11_261 : Cond.methodLink RX11 261 yX0_keep ∈ GT := gt_in6 55 rfl rfl
set_option maxRecDepth 100000 in
theorem ml_X11_264 : Cond.methodLink RX11 264 yX0_goBack ∈ GT := gt_in6 67 rfl rfl
set_option maxRecDepth 100000 in
theorem ml_X12_1 : Cond.methodLink RX12 1 Lib.objectInit ∈ GT := gt_in6 80 rfl rfl
set_option maxRecDepth 100000 in
theorem ml_X12_173 : Cond.methodLink RX12 173 yX12_clearBank ∈ GT := gt_in6 81 rfl rfl
set_option maxRecDepth 100000 in
theorem ml_X12_176 : Cond.methodLink RX12 176 yX12_startAnew ∈ GT := gt_in6 85 rfl rfl
set_option maxRecDepth 100000 in
theorem ml_X12_233 : Cond.methodLink RX12 233 yX12_sign ∈ GT := gt_in7 114 rfl rfl
set_option maxRecDepth 100000 in
theorem ml_X12_240 : Cond.methodLink RX12 240 yX12_isLetter ∈ GT := gt_in7 118 rfl rfl
set_option maxRecDepth 100000 in
theorem ml_X12_248 : Cond.methodLink RX12 248 yX12_isKept ∈ GT := gt_in7 121 rfl rfl
set_option maxRecDepth 100000 in
theorem ml_X12_252 : Cond.methodLink RX12 252 yX12_isDigit ∈ GT := gt_in7 145 rfl rfl
set_option maxRecDepth 100000 in
theorem ml_X12_258 : Cond.methodLink RX12 258 yX12_isSign ∈ GT := gt_in7 148 rfl rfl
set_option maxRecDepth 100000 in
theorem ml_X12_261 : Cond.methodLink RX12 261 yX12_fails ∈ GT := gt_in7 171 rfl rfl
set_option maxRecDepth 100000 in
theorem ml_X12_265 : Cond.methodLink RX12 265 yX12_isGood ∈ GT := gt_in7 151 rfl rfl
set_option maxRecDepth 100000 in
theorem ml_X12_269 : Cond.methodLink RX12 269 yX12_goOn ∈ GT := gt_in7 110 rfl rfl
set_option maxRecDepth 100000 in
theorem ml_X12_272 : Cond.methodLink RX12 272 yX12_misplaced ∈ GT := gt_in7 167 rfl rfl
set_option maxRecDepth 100000 in
theorem ml_X12_275 : Cond.methodLink RX12 275 yX12_isWord ∈ GT := gt_in7 163 rfl rfl
set_option maxRecDepth 100000 in
theorem ml_X12_278 : Cond.methodLink RX12 278 yX12_must ∈ GT := gt_in7 191 rfl rfl
set_option maxRecDepth 100000 in
theorem ml_X12_282 : Cond.methodLink RX12 282 yX12_numeral ∈ GT := gt_in7 195 rfl rfl
set_option maxRecDepth 100000 in
theorem ml_X12_298 : Cond.methodLink RX12 298 yX12_readLine ∈ GT := gt_in7 155 rfl rfl
set_option maxRecDepth 100000 in
theorem ml_X12_301 : Cond.methodLink RX12 301 yX12_isFull ∈ GT := gt_in7 159 rfl rfl
set_option maxRecDepth 100000 in
theorem ml_X12_304 : Cond.methodLink RX12 304 yX12_readPlace ∈ GT := gt_in7 175 rfl rfl
set_option maxRecDepth 100000 in
theorem ml_X12_307 : Cond.methodLink RX12 307 yX12_readWay ∈ GT := gt_in7 199 rfl rfl
set_option maxRecDepth 100000 in
theorem ml_X12_310 : Cond.methodLink RX12 310 yX12_readSoul ∈ GT := gt_in7 215 rfl rfl
set_option maxRecDepth 100000 in
theorem ml_X12_313 : Cond.methodLink RX12 313 yX12_readMatter ∈ GT := gt_in7 219 rfl rfl
set_option maxRecDepth 100000 in
theorem ml_X12_316 : Cond.methodLink RX12 316 yX12_readRule ∈ GT := gt_in7 223 rfl rfl
set_option maxRecDepth 100000 in
theorem ml_X12_320 : Cond.methodLink RX12 320 yX12_isSignHere ∈ GT := gt_in7 211 rfl rfl
set_option maxRecDepth 100000 in
theorem ml_X12_323 : Cond.methodLink RX12 323 yX12_here ∈ GT := gt_in7 179 rfl rfl
set_option maxRecDepth 100000 in
theorem ml_X12_327 : Cond.methodLink RX12 327 yX12_fresh ∈ GT := gt_in7 183 rfl rfl
set_option maxRecDepth 100000 in
theorem ml_X12_331 : Cond.methodLink RX12 331 yX12_after ∈ GT := gt_in7 187 rfl rfl
set_option maxRecDepth 100000 in
theorem ml_X12_335 : Cond.methodLink RX12 335 yX12_known ∈ GT := gt_in7 203 rfl rfl
set_option maxRecDepth 100000 in
theorem ml_X12_339 : Cond.methodLink RX12 339 yX12_signedNumber ∈ GT := gt_in7 207 rfl rfl
set_option maxRecDepth 100000 in
theorem ml_X12_345 : Cond.methodLink RX12 345 yX12_e ∈ GT := gt_in7 227 rfl rfl
set_option maxRecDepth 100000 in
theorem ml_X12_354 : Cond.methodLink RX12 354 yX12_pushE ∈ GT := gt_in7 231 rfl rfl
set_option maxRecDepth 100000 in
theorem ml_X12_357 : Cond.methodLink RX12 357 yX12_unit ∈ GT := gt_in7 235 rfl rfl
set_option maxRecDepth 100000 in
theorem ml_X12_360 : Cond.methodLink RX12 360 yX12_behindUnit ∈ GT := gt_in8 7 rfl rfl
set_option maxRecDepth 100000 in
theorem ml_X12_363 : Cond.methodLink RX12 363 yX12_wordHere ∈ GT := gt_in7 239 rfl rfl
set_option maxRecDepth 100000 in
theorem ml_X12_366 : Cond.methodLink RX12 366 yX12_emit ∈ GT := gt_in8 3 rfl rfl
set_option maxRecDepth 100000 in
theorem ml_X12_369 : Cond.methodLink RX12 369 yX12_rankHere ∈ GT := gt_in8 11 rfl rfl
set_option maxRecDepth 100000 in
theorem ml_X12_372 : Cond.methodLink RX12 372 yX12_isCompared ∈ GT := gt_in8 15 rfl rfl
set_option maxRecDepth 100000 in
theorem ml_X12_393 : Cond.methodLink RX12 393 yX12_asked ∈ GT := gt_in8 54 rfl rfl
set_option maxRecDepth 100000 in
theorem ml_X12_396 : Cond.methodLink RX12 396 yX12_two ∈ GT := gt_in8 58 rfl rfl
set_option maxRecDepth 100000 in
theorem ml_X12_400 : Cond.methodLink RX12 400 yX12_isIn ∈ GT := gt_in8 31 rfl rfl
set_option maxRecDepth 100000 in
theorem ml_X12_404 : Cond.methodLink RX12 404 yX12_soulMany ∈ GT := gt_in6 89 rfl rfl
set_option maxRecDepth 100000 in
theorem ml_X12_411 : Cond.methodLink RX12 411 yX12_temperOf ∈ GT := gt_in8 46 rfl rfl
set_option maxRecDepth 100000 in
theorem ml_X12_414 : Cond.methodLink RX12 414 yX12_comes ∈ GT := gt_in8 50 rfl rfl
set_option maxRecDepth 100000 in
theorem ml_X12_417 : Cond.methodLink RX12 417 yX12_warm ∈ GT := gt_in8 61 rfl rfl
set_option maxRecDepth 100000 in
theorem ml_X12_420 : Cond.methodLink RX12 420 yX12_push ∈ GT := gt_in8 64 rfl rfl
set_option maxRecDepth 100000 in
theorem ml_X12_424 : Cond.methodLink RX12 424 yX12_begin ∈ GT := gt_in8 38 rfl rfl
set_option maxRecDepth 100000 in
theorem ml_X12_428 : Cond.methodLink RX12 428 yX12_say ∈ GT := gt_in8 42 rfl rfl
set_option maxRecDepth 100000 in
theorem ml_X12_432 : Cond.methodLink RX12 432 yX12_isEnded ∈ GT := gt_in8 67 rfl rfl
set_option maxRecDepth 100000 in
theorem ml_X12_436 : Cond.methodLink RX12 436 yX12_isCouple ∈ GT := gt_in8 27 rfl rfl
set_option maxRecDepth 100000 in
theorem ml_X12_439 : Cond.methodLink RX12 439 yX12_openLength ∈ GT := gt_in8 34 rfl rfl
set_option maxRecDepth 100000 in
theorem ml_X12_442 : Cond.methodLink RX12 442 yX12_isWay ∈ GT := gt_in8 82 rfl rfl
set_option maxRecDepth 100000 in
theorem ml_X12_445 : Cond.methodLink RX12 445 yX12_fromOf ∈ GT := gt_in8 86 rfl rfl
set_option maxRecDepth 100000 in
theorem ml_X12_448 : Cond.methodLink RX12 448 yX12_toOf ∈ GT := gt_in8 90 rfl rfl
set_option maxRecDepth 100000 in
theorem ml_X12_451 : Cond.methodLink RX12 451 yX12_milesOf ∈ GT := gt_in8 94 rfl rfl
set_option maxRecDepth 100000 in
theorem ml_X12_469 : Cond.methodLink RX12 469 yX12_isPlace ∈ GT := gt_in8 102 rfl rfl
set_option maxRecDepth 100000 in
theorem ml_X12_472 : Cond.methodLink RX12 472 yX12_keepAct ∈ GT := gt_in8 106 rfl rfl
set_option maxRecDepth 100000 in
theorem ml_X12_475 : Cond.methodLink RX12 475 yX12_doWalk ∈ GT := gt_in8 114 rfl rfl
set_option maxRecDepth 100000 in
theorem ml_X12_478 : Cond.methodLink RX12 478 yX12_otherEnd ∈ GT := gt_in8 118 rfl rfl
set_option maxRecDepth 100000 in
theorem ml_X12_481 : Cond.methodLink RX12 481 yX12_exchange ∈ GT := gt_in8 138 rfl rfl
set_option maxRecDepth 100000 in
theorem ml_X12_484 : Cond.methodLink RX12 484 yX12_routeEnd ∈ GT := gt_in8 158 rfl rfl
set_option maxRecDepth 100000 in
theorem ml_X12_493 : Cond.methodLink RX12 493 yX12_along ∈ GT := gt_in8 166 rfl rfl
set_option maxRecDepth 100000 in
theorem ml_X12_497 : Cond.methodLink RX12 497 yX12_layFar ∈ GT := gt_in8 178 rfl rfl
set_option maxRecDepth 100000 in
theorem ml_X12_503 : Cond.methodLink RX12 503 yX12_layShortest ∈ GT := gt_in8 174 rfl rfl
set_option maxRecDepth 100000 in
theorem ml_X12_506 : Cond.methodLink RX12 506 yX12_firstOf ∈ GT := gt_in8 195 rfl rfl
set_option maxRecDepth 100000 in
theorem ml_X12_509 : Cond.methodLink RX12 509 yX12_otherOf ∈ GT := gt_in8 198 rfl rfl
set_option maxRecDepth 100000 in
theorem ml_X12_512 : Cond.methodLink RX12 512 yX12_matterOf ∈ GT := gt_in8 201 rfl rfl
set_option maxRecDepth 100000 in
theorem ml_X12_515 : Cond.methodLink RX12 515 yX12_coupleMany ∈ GT := gt_in8 187 rfl rfl
set_option maxRecDepth 100000 in
theorem ml_X12_518 : Cond.methodLink RX12 518 yX12_canBe ∈ GT := gt_in8 191 rfl rfl
set_option maxRecDepth 100000 in
theorem ml_X12_521 : Cond.methodLink RX12 521 yX12_beginBy ∈ GT := gt_in8 204 rfl rfl
set_option maxRecDepth 100000 in
theorem ml_X12_527 : Cond.methodLink RX12 527 yX12_measured ∈ GT := gt_in8 216 rfl rfl
set_option maxRecDepth 100000 in
theorem ml_X12_531 : Cond.methodLink RX12 531 yX12_measureBy ∈ GT := gt_in8 212 rfl rfl
set_option maxRecDepth 100000 in
theorem ml_X12_535 : Cond.methodLink RX12 535 yX12_isFair ∈ GT := gt_in8 228 rfl rfl
set_option maxRecDepth 100000 in
theorem ml_X12_538 : Cond.methodLink RX12 538 yX12_layJust ∈ GT := gt_in8 236 rfl rfl
set_option maxRecDepth 100000 in
theorem ml_X12_541 : Cond.methodLink RX12 541 yX12_layCouple ∈ GT := gt_in9 0 rfl rfl
set_option maxRecDepth 100000 in
theorem ml_X12_544 : Cond.methodLink RX12 544 yX12_coverByThree ∈ GT := gt_in9 4 rfl rfl
set_option maxRecDepth 100000 in
theorem ml_X12_547 : Cond.methodLink RX12 547 yX12_doesLead ∈ GT := gt_in9 20 rfl rfl
set_option maxRecDepth 100000 in
theorem ml_X12_551 : Cond.methodLink RX12 551 yX12_endsJust ∈ GT := gt_in9 24 rfl rfl
set_option maxRecDepth 100000 in
theorem ml_X12_554 : Cond.methodLink RX12 554 yX12_apart ∈ GT := gt_in9 36 rfl rfl
set_option maxRecDepth 100000 in
theorem ml_X12_557 : Cond.methodLink RX12 557 yX12_layTempers ∈ GT := gt_in9 39 rfl rfl
set_option maxRecDepth 100000 in
theorem ml_X12_561 : Cond.methodLink RX12 561 yX12_changes ∈ GT := gt_in9 32 rfl rfl
set_option maxRecDepth 100000 in
theorem ml_X12_565 : Cond.methodLink RX12 565 yX12_toldLength ∈ GT := gt_in9 47 rfl rfl
set_option maxRecDepth 100000 in
theorem ml_X12_572 : Cond.methodLink RX12 572 yX12_reported ∈ GT := gt_in9 68 rfl rfl
set_option maxRecDepth 100000 in
theorem ml_X12_575 : Cond.methodLink RX12 575 yX12_isSo ∈ GT := gt_in9 64 rfl rfl
set_option maxRecDepth 100000 in
theorem ml_X12_579 : Cond.methodLink RX12 579 yX12_miles ∈ GT := gt_in9 75 rfl rfl
set_option maxRecDepth 100000 in
theorem ml_X12_582 : Cond.methodLink RX12 582 yX12_mostLeft ∈ GT := gt_in9 76 rfl rfl
set_option maxRecDepth 100000 in
theorem ml_X12_586 : Cond.methodLink RX12 586 yX12_wordsInAll ∈ GT := gt_in9 84 rfl rfl
set_option maxRecDepth 100000 in
theorem ml_X2_3 : Cond.methodLink RX2 3 Lib.objectInit ∈ GT := gt_in1 39 rfl rfl
set_option maxRecDepth 100000 in
theorem ml_X2_25 : Cond.methodLink RX2 25 yX2_add ∈ GT := gt_in4 19 rfl rfl
set_option maxRecDepth 100000 in
theorem ml_X2_29 : Cond.methodLink RX2 29 yX2_join ∈ GT := gt_in4 124 rfl rfl
set_option maxRecDepth 100000 in
theorem ml_X3_3 : Cond.methodLink RX3 3 Lib.objectInit ∈ GT := gt_in1 214 rfl rfl
set_option maxRecDepth 100000 in
theorem ml_X3_19 : Cond.methodLink RX3 19 yX2_clear ∈ GT := gt_in4 3 rfl rfl
set_option maxRecDepth 100000 in
theorem ml_X3_39 : Cond.methodLink RX3 39 yX3_settle ∈ GT := gt_in4 4 rfl rfl
set_option maxRecDepth 100000 in
theorem ml_X3_43 : Cond.methodLink RX3 43 yX3_readBehindUnit ∈ GT := gt_in4 23 rfl rfl
set_option maxRecDepth 100000 in
theorem ml_X3_47 : Cond.methodLink RX3 47 yX3_readUnit ∈ GT := gt_in4 31 rfl rfl
set_option maxRecDepth 100000 in
theorem ml_X3_51 : Cond.methodLink RX3 51 yX10_move ∈ GT := gt_in4 50 rfl rfl
set_option maxRecDepth 100000 in
theorem ml_X3_54 : Cond.methodLink RX3 54 yX3_nest ∈ GT := gt_in4 35 rfl rfl
set_option maxRecDepth 100000 in
theorem ml_X3_61 : Cond.methodLink RX3 61 yX3_knownBy ∈ GT := gt_in4 39 rfl rfl
set_option maxRecDepth 100000 in
theorem ml_X3_68 : Cond.methodLink RX3 68 yX2_addNumber ∈ GT := gt_in4 42 rfl rfl
set_option maxRecDepth 100000 in
theorem ml_X3_72 : Cond.methodLink RX3 72 yX2_addKnown ∈ GT := gt_in4 46 rfl rfl
set_option maxRecDepth 100000 in
theorem ml_X3_75 : Cond.methodLink RX3 75 yX3_bindingOf ∈ GT := gt_in4 12 rfl rfl
set_option maxRecDepth 100000 in
theorem ml_X3_78 : Cond.methodLink RX3 78 yX3_bindingOnTop ∈ GT := gt_in4 8 rfl rfl
set_option maxRecDepth 100000 in
theorem ml_X3_82 : Cond.methodLink RX3 82 yX3_await ∈ GT := gt_in4 27 rfl rfl
set_option maxRecDepth 100000 in
theorem ml_X3_85 : Cond.methodLink RX3 85 yX2_addOperator ∈ GT := gt_in4 15 rfl rfl
set_option maxRecDepth 100000 in
theorem ml_X4_3 : Cond.methodLink RX4 3 Lib.objectInit ∈ GT := gt_in1 33 rfl rfl
set_option maxRecDepth 100000 in
theorem ml_X4_78 : Cond.methodLink RX4 78 yX2_clear ∈ GT := gt_in3 90 rfl rfl
set_option maxRecDepth 100000 in
theorem ml_X4_81 : Cond.methodLink RX4 81 yX4_isSoul ∈ GT := gt_in4 96 rfl rfl
set_option maxRecDepth 100000 in
theorem ml_X4_85 : Cond.methodLink RX4 85 yX4_isMatter ∈ GT := gt_in4 97 rfl rfl
set_option maxRecDepth 100000 in
theorem ml_X4_88 : Cond.methodLink RX4 88 yX4_couple ∈ GT := gt_in5 64 rfl rfl
set_option maxRecDepth 100000 in
theorem ml_X4_92 : Cond.methodLink RX4 92 yX4_isWay ∈ GT := gt_in4 164 rfl rfl
set_option maxRecDepth 100000 in
theorem ml_X5_3 : Cond.methodLink RX5 3 Lib.objectInit ∈ GT := gt_in1 208 rfl rfl
set_option maxRecDepth 100000 in
theorem ml_X5_17 : Cond.methodLink RX5 17 yX3_init ∈ GT := gt_in1 211 rfl rfl
set_option maxRecDepth 100000 in
theorem ml_X5_31 : Cond.methodLink RX5 31 yX4_clear ∈ GT := gt_in3 86 rfl rfl
set_option maxRecDepth 100000 in
theorem ml_X5_40 : Cond.methodLink RX5 40 yX10_open ∈ GT := gt_in3 94 rfl rfl
set_option maxRecDepth 100000 in
theorem ml_X5_49 : Cond.methodLink RX5 49 yX5_readPlace ∈ GT := gt_in3 179 rfl rfl
set_option maxRecDepth 100000 in
theorem ml_X5_53 : Cond.methodLink RX5 53 yX5_readWay ∈ GT := gt_in3 211 rfl rfl
set_option maxRecDepth 100000 in
theorem ml_X5_56 : Cond.methodLink RX5 56 yX5_readSoul ∈ GT := gt_in3 223 rfl rfl
set_option maxRecDepth 100000 in
theorem ml_X5_59 : Cond.methodLink RX5 59 yX5_readMatter ∈ GT := gt_in3 227 rfl rfl
set_option maxRecDepth 100000 in
theorem ml_X5_66 : Cond.methodLink RX5 66 yX5_readRule ∈ GT := gt_in3 231 rfl rfl
set_option maxRecDepth 100000 in
theorem ml_X5_73 : Cond.methodLink RX5 73 yX5_readDraw ∈ GT := gt_in4 51 rfl rfl
set_option maxRecDepth 100000 in
theorem ml_X5_76 : Cond.methodLink RX5 76 yX5_refuse ∈ GT := gt_in3 183 rfl rfl
set_option maxRecDepth 100000 in
theorem ml_X5_80 : Cond.methodLink RX5 80 yX5_expect ∈ GT := gt_in3 203 rfl rfl
set_option maxRecDepth 100000 in
theorem ml_X5_87 : Cond.methodLink RX5 87 yX10_move ∈ GT := gt_in3 191 rfl rfl
set_option maxRecDepth 100000 in
theorem ml_X5_94 : Cond.methodLink RX5 94 yX5_readNewName ∈ GT := gt_in3 192 rfl rfl
set_option maxRecDepth 100000 in
theorem ml_X5_105 : Cond.methodLink RX5 105 yX5_readNumberBehind ∈ GT := gt_in3 199 rfl rfl
set_option maxRecDepth 100000 in
theorem ml_X5_115 : Cond.methodLink RX5 115 yX5_readPlaceName ∈ GT := gt_in3 215 rfl rfl
set_option maxRecDepth 100000 in
theorem ml_X5_125 : Cond.methodLink RX5 125 yX5_readNumber ∈ GT := gt_in3 207 rfl rfl
set_option maxRecDepth 100000 in
theorem ml_X5_135 : Cond.methodLink RX5 135 yX5_readSight ∈ GT := gt_in3 219 rfl rfl
set_option maxRecDepth 100000 in
theorem ml_X5_144 : Cond.methodLink RX5 144 yX5_fail ∈ GT := gt_in3 187 rfl rfl
set_option maxRecDepth 100000 in
theorem ml_X5_171 : Cond.methodLink RX5 171 yX2_isTold ∈ GT := gt_in3 235 rfl rfl
set_option maxRecDepth 100000 in
theorem ml_X5_176 : Cond.methodLink RX5 176 yX3_readFormula ∈ GT := gt_in3 239 rfl rfl
set_option maxRecDepth 100000 in
theorem ml_X5_186 : Cond.methodLink RX5 186 yX5_indexOf ∈ GT := gt_in3 196 rfl rfl
set_option maxRecDepth 100000 in
theorem ml_X6_3 : Cond.methodLink RX6 3 Lib.objectInit ∈ GT := gt_in3 8 rfl rfl
set_option maxRecDepth 100000 in
theorem ml_X6_28 : Cond.methodLink RX6 28 yX9_init ∈ GT := gt_in3 10 rfl rfl
set_option maxRecDepth 100000 in
theorem ml_X6_42 : Cond.methodLink RX6 42 yX6_toldLength ∈ GT := gt_in5 234 rfl rfl
set_option maxRecDepth 100000 in
theorem ml_X6_46 : Cond.methodLink RX6 46 yX6_roadsBy ∈ GT := gt_in6 0 rfl rfl
set_option maxRecDepth 100000 in
theorem ml_X6_53 : Cond.methodLink RX6 53 yX6_roadsKnownAt ∈ GT := gt_in6 38 rfl rfl
set_option maxRecDepth 100000 in
theorem ml_X6_57 : Cond.methodLink RX6 57 yX4_isCouple ∈ GT := gt_in6 39 rfl rfl
set_option maxRecDepth 100000 in
theorem ml_X6_63 : Cond.methodLink RX6 63 yX6_mostLeft ∈ GT := gt_in6 40 rfl rfl
set_option maxRecDepth 100000 in
theorem ml_X6_67 : Cond.methodLink RX6 67 yJ13_bitCount_95d88 ∈ GT := gt_in6 44 rfl rfl
set_option maxRecDepth 100000 in
theorem ml_X6_79 : Cond.methodLink RX6 79 yX9_begin ∈ GT := gt_in5 238 rfl rfl
set_option maxRecDepth 100000 in
theorem ml_X6_86 : Cond.methodLink RX6 86 yX9_talkOpenly ∈ GT := gt_in5 239 rfl rfl
set_option maxRecDepth 100000 in
theorem ml_X7_3 : Cond.methodLink RX7 3 Lib.objectInit ∈ GT := gt_in2 124 rfl rfl
set_option maxRecDepth 100000 in
theorem ml_X7_25 : Cond.methodLink RX7 25 yX4_otherEnd ∈ GT := gt_in5 0 rfl rfl
set_option maxRecDepth 100000 in
theorem ml_X8_3 : Cond.methodLink RX8 3 Lib.objectInit ∈ GT := gt_in2 151 rfl rfl
set_option maxRecDepth 100000 in
theorem ml_X8_17 : Cond.methodLink RX8 17 yX9_init ∈ GT := gt_in2 153 rfl rfl
set_option maxRecDepth 100000 in
theorem ml_X8_24 : Cond.methodLink RX8 24 yX9_begin ∈ GT := gt_in5 9 rfl rfl
set_option maxRecDepth 100000 in
theorem ml_X8_44 : Cond.methodLink RX8 44 yX8_lengthOf ∈ GT := gt_in5 14 rfl rfl
set_option maxRecDepth 100000 in
theorem ml_X8_51 : Cond.methodLink RX8 51 yX9_sayOnWay ∈ GT := gt_in5 19 rfl rfl
set_option maxRecDepth 100000 in
theorem ml_X8_55 : Cond.methodLink RX8 55 yX9_isOver ∈ GT := gt_in5 20 rfl rfl
set_option maxRecDepth 100000 in
theorem ml_X8_59 : Cond.methodLink RX8 59 yX4_isWay ∈ GT := gt_in5 18 rfl rfl
set_option maxRecDepth 100000 in
theorem ml_X9_3 : Cond.methodLink RX9 3 Lib.objectInit ∈ GT := gt_in2 23 rfl rfl
set_option maxRecDepth 100000 in
theorem ml_X9_22 : Cond.methodLink RX9 22 yX4_isMatter ∈ GT := gt_in4 105 rfl rfl
set_option maxRecDepth 100000 in
theorem ml_X9_53 : Cond.methodLink RX9 53 yX4_isSoul ∈ GT := gt_in4 119 rfl rfl
set_option maxRecDepth 100000 in
theorem ml_X9_60 : Cond.methodLink RX9 60 yX2_answer ∈ GT := gt_in4 120 rfl rfl
set_option maxRecDepth 100000 in
theorem ml_X9_75 : Cond.methodLink RX9 75 yX9_say ∈ GT := gt_in4 115 rfl rfl
set_option maxRecDepth 100000 in
theorem ml_X9_79 : Cond.methodLink RX9 79 yX4_isWay ∈ GT := gt_in4 182 rfl rfl
set_option maxRecDepth 100000 in
theorem ml_X9_82 : Cond.methodLink RX9 82 yX4_isPlace ∈ GT := gt_in4 183 rfl rfl
set_option maxRecDepth 100000 in
theorem ml_X9_100 : Cond.methodLink RX9 100 yX9_isOver ∈ GT := gt_in4 111 rfl rfl
set_option maxRecDepth 100000 in
theorem oi_i : Cond.instanceMethod Lib.objectInit ∈ GT := gt_in1 26 rfl rfl
set_option maxRecDepth 100000 in
theorem oi_c : Cond.code Lib.objectInit ⟨#[0xb1]⟩ 1 none ∈ GT := gt_in1 27 rfl rfl
set_option maxRecDepth 100000 in
theorem cv_Lo_bitCount_95d88 : w_CS yJ13_bitCount_95d88 cJ13_bitCount_95d88 2 1 1 := ⟨⟨gt_in6 46 rfl rfl, gt_in1 19 rfl rfl, ⟨by decide +kernel, by decide +kernel⟩, by decide +kernel⟩, gt_in6 45 rfl rfl⟩
set_option maxRecDepth 100000 in
theorem cv_Ea_beginAnew : w_CV yX0_beginAnew cX0_beginAnew 2 0 0 := ⟨⟨gt_in2 55 rfl rfl, gt_in1 7 rfl rfl, ⟨by decide +kernel, by decide +kernel⟩, by decide +kernel⟩, gt_in2 53 rfl rfl, gt_in2 54 rfl rfl⟩
set_option maxRecDepth 100000 in
theorem cv_Ea_beginWalk : w_CV yX0_beginWalk cX0_beginWalk 3 0 2 := ⟨⟨gt_in4 145 rfl rfl, gt_in1 7 rfl rfl, ⟨by decide +kernel, by decide +kernel⟩, by decide +kernel⟩, gt_in4 143 rfl rfl, gt_in4 144 rfl rfl⟩
set_option maxRecDepth 100000 in
theorem cv_Ea_bring : w_CV yX0_bring cX0_bring 4 0 2 := ⟨⟨gt_in4 215 rfl rfl, gt_in1 7 rfl rfl, ⟨by decide +kernel, by decide +kernel⟩, by decide +kernel⟩, gt_in4 214 rfl rfl, gt_sel 30 (by decide +kernel) rfl⟩
set_option maxRecDepth 100000 in
theorem cv_Ea_doAgain : w_CV yX0_doAgain cX0_doAgain 1 2 0 := ⟨⟨gt_in4 227 rfl rfl, gt_in1 7 rfl rfl, ⟨by decide +kernel, by decide +kernel⟩, by decide +kernel⟩, gt_in4 225 rfl rfl, gt_in4 226 rfl rfl⟩
set_option maxRecDepth 100000 in
theorem cv_Ea_forgetActs : w_CV yX0_forgetActs cX0_forgetActs 1 0 0 := ⟨⟨gt_in2 59 rfl rfl, gt_in1 7 rfl rfl, ⟨by decide +kernel, by decide +kernel⟩, by decide +kernel⟩, gt_in2 58 rfl rfl, gt_sel 0 (by decide +kernel) rfl⟩
set_option maxRecDepth 100000 in
theorem cv_Ea_goBack : w_CV yX0_goBack cX0_goBack 2 1 1 := ⟨⟨gt_in6 70 rfl rfl, gt_in1 7 rfl rfl, ⟨by decide +kernel, by decide +kernel⟩, by decide +kernel⟩, gt_in6 68 rfl rfl, gt_in6 69 rfl rfl⟩
set_option maxRecDepth 100000 in
theorem cv_Ea_init : w_CI yX0_init cX0_init 2 1 := ⟨⟨gt_in2 16 rfl rfl, gt_in1 7 rfl rfl, ⟨by decide +kernel, by decide +kernel⟩, by decide +kernel⟩, gt_in2 15 rfl rfl, rfl⟩
set_option maxRecDepth 100000 in
theorem cv_Ea_keep : w_CV yX0_keep cX0_keep 2 1 1 := ⟨⟨gt_in6 58 rfl rfl, gt_in1 7 rfl rfl, ⟨by decide +kernel, by decide +kernel⟩, by decide +kernel⟩, gt_in6 56 rfl rfl, gt_in6 57 rfl rfl⟩
set_option maxRecDepth 100000 in
theorem cv_Ea_keepAct : w_CV yX0_keepAct cX0_keepAct 1 0 0 := ⟨⟨gt_in4 150 rfl rfl, gt_in1 7 rfl rfl, ⟨by decide +kernel, by decide +kernel⟩, by decide +kernel⟩, gt_in4 149 rfl rfl, gt_sel 28 (by decide +kernel) rfl⟩
set_option maxRecDepth 100000 in
theorem cv_Ea_passYear : w_CV yX0_passYear cX0_passYear 3 1 0 := ⟨⟨gt_in4 194 rfl rfl, gt_in1 7 rfl rfl, ⟨by decide +kernel, by decide +kernel⟩, by decide +kernel⟩, gt_in4 192 rfl rfl, gt_in4 193 rfl rfl⟩
set_option maxRecDepth 100000 in
theorem cv_Ea_put : w_CV yX0_put cX0_put 4 0 2 := ⟨⟨gt_in2 67 rfl rfl, gt_in1 7 rfl rfl, ⟨by decide +kernel, by decide +kernel⟩, by decide +kernel⟩, gt_in2 66 rfl rfl, gt_sel 2 (by decide +kernel) rfl⟩
set_option maxRecDepth 100000 in
theorem cv_Ea_sayOne : w_CV yX0_sayOne cX0_sayOne 2 0 0 := ⟨⟨gt_in4 177 rfl rfl, gt_in1 7 rfl rfl, ⟨by decide +kernel, by decide +kernel⟩, by decide +kernel⟩, gt_in4 176 rfl rfl, gt_sel 29 (by decide +kernel) rfl⟩
set_option maxRecDepth 100000 in
theorem cv_Ea_sayWords : w_CV yX0_sayWords cX0_sayWords 3 1 1 := ⟨⟨gt_in4 172 rfl rfl, gt_in1 7 rfl rfl, ⟨by decide +kernel, by decide +kernel⟩, by decide +kernel⟩, gt_in4 170 rfl rfl, gt_in4 171 rfl rfl⟩
set_option maxRecDepth 100000 in
theorem cv_Ea_slot : w_CV yX0_slot cX0_slot 1 1 0 := ⟨⟨gt_in2 63 rfl rfl, gt_in1 7 rfl rfl, ⟨by decide +kernel, by decide +kernel⟩, by decide +kernel⟩, gt_in2 62 rfl rfl, gt_sel 1 (by decide +kernel) rfl⟩
set_option maxRecDepth 100000 in
theorem cv_Ea_takeBack : w_CV yX0_takeBack cX0_takeBack 1 2 0 := ⟨⟨gt_in4 211 rfl rfl, gt_in1 7 rfl rfl, ⟨by decide +kernel, by decide +kernel⟩, by decide +kernel⟩, gt_in4 209 rfl rfl, gt_in4 210 rfl rfl⟩
set_option maxRecDepth 100000 in
theorem cv_Ea_takeWay : w_CV yX0_takeWay cX0_takeWay 2 1 1 := ⟨⟨gt_in4 158 rfl rfl, gt_in1 7 rfl rfl, ⟨by decide +kernel, by decide +kernel⟩, by decide +kernel⟩, gt_in4 156 rfl rfl, gt_in4 157 rfl rfl⟩
set_option maxRecDepth 100000 in
theorem cv_Ea_tellWalk : w_CV yX0_tellWalk cX0_tellWalk 2 1 1 := ⟨⟨gt_in4 203 rfl rfl, gt_in1 7 rfl rfl, ⟨by decide +kernel, by decide +kernel⟩, by decide +kernel⟩, gt_in4 201 rfl rfl, gt_in4 202 rfl rfl⟩
set_option maxRecDepth 100000 in
theorem cv_Ea_wordsInAll : w_CV yX0_wordsInAll cX0_wordsInAll 1 1 0 := ⟨⟨gt_in6 62 rfl rfl, gt_in1 7 rfl rfl, ⟨by decide +kernel, by decide +kernel⟩, by decide +kernel⟩, gt_in6 61 rfl rfl, gt_sel 52 (by decide +kernel) rfl⟩
set_option maxRecDepth 100000 in
theorem cv_To_init : w_CI yX10_init cX10_init 2 1 := ⟨⟨gt_in1 175 rfl rfl, gt_in1 5 rfl rfl, ⟨by decide +kernel, by decide +kernel⟩, by decide +kernel⟩, gt_in1 174 rfl rfl, rfl⟩
set_option maxRecDepth 100000 in
theorem cv_To_isBlank : w_CS yX10_isBlank cX10_isBlank 1 2 1 := ⟨⟨gt_in3 111 rfl rfl, gt_in1 5 rfl rfl, ⟨by decide +kernel, by decide +kernel⟩, by decide +kernel⟩, gt_in3 110 rfl rfl⟩
set_option maxRecDepth 100000 in
theorem cv_To_isDigit : w_CS yX10_isDigit cX10_isDigit 1 2 1 := ⟨⟨gt_in3 171 rfl rfl, gt_in1 5 rfl rfl, ⟨by decide +kernel, by decide +kernel⟩, by decide +kernel⟩, gt_in3 170 rfl rfl⟩
set_option maxRecDepth 100000 in
theorem cv_To_isLetter : w_CS yX10_isLetter cX10_isLetter 1 2 1 := ⟨⟨gt_in3 114 rfl rfl, gt_in1 5 rfl rfl, ⟨by decide +kernel, by decide +kernel⟩, by decide +kernel⟩, gt_in3 113 rfl rfl⟩
set_option maxRecDepth 100000 in
theorem cv_To_isSign : w_CS yX10_isSign cX10_isSign 1 2 1 := ⟨⟨gt_in3 178 rfl rfl, gt_in1 5 rfl rfl, ⟨by decide +kernel, by decide +kernel⟩, by decide +kernel⟩, gt_in3 177 rfl rfl⟩
set_option maxRecDepth 100000 in
theorem cv_To_move : w_CV yX10_move cX10_move 2 0 0 := ⟨⟨gt_in3 104 rfl rfl, gt_in1 5 rfl rfl, ⟨by decide +kernel, by decide +kernel⟩, by decide +kernel⟩, gt_in3 102 rfl rfl, gt_in3 103 rfl rfl⟩
set_option maxRecDepth 100000 in
theorem cv_To_open : w_CV yX10_open cX10_open 2 0 1 := ⟨⟨gt_in3 97 rfl rfl, gt_in1 5 rfl rfl, ⟨by decide +kernel, by decide +kernel⟩, by decide +kernel⟩, gt_in3 95 rfl rfl, gt_in3 96 rfl rfl⟩
set_option maxRecDepth 100000 in
theorem cv_To_sign : w_CV yX10_sign cX10_sign 2 1 1 := ⟨⟨gt_in3 108 rfl rfl, gt_in1 5 rfl rfl, ⟨by decide +kernel, by decide +kernel⟩, by decide +kernel⟩, gt_in3 107 rfl rfl, gt_sel 4 (by decide +kernel) rfl⟩
set_option maxRecDepth 100000 in
theorem cv_To_takeNumber : w_CV yX10_takeNumber cX10_takeNumber 1 0 0 := ⟨⟨gt_in3 175 rfl rfl, gt_in1 5 rfl rfl, ⟨by decide +kernel, by decide +kernel⟩, by decide +kernel⟩, gt_in3 174 rfl rfl, gt_sel 6 (by decide +kernel) rfl⟩
set_option maxRecDepth 100000 in
theorem cv_To_takeWord : w_CV yX10_takeWord cX10_takeWord 6 0 0 := ⟨⟨gt_in3 118 rfl rfl, gt_in1 5 rfl rfl, ⟨by decide +kernel, by decide +kernel⟩, by decide +kernel⟩, gt_in3 117 rfl rfl, gt_sel 5 (by decide +kernel) rfl⟩
set_option maxRecDepth 100000 in
theorem cv_Qu_about : w_CV yX11_about cX11_about 2 1 1 := ⟨⟨gt_in6 74 rfl rfl, gt_in1 1 rfl rfl, ⟨by decide +kernel, by decide +kernel⟩, by decide +kernel⟩, gt_in6 72 rfl rfl, gt_in6 73 rfl rfl⟩
set_option maxRecDepth 100000 in
theorem cv_Qu_adds : w_CV yX11_adds cX11_adds 3 1 2 := ⟨⟨gt_in5 92 rfl rfl, gt_in1 1 rfl rfl, ⟨by decide +kernel, by decide +kernel⟩, by decide +kernel⟩, gt_in5 90 rfl rfl, gt_in5 91 rfl rfl⟩
set_option maxRecDepth 100000 in
theorem cv_Qu_ask : w_CV yX11_ask cX11_ask 3 1 2 := ⟨⟨gt_in6 33 rfl rfl, gt_in1 1 rfl rfl, ⟨by decide +kernel, by decide +kernel⟩, by decide +kernel⟩, gt_in6 31 rfl rfl, gt_in6 32 rfl rfl⟩
set_option maxRecDepth 100000 in
theorem cv_Qu_back : w_CV yX11_back cX11_back 2 1 1 := ⟨⟨gt_in6 66 rfl rfl, gt_in1 1 rfl rfl, ⟨by decide +kernel, by decide +kernel⟩, by decide +kernel⟩, gt_in6 64 rfl rfl, gt_in6 65 rfl rfl⟩
set_option maxRecDepth 100000 in
theorem cv_Qu_cover : w_CV yX11_cover cX11_cover 1 1 0 := ⟨⟨gt_in5 110 rfl rfl, gt_in1 1 rfl rfl, ⟨by decide +kernel, by decide +kernel⟩, by decide +kernel⟩, gt_in5 108 rfl rfl, gt_in5 109 rfl rfl⟩
set_option maxRecDepth 100000 in
theorem cv_Qu_end : w_CV yX11_end cX11_end 2 1 1 := ⟨⟨gt_in3 77 rfl rfl, gt_in1 1 rfl rfl, ⟨by decide +kernel, by decide +kernel⟩, by decide +kernel⟩, gt_in3 75 rfl rfl, gt_in3 76 rfl rfl⟩
set_option maxRecDepth 100000 in
theorem cv_Qu_fair : w_CV yX11_fair cX11_fair 1 1 0 := ⟨⟨gt_in5 102 rfl rfl, gt_in1 1 rfl rfl, ⟨by decide +kernel, by decide +kernel⟩, by decide +kernel⟩, gt_in5 100 rfl rfl, gt_in5 101 rfl rfl⟩
set_option maxRecDepth 100000 in
theorem cv_Qu_fault : w_CV yX11_fault cX11_fault 2 1 1 := ⟨⟨gt_in4 71 rfl rfl, gt_in1 1 rfl rfl, ⟨by decide +kernel, by decide +kernel⟩, by decide +kernel⟩, gt_in4 69 rfl rfl, gt_in4 70 rfl rfl⟩
set_option maxRecDepth 100000 in
theorem cv_Qu_feed : w_CV yX11_feed cX11_feed 6 1 5 := ⟨⟨gt_in3 69 rfl rfl, gt_in1 1 rfl rfl, ⟨by decide +kernel, by decide +kernel⟩, by decide +kernel⟩, gt_in3 67 rfl rfl, gt_in3 68 rfl rfl⟩
set_option maxRecDepth 100000 in
theorem cv_Qu_heat : w_CV yX11_heat cX11_heat 6 1 4 := ⟨⟨gt_in4 133 rfl rfl, gt_in1 1 rfl rfl, ⟨by decide +kernel, by decide +kernel⟩, by decide +kernel⟩, gt_in4 131 rfl rfl, gt_in4 132 rfl rfl⟩
set_option maxRecDepth 100000 in
theorem cv_Qu_home : w_CV yX11_home cX11_home 7 1 6 := ⟨⟨gt_in5 159 rfl rfl, gt_in1 1 rfl rfl, ⟨by decide +kernel, by decide +kernel⟩, by decide +kernel⟩, gt_in5 157 rfl rfl, gt_in5 158 rfl rfl⟩
set_option maxRecDepth 100000 in
theorem cv_Qu_image : w_CV yX11_image cX11_image 2 1 1 := ⟨⟨gt_in6 54 rfl rfl, gt_in1 1 rfl rfl, ⟨by decide +kernel, by decide +kernel⟩, by decide +kernel⟩, gt_in6 52 rfl rfl, gt_in6 53 rfl rfl⟩
set_option maxRecDepth 100000 in
theorem cv_Qu_init : w_CI yX11_init cX11_init 1 0 := ⟨⟨gt_in1 24 rfl rfl, gt_in1 1 rfl rfl, ⟨by decide +kernel, by decide +kernel⟩, by decide +kernel⟩, gt_in1 23 rfl rfl, rfl⟩
set_option maxRecDepth 100000 in
theorem cv_Qu_land : w_CV yX11_land cX11_land 2 1 0 := ⟨⟨gt_in3 81 rfl rfl, gt_in1 1 rfl rfl, ⟨by decide +kernel, by decide +kernel⟩, by decide +kernel⟩, gt_in3 79 rfl rfl, gt_in3 80 rfl rfl⟩
set_option maxRecDepth 100000 in
theorem cv_Qu_later : w_CV yX11_later cX11_later 2 1 1 := ⟨⟨gt_in6 16 rfl rfl, gt_in1 1 rfl rfl, ⟨by decide +kernel, by decide +kernel⟩, by decide +kernel⟩, gt_in6 14 rfl rfl, gt_in6 15 rfl rfl⟩
set_option maxRecDepth 100000 in
theorem cv_Qu_lies : w_CV yX11_lies cX11_lies 2 1 1 := ⟨⟨gt_in5 221 rfl rfl, gt_in1 1 rfl rfl, ⟨by decide +kernel, by decide +kernel⟩, by decide +kernel⟩, gt_in5 219 rfl rfl, gt_in5 220 rfl rfl⟩
set_option maxRecDepth 100000 in
theorem cv_Qu_loud : w_CV yX11_loud cX11_loud 10 1 4 := ⟨⟨gt_in5 153 rfl rfl, gt_in1 1 rfl rfl, ⟨by decide +kernel, by decide +kernel⟩, by decide +kernel⟩, gt_in5 151 rfl rfl, gt_in5 152 rfl rfl⟩
set_option maxRecDepth 100000 in
theorem cv_Qu_measure : w_CV yX11_measure cX11_measure 7 1 5 := ⟨⟨gt_in5 78 rfl rfl, gt_in1 1 rfl rfl, ⟨by decide +kernel, by decide +kernel⟩, by decide +kernel⟩, gt_in5 76 rfl rfl, gt_in5 77 rfl rfl⟩
set_option maxRecDepth 100000 in
theorem cv_Qu_miles : w_CV yX11_miles cX11_miles 2 3 1 := ⟨⟨gt_in6 25 rfl rfl, gt_in1 1 rfl rfl, ⟨by decide +kernel, by decide +kernel⟩, by decide +kernel⟩, gt_in6 23 rfl rfl, gt_in6 24 rfl rfl⟩
set_option maxRecDepth 100000 in
theorem cv_Qu_quarrel : w_CV yX11_quarrel cX11_quarrel 5 1 3 := ⟨⟨gt_in4 91 rfl rfl, gt_in1 1 rfl rfl, ⟨by decide +kernel, by decide +kernel⟩, by decide +kernel⟩, gt_in4 89 rfl rfl, gt_in4 90 rfl rfl⟩
set_option maxRecDepth 100000 in
theorem cv_Qu_redo : w_CV yX11_redo cX11_redo 1 2 0 := ⟨⟨gt_in4 223 rfl rfl, gt_in1 1 rfl rfl, ⟨by decide +kernel, by decide +kernel⟩, by decide +kernel⟩, gt_in4 221 rfl rfl, gt_in4 222 rfl rfl⟩
set_option maxRecDepth 100000 in
theorem cv_Qu_report : w_CV yX11_report cX11_report 6 1 4 := ⟨⟨gt_in5 229 rfl rfl, gt_in1 1 rfl rfl, ⟨by decide +kernel, by decide +kernel⟩, by decide +kernel⟩, gt_in5 227 rfl rfl, gt_in5 228 rfl rfl⟩
set_option maxRecDepth 100000 in
theorem cv_Qu_send : w_CV yX11_send cX11_send 3 1 2 := ⟨⟨gt_in5 55 rfl rfl, gt_in1 1 rfl rfl, ⟨by decide +kernel, by decide +kernel⟩, by decide +kernel⟩, gt_in5 53 rfl rfl, gt_in5 54 rfl rfl⟩
set_option maxRecDepth 100000 in
theorem cv_Qu_setOut : w_CV yX11_setOut cX11_setOut 6 1 4 := ⟨⟨gt_in4 137 rfl rfl, gt_in1 1 rfl rfl, ⟨by decide +kernel, by decide +kernel⟩, by decide +kernel⟩, gt_in4 135 rfl rfl, gt_in4 136 rfl rfl⟩
set_option maxRecDepth 100000 in
theorem cv_Qu_shortest : w_CV yX11_shortest cX11_shortest 3 1 2 := ⟨⟨gt_in5 24 rfl rfl, gt_in1 1 rfl rfl, ⟨by decide +kernel, by decide +kernel⟩, by decide +kernel⟩, gt_in5 22 rfl rfl, gt_in5 23 rfl rfl⟩
set_option maxRecDepth 100000 in
theorem cv_Qu_soul : w_CV yX11_soul cX11_soul 3 1 2 := ⟨⟨gt_in4 75 rfl rfl, gt_in1 1 rfl rfl, ⟨by decide +kernel, by decide +kernel⟩, by decide +kernel⟩, gt_in4 73 rfl rfl, gt_in4 74 rfl rfl⟩
set_option maxRecDepth 100000 in
theorem cv_Qu_start : w_CV yX11_start cX11_start 2 1 1 := ⟨⟨gt_in4 231 rfl rfl, gt_in1 1 rfl rfl, ⟨by decide +kernel, by decide +kernel⟩, by decide +kernel⟩, gt_in4 229 rfl rfl, gt_in4 230 rfl rfl⟩
set_option maxRecDepth 100000 in
theorem cv_Qu_step : w_CV yX11_step cX11_step 2 1 1 := ⟨⟨gt_in4 235 rfl rfl, gt_in1 1 rfl rfl, ⟨by decide +kernel, by decide +kernel⟩, by decide +kernel⟩, gt_in4 233 rfl rfl, gt_in4 234 rfl rfl⟩
set_option maxRecDepth 100000 in
theorem cv_Qu_take : w_CV yX11_take cX11_take 2 1 1 := ⟨⟨gt_in4 154 rfl rfl, gt_in1 1 rfl rfl, ⟨by decide +kernel, by decide +kernel⟩, by decide +kernel⟩, gt_in4 152 rfl rfl, gt_in4 153 rfl rfl⟩
set_option maxRecDepth 100000 in
theorem cv_Qu_tapeNumber : w_CV yX11_tapeNumber cX11_tapeNumber 3 0 1 := ⟨⟨gt_in3 73 rfl rfl, gt_in1 1 rfl rfl, ⟨by decide +kernel, by decide +kernel⟩, by decide +kernel⟩, gt_in3 72 rfl rfl, gt_sel 3 (by decide +kernel) rfl⟩
set_option maxRecDepth 100000 in
theorem cv_Qu_temper : w_CV yX11_temper cX11_temper 5 1 4 := ⟨⟨gt_in5 183 rfl rfl, gt_in1 1 rfl rfl, ⟨by decide +kernel, by decide +kernel⟩, by decide +kernel⟩, gt_in5 181 rfl rfl, gt_in5 182 rfl rfl⟩
set_option maxRecDepth 100000 in
theorem cv_Qu_turned : w_CV yX11_turned cX11_turned 1 1 0 := ⟨⟨gt_in5 139 rfl rfl, gt_in1 1 rfl rfl, ⟨by decide +kernel, by decide +kernel⟩, by decide +kernel⟩, gt_in5 137 rfl rfl, gt_in5 138 rfl rfl⟩
set_option maxRecDepth 100000 in
theorem cv_Qu_undo : w_CV yX11_undo cX11_undo 1 2 0 := ⟨⟨gt_in4 207 rfl rfl, gt_in1 1 rfl rfl, ⟨by decide +kernel, by decide +kernel⟩, by decide +kernel⟩, gt_in4 205 rfl rfl, gt_in4 206 rfl rfl⟩
set_option maxRecDepth 100000 in
theorem cv_Qu_untell : w_CV yX11_untell cX11_untell 2 2 1 := ⟨⟨gt_in6 8 rfl rfl, gt_in1 1 rfl rfl, ⟨by decide +kernel, by decide +kernel⟩, by decide +kernel⟩, gt_in6 6 rfl rfl, gt_in6 7 rfl rfl⟩
set_option maxRecDepth 100000 in
theorem cv_Qu_walk : w_CV yX11_walk cX11_walk 2 1 1 := ⟨⟨gt_in4 199 rfl rfl, gt_in1 1 rfl rfl, ⟨by decide +kernel, by decide +kernel⟩, by decide +kernel⟩, gt_in4 197 rfl rfl, gt_in4 198 rfl rfl⟩
set_option maxRecDepth 100000 in
theorem cv_Qu_walked : w_CV yX11_walked cX11_walked 7 1 4 := ⟨⟨gt_in5 4 rfl rfl, gt_in1 1 rfl rfl, ⟨by decide +kernel, by decide +kernel⟩, by decide +kernel⟩, gt_in5 2 rfl rfl, gt_in5 3 rfl rfl⟩
set_option maxRecDepth 100000 in
theorem cv_Qu_way : w_CV yX11_way cX11_way 3 1 2 := ⟨⟨gt_in4 83 rfl rfl, gt_in1 1 rfl rfl, ⟨by decide +kernel, by decide +kernel⟩, by decide +kernel⟩, gt_in4 81 rfl rfl, gt_in4 82 rfl rfl⟩
set_option maxRecDepth 100000 in
theorem cv_Qu_within : w_CS yX11_within cX11_within 3 1 3 := ⟨⟨gt_in3 100 rfl rfl, gt_in1 1 rfl rfl, ⟨by decide +kernel, by decide +kernel⟩, by decide +kernel⟩, gt_in3 99 rfl rfl⟩
set_option maxRecDepth 100000 in
theorem cv_Qu_words : w_CV yX11_words cX11_words 2 1 1 := ⟨⟨gt_in4 168 rfl rfl, gt_in1 1 rfl rfl, ⟨by decide +kernel, by decide +kernel⟩, by decide +kernel⟩, gt_in4 166 rfl rfl, gt_in4 167 rfl rfl⟩
set_option maxRecDepth 100000 in
theorem cv_Qu_year : w_CV yX11_year cX11_year 1 1 0 := ⟨⟨gt_in4 190 rfl rfl, gt_in1 1 rfl rfl, ⟨by decide +kernel, by decide +kernel⟩, by decide +kernel⟩, gt_in4 188 rfl rfl, gt_in4 189 rfl rfl⟩
set_option maxRecDepth 100000 in
theorem cv_Mo_about : w_CV yX12_about cX12_about 2 1 1 := ⟨⟨gt_in9 95 rfl rfl, gt_in1 13 rfl rfl, ⟨by decide +kernel, by decide +kernel⟩, by decide +kernel⟩, gt_in9 93 rfl rfl, gt_in9 94 rfl rfl⟩
set_option maxRecDepth 100000 in
theorem cv_Mo_adds : w_CV yX12_adds cX12_adds 7 1 2 := ⟨⟨gt_in8 223 rfl rfl, gt_in1 13 rfl rfl, ⟨by decide +kernel, by decide +kernel⟩, by decide +kernel⟩, gt_in8 221 rfl rfl, gt_in8 222 rfl rfl⟩
set_option maxRecDepth 100000 in
theorem cv_Mo_after : w_CV yX12_after cX12_after 5 1 3 := ⟨⟨gt_in7 190 rfl rfl, gt_in1 13 rfl rfl, ⟨by decide +kernel, by decide +kernel⟩, by decide +kernel⟩, gt_in7 189 rfl rfl, gt_sel 67 (by decide +kernel) rfl⟩
set_option maxRecDepth 100000 in
theorem cv_Mo_along : w_CV yX12_along cX12_along 8 0 3 := ⟨⟨gt_in8 169 rfl rfl, gt_in1 13 rfl rfl, ⟨by decide +kernel, by decide +kernel⟩, by decide +kernel⟩, gt_in8 168 rfl rfl, gt_sel 102 (by decide +kernel) rfl⟩
set_option maxRecDepth 100000 in
theorem cv_Mo_apart : w_CS yX12_apart cX12_apart 2 1 2 := ⟨⟨gt_in9 38 rfl rfl, gt_in1 13 rfl rfl, ⟨by decide +kernel, by decide +kernel⟩, by decide +kernel⟩, gt_in9 37 rfl rfl⟩
set_option maxRecDepth 100000 in
theorem cv_Mo_ask : w_CV yX12_ask cX12_ask 9 1 2 := ⟨⟨gt_in9 74 rfl rfl, gt_in1 13 rfl rfl, ⟨by decide +kernel, by decide +kernel⟩, by decide +kernel⟩, gt_in9 72 rfl rfl, gt_in9 73 rfl rfl⟩
set_option maxRecDepth 100000 in
theorem cv_Mo_asked : w_CV yX12_asked cX12_asked 3 1 2 := ⟨⟨gt_in8 57 rfl rfl, gt_in1 13 rfl rfl, ⟨by decide +kernel, by decide +kernel⟩, by decide +kernel⟩, gt_in8 56 rfl rfl, gt_sel 91 (by decide +kernel) rfl⟩
set_option maxRecDepth 100000 in
theorem cv_Mo_back : w_CV yX12_back cX12_back 3 1 1 := ⟨⟨gt_in9 91 rfl rfl, gt_in1 13 rfl rfl, ⟨by decide +kernel, by decide +kernel⟩, by decide +kernel⟩, gt_in9 89 rfl rfl, gt_in9 90 rfl rfl⟩
set_option maxRecDepth 100000 in
theorem cv_Mo_begin : w_CV yX12_begin cX12_begin 7 0 4 := ⟨⟨gt_in8 41 rfl rfl, gt_in1 13 rfl rfl, ⟨by decide +kernel, by decide +kernel⟩, by decide +kernel⟩, gt_in8 40 rfl rfl, gt_sel 87 (by decide +kernel) rfl⟩
set_option maxRecDepth 100000 in
theorem cv_Mo_beginBy : w_CV yX12_beginBy cX12_beginBy 2 0 1 := ⟨⟨gt_in8 207 rfl rfl, gt_in1 13 rfl rfl, ⟨by decide +kernel, by decide +kernel⟩, by decide +kernel⟩, gt_in8 206 rfl rfl, gt_sel 107 (by decide +kernel) rfl⟩
set_option maxRecDepth 100000 in
theorem cv_Mo_behindUnit : w_CV yX12_behindUnit cX12_behindUnit 2 2 0 := ⟨⟨gt_in8 10 rfl rfl, gt_in1 13 rfl rfl, ⟨by decide +kernel, by decide +kernel⟩, by decide +kernel⟩, gt_in8 9 rfl rfl, gt_sel 82 (by decide +kernel) rfl⟩
set_option maxRecDepth 100000 in
theorem cv_Mo_canBe : w_CV yX12_canBe cX12_canBe 2 2 1 := ⟨⟨gt_in8 194 rfl rfl, gt_in1 13 rfl rfl, ⟨by decide +kernel, by decide +kernel⟩, by decide +kernel⟩, gt_in8 193 rfl rfl, gt_sel 106 (by decide +kernel) rfl⟩
set_option maxRecDepth 100000 in
theorem cv_Mo_changes : w_CV yX12_changes cX12_changes 10 1 4 := ⟨⟨gt_in9 35 rfl rfl, gt_in1 13 rfl rfl, ⟨by decide +kernel, by decide +kernel⟩, by decide +kernel⟩, gt_in9 34 rfl rfl, gt_sel 116 (by decide +kernel) rfl⟩
set_option maxRecDepth 100000 in
theorem cv_Mo_clearBank : w_CV yX12_clearBank cX12_clearBank 1 0 0 := ⟨⟨gt_in6 84 rfl rfl, gt_in1 13 rfl rfl, ⟨by decide +kernel, by decide +kernel⟩, by decide +kernel⟩, gt_in6 83 rfl rfl, gt_sel 53 (by decide +kernel) rfl⟩
set_option maxRecDepth 100000 in
theorem cv_Mo_comes : w_CV yX12_comes cX12_comes 5 1 1 := ⟨⟨gt_in8 53 rfl rfl, gt_in1 13 rfl rfl, ⟨by decide +kernel, by decide +kernel⟩, by decide +kernel⟩, gt_in8 52 rfl rfl, gt_sel 90 (by decide +kernel) rfl⟩
set_option maxRecDepth 100000 in
theorem cv_Mo_coupleMany : w_CV yX12_coupleMany cX12_coupleMany 1 1 0 := ⟨⟨gt_in8 190 rfl rfl, gt_in1 13 rfl rfl, ⟨by decide +kernel, by decide +kernel⟩, by decide +kernel⟩, gt_in8 189 rfl rfl, gt_sel 105 (by decide +kernel) rfl⟩
set_option maxRecDepth 100000 in
theorem cv_Mo_cover : w_CV yX12_cover cX12_cover 5 1 0 := ⟨⟨gt_in8 235 rfl rfl, gt_in1 13 rfl rfl, ⟨by decide +kernel, by decide +kernel⟩, by decide +kernel⟩, gt_in8 233 rfl rfl, gt_in8 234 rfl rfl⟩
set_option maxRecDepth 100000 in
theorem cv_Mo_coverByThree : w_CV yX12_coverByThree cX12_coverByThree 6 1 2 := ⟨⟨gt_in9 7 rfl rfl, gt_in1 13 rfl rfl, ⟨by decide +kernel, by decide +kernel⟩, by decide +kernel⟩, gt_in9 6 rfl rfl, gt_sel 113 (by decide +kernel) rfl⟩
set_option maxRecDepth 100000 in
theorem cv_Mo_doWalk : w_CV yX12_doWalk cX12_doWalk 1 2 0 := ⟨⟨gt_in8 117 rfl rfl, gt_in1 13 rfl rfl, ⟨by decide +kernel, by decide +kernel⟩, by decide +kernel⟩, gt_in8 116 rfl rfl, gt_sel 98 (by decide +kernel) rfl⟩
set_option maxRecDepth 100000 in
theorem cv_Mo_doesLead : w_CV yX12_doesLead cX12_doesLead 8 2 4 := ⟨⟨gt_in9 23 rfl rfl, gt_in1 13 rfl rfl, ⟨by decide +kernel, by decide +kernel⟩, by decide +kernel⟩, gt_in9 22 rfl rfl, gt_sel 114 (by decide +kernel) rfl⟩
set_option maxRecDepth 100000 in
theorem cv_Mo_e : w_CV yX12_e cX12_e 2 0 0 := ⟨⟨gt_in7 230 rfl rfl, gt_in1 13 rfl rfl, ⟨by decide +kernel, by decide +kernel⟩, by decide +kernel⟩, gt_in7 229 rfl rfl, gt_sel 77 (by decide +kernel) rfl⟩
set_option maxRecDepth 100000 in
theorem cv_Mo_emit : w_CV yX12_emit cX12_emit 3 0 2 := ⟨⟨gt_in8 6 rfl rfl, gt_in1 13 rfl rfl, ⟨by decide +kernel, by decide +kernel⟩, by decide +kernel⟩, gt_in8 5 rfl rfl, gt_sel 81 (by decide +kernel) rfl⟩
set_option maxRecDepth 100000 in
theorem cv_Mo_end : w_CV yX12_end cX12_end 2 1 1 := ⟨⟨gt_in9 103 rfl rfl, gt_in1 13 rfl rfl, ⟨by decide +kernel, by decide +kernel⟩, by decide +kernel⟩, gt_in9 101 rfl rfl, gt_in9 102 rfl rfl⟩
set_option maxRecDepth 100000 in
theorem cv_Mo_endsJust : w_CV yX12_endsJust cX12_endsJust 4 2 3 := ⟨⟨gt_in9 27 rfl rfl, gt_in1 13 rfl rfl, ⟨by decide +kernel, by decide +kernel⟩, by decide +kernel⟩, gt_in9 26 rfl rfl, gt_sel 115 (by decide +kernel) rfl⟩
set_option maxRecDepth 100000 in
theorem cv_Mo_exchange : w_CV yX12_exchange cX12_exchange 3 0 0 := ⟨⟨gt_in8 141 rfl rfl, gt_in1 13 rfl rfl, ⟨by decide +kernel, by decide +kernel⟩, by decide +kernel⟩, gt_in8 140 rfl rfl, gt_sel 100 (by decide +kernel) rfl⟩
set_option maxRecDepth 100000 in
theorem cv_Mo_fails : w_CV yX12_fails cX12_fails 3 0 2 := ⟨⟨gt_in7 174 rfl rfl, gt_in1 13 rfl rfl, ⟨by decide +kernel, by decide +kernel⟩, by decide +kernel⟩, gt_in7 173 rfl rfl, gt_sel 63 (by decide +kernel) rfl⟩
set_option maxRecDepth 100000 in
theorem cv_Mo_fair : w_CV yX12_fair cX12_fair 3 1 0 := ⟨⟨gt_in8 227 rfl rfl, gt_in1 13 rfl rfl, ⟨by decide +kernel, by decide +kernel⟩, by decide +kernel⟩, gt_in8 225 rfl rfl, gt_in8 226 rfl rfl⟩
set_option maxRecDepth 100000 in
theorem cv_Mo_fault : w_CV yX12_fault cX12_fault 2 1 1 := ⟨⟨gt_in8 22 rfl rfl, gt_in1 13 rfl rfl, ⟨by decide +kernel, by decide +kernel⟩, by decide +kernel⟩, gt_in8 20 rfl rfl, gt_in8 21 rfl rfl⟩
set_option maxRecDepth 100000 in
theorem cv_Mo_feed : w_CV yX12_feed cX12_feed 8 1 5 := ⟨⟨gt_in9 99 rfl rfl, gt_in1 13 rfl rfl, ⟨by decide +kernel, by decide +kernel⟩, by decide +kernel⟩, gt_in9 97 rfl rfl, gt_in9 98 rfl rfl⟩
set_option maxRecDepth 100000 in
theorem cv_Mo_firstOf : w_CS yX12_firstOf cX12_firstOf 1 1 1 := ⟨⟨gt_in8 197 rfl rfl, gt_in1 13 rfl rfl, ⟨by decide +kernel, by decide +kernel⟩, by decide +kernel⟩, gt_in8 196 rfl rfl⟩
set_option maxRecDepth 100000 in
theorem cv_Mo_fresh : w_CV yX12_fresh cX12_fresh 4 3 1 := ⟨⟨gt_in7 186 rfl rfl, gt_in1 13 rfl rfl, ⟨by decide +kernel, by decide +kernel⟩, by decide +kernel⟩, gt_in7 185 rfl rfl, gt_sel 66 (by decide +kernel) rfl⟩
set_option maxRecDepth 100000 in
theorem cv_Mo_fromOf : w_CV yX12_fromOf cX12_fromOf 2 1 1 := ⟨⟨gt_in8 89 rfl rfl, gt_in1 13 rfl rfl, ⟨by decide +kernel, by decide +kernel⟩, by decide +kernel⟩, gt_in8 88 rfl rfl, gt_sel 93 (by decide +kernel) rfl⟩
set_option maxRecDepth 100000 in
theorem cv_Mo_goOn : w_CV yX12_goOn cX12_goOn 3 0 0 := ⟨⟨gt_in7 113 rfl rfl, gt_in1 13 rfl rfl, ⟨by decide +kernel, by decide +kernel⟩, by decide +kernel⟩, gt_in7 112 rfl rfl, gt_sel 56 (by decide +kernel) rfl⟩
set_option maxRecDepth 100000 in
theorem cv_Mo_heat : w_CV yX12_heat cX12_heat 5 1 4 := ⟨⟨gt_in8 73 rfl rfl, gt_in1 13 rfl rfl, ⟨by decide +kernel, by decide +kernel⟩, by decide +kernel⟩, gt_in8 71 rfl rfl, gt_in8 72 rfl rfl⟩
set_option maxRecDepth 100000 in
theorem cv_Mo_here : w_CV yX12_here cX12_here 5 1 3 := ⟨⟨gt_in7 182 rfl rfl, gt_in1 13 rfl rfl, ⟨by decide +kernel, by decide +kernel⟩, by decide +kernel⟩, gt_in7 181 rfl rfl, gt_sel 65 (by decide +kernel) rfl⟩
set_option maxRecDepth 100000 in
theorem cv_Mo_home : w_CV yX12_home cX12_home 13 1 6 := ⟨⟨gt_in9 19 rfl rfl, gt_in1 13 rfl rfl, ⟨by decide +kernel, by decide +kernel⟩, by decide +kernel⟩, gt_in9 17 rfl rfl, gt_in9 18 rfl rfl⟩
set_option maxRecDepth 100000 in
theorem cv_Mo_image : w_CV yX12_image cX12_image 3 1 1 := ⟨⟨gt_in9 83 rfl rfl, gt_in1 13 rfl rfl, ⟨by decide +kernel, by decide +kernel⟩, by decide +kernel⟩, gt_in9 81 rfl rfl, gt_in9 82 rfl rfl⟩
set_option maxRecDepth 100000 in
theorem cv_Mo_init : w_CI yX12_init cX12_init 1 0 := ⟨⟨gt_in6 79 rfl rfl, gt_in1 13 rfl rfl, ⟨by decide +kernel, by decide +kernel⟩, by decide +kernel⟩, gt_in6 78 rfl rfl, rfl⟩
set_option maxRecDepth 100000 in
theorem cv_Mo_isCompared : w_CV yX12_isCompared cX12_isCompared 2 2 0 := ⟨⟨gt_in8 18 rfl rfl, gt_in1 13 rfl rfl, ⟨by decide +kernel, by decide +kernel⟩, by decide +kernel⟩, gt_in8 17 rfl rfl, gt_sel 84 (by decide +kernel) rfl⟩
set_option maxRecDepth 100000 in
theorem cv_Mo_isCouple : w_CV yX12_isCouple cX12_isCouple 4 2 3 := ⟨⟨gt_in8 30 rfl rfl, gt_in1 13 rfl rfl, ⟨by decide +kernel, by decide +kernel⟩, by decide +kernel⟩, gt_in8 29 rfl rfl, gt_sel 85 (by decide +kernel) rfl⟩
set_option maxRecDepth 100000 in
theorem cv_Mo_isDigit : w_CS yX12_isDigit cX12_isDigit 1 2 1 := ⟨⟨gt_in7 147 rfl rfl, gt_in1 13 rfl rfl, ⟨by decide +kernel, by decide +kernel⟩, by decide +kernel⟩, gt_in7 146 rfl rfl⟩
set_option maxRecDepth 100000 in
theorem cv_Mo_isEnded : w_CS yX12_isEnded cX12_isEnded 1 2 1 := ⟨⟨gt_in8 69 rfl rfl, gt_in1 13 rfl rfl, ⟨by decide +kernel, by decide +kernel⟩, by decide +kernel⟩, gt_in8 68 rfl rfl⟩
set_option maxRecDepth 100000 in
theorem cv_Mo_isFair : w_CV yX12_isFair cX12_isFair 3 2 1 := ⟨⟨gt_in8 231 rfl rfl, gt_in1 13 rfl rfl, ⟨by decide +kernel, by decide +kernel⟩, by decide +kernel⟩, gt_in8 230 rfl rfl, gt_sel 110 (by decide +kernel) rfl⟩
set_option maxRecDepth 100000 in
theorem cv_Mo_isFull : w_CV yX12_isFull cX12_isFull 1 2 0 := ⟨⟨gt_in7 162 rfl rfl, gt_in1 13 rfl rfl, ⟨by decide +kernel, by decide +kernel⟩, by decide +kernel⟩, gt_in7 161 rfl rfl, gt_sel 60 (by decide +kernel) rfl⟩
set_option maxRecDepth 100000 in
theorem cv_Mo_isGood : w_CV yX12_isGood cX12_isGood 1 2 0 := ⟨⟨gt_in7 154 rfl rfl, gt_in1 13 rfl rfl, ⟨by decide +kernel, by decide +kernel⟩, by decide +kernel⟩, gt_in7 153 rfl rfl, gt_sel 58 (by decide +kernel) rfl⟩
set_option maxRecDepth 100000 in
theorem cv_Mo_isIn : w_CS yX12_isIn cX12_isIn 3 2 3 := ⟨⟨gt_in8 33 rfl rfl, gt_in1 13 rfl rfl, ⟨by decide +kernel, by decide +kernel⟩, by decide +kernel⟩, gt_in8 32 rfl rfl⟩
set_option maxRecDepth 100000 in
theorem cv_Mo_isKept : w_CS yX12_isKept cX12_isKept 3 2 1 := ⟨⟨gt_in7 123 rfl rfl, gt_in1 13 rfl rfl, ⟨by decide +kernel, by decide +kernel⟩, by decide +kernel⟩, gt_in7 122 rfl rfl⟩
set_option maxRecDepth 100000 in
theorem cv_Mo_isLetter : w_CS yX12_isLetter cX12_isLetter 1 2 1 := ⟨⟨gt_in7 120 rfl rfl, gt_in1 13 rfl rfl, ⟨by decide +kernel, by decide +kernel⟩, by decide +kernel⟩, gt_in7 119 rfl rfl⟩
set_option maxRecDepth 100000 in
theorem cv_Mo_isPlace : w_CV yX12_isPlace cX12_isPlace 2 2 1 := ⟨⟨gt_in8 105 rfl rfl, gt_in1 13 rfl rfl, ⟨by decide +kernel, by decide +kernel⟩, by decide +kernel⟩, gt_in8 104 rfl rfl, gt_sel 96 (by decide +kernel) rfl⟩
set_option maxRecDepth 100000 in
theorem cv_Mo_isSign : w_CS yX12_isSign cX12_isSign 1 2 1 := ⟨⟨gt_in7 150 rfl rfl, gt_in1 13 rfl rfl, ⟨by decide +kernel, by decide +kernel⟩, by decide +kernel⟩, gt_in7 149 rfl rfl⟩
set_option maxRecDepth 100000 in
theorem cv_Mo_isSignHere : w_CV yX12_isSignHere cX12_isSignHere 2 2 1 := ⟨⟨gt_in7 214 rfl rfl, gt_in1 13 rfl rfl, ⟨by decide +kernel, by decide +kernel⟩, by decide +kernel⟩, gt_in7 213 rfl rfl, gt_sel 73 (by decide +kernel) rfl⟩
set_option maxRecDepth 100000 in
theorem cv_Mo_isSo : w_CV yX12_isSo cX12_isSo 4 2 2 := ⟨⟨gt_in9 67 rfl rfl, gt_in1 13 rfl rfl, ⟨by decide +kernel, by decide +kernel⟩, by decide +kernel⟩, gt_in9 66 rfl rfl, gt_sel 119 (by decide +kernel) rfl⟩
set_option maxRecDepth 100000 in
theorem cv_Mo_isWay : w_CV yX12_isWay cX12_isWay 2 2 1 := ⟨⟨gt_in8 85 rfl rfl, gt_in1 13 rfl rfl, ⟨by decide +kernel, by decide +kernel⟩, by decide +kernel⟩, gt_in8 84 rfl rfl, gt_sel 92 (by decide +kernel) rfl⟩
set_option maxRecDepth 100000 in
theorem cv_Mo_isWord : w_CV yX12_isWord cX12_isWord 3 2 1 := ⟨⟨gt_in7 166 rfl rfl, gt_in1 13 rfl rfl, ⟨by decide +kernel, by decide +kernel⟩, by decide +kernel⟩, gt_in7 165 rfl rfl, gt_sel 61 (by decide +kernel) rfl⟩
set_option maxRecDepth 100000 in
theorem cv_Mo_keepAct : w_CV yX12_keepAct cX12_keepAct 2 0 0 := ⟨⟨gt_in8 109 rfl rfl, gt_in1 13 rfl rfl, ⟨by decide +kernel, by decide +kernel⟩, by decide +kernel⟩, gt_in8 108 rfl rfl, gt_sel 97 (by decide +kernel) rfl⟩
set_option maxRecDepth 100000 in
theorem cv_Mo_known : w_CV yX12_known cX12_known 2 1 0 := ⟨⟨gt_in7 206 rfl rfl, gt_in1 13 rfl rfl, ⟨by decide +kernel, by decide +kernel⟩, by decide +kernel⟩, gt_in7 205 rfl rfl, gt_sel 71 (by decide +kernel) rfl⟩
set_option maxRecDepth 100000 in
theorem cv_Mo_land : w_CV yX12_land cX12_land 2 1 0 := ⟨⟨gt_in7 109 rfl rfl, gt_in1 13 rfl rfl, ⟨by decide +kernel, by decide +kernel⟩, by decide +kernel⟩, gt_in7 107 rfl rfl, gt_in7 108 rfl rfl⟩
set_option maxRecDepth 100000 in
theorem cv_Mo_later : w_CV yX12_later cX12_later 2 1 1 := ⟨⟨gt_in9 58 rfl rfl, gt_in1 13 rfl rfl, ⟨by decide +kernel, by decide +kernel⟩, by decide +kernel⟩, gt_in9 56 rfl rfl, gt_in9 57 rfl rfl⟩
set_option maxRecDepth 100000 in
theorem cv_Mo_layCouple : w_CV yX12_layCouple cX12_layCouple 3 0 2 := ⟨⟨gt_in9 3 rfl rfl, gt_in1 13 rfl rfl, ⟨by decide +kernel, by decide +kernel⟩, by decide +kernel⟩, gt_in9 2 rfl rfl, gt_sel 112 (by decide +kernel) rfl⟩
set_option maxRecDepth 100000 in
theorem cv_Mo_layFar : w_CV yX12_layFar cX12_layFar 4 0 1 := ⟨⟨gt_in8 181 rfl rfl, gt_in1 13 rfl rfl, ⟨by decide +kernel, by decide +kernel⟩, by decide +kernel⟩, gt_in8 180 rfl rfl, gt_sel 104 (by decide +kernel) rfl⟩
set_option maxRecDepth 100000 in
theorem cv_Mo_layJust : w_CV yX12_layJust cX12_layJust 3 0 0 := ⟨⟨gt_in8 239 rfl rfl, gt_in1 13 rfl rfl, ⟨by decide +kernel, by decide +kernel⟩, by decide +kernel⟩, gt_in8 238 rfl rfl, gt_sel 111 (by decide +kernel) rfl⟩
set_option maxRecDepth 100000 in
theorem cv_Mo_layShortest : w_CV yX12_layShortest cX12_layShortest 5 1 2 := ⟨⟨gt_in8 177 rfl rfl, gt_in1 13 rfl rfl, ⟨by decide +kernel, by decide +kernel⟩, by decide +kernel⟩, gt_in8 176 rfl rfl, gt_sel 103 (by decide +kernel) rfl⟩
set_option maxRecDepth 100000 in
theorem cv_Mo_layTempers : w_CV yX12_layTempers cX12_layTempers 4 0 3 := ⟨⟨gt_in9 42 rfl rfl, gt_in1 13 rfl rfl, ⟨by decide +kernel, by decide +kernel⟩, by decide +kernel⟩, gt_in9 41 rfl rfl, gt_sel 117 (by decide +kernel) rfl⟩
set_option maxRecDepth 100000 in
theorem cv_Mo_lies : w_CV yX12_lies cX12_lies 2 1 1 := ⟨⟨gt_in8 149 rfl rfl, gt_in1 13 rfl rfl, ⟨by decide +kernel, by decide +kernel⟩, by decide +kernel⟩, gt_in8 147 rfl rfl, gt_in8 148 rfl rfl⟩
set_option maxRecDepth 100000 in
theorem cv_Mo_loud : w_CV yX12_loud cX12_loud 7 1 4 := ⟨⟨gt_in9 15 rfl rfl, gt_in1 13 rfl rfl, ⟨by decide +kernel, by decide +kernel⟩, by decide +kernel⟩, gt_in9 13 rfl rfl, gt_in9 14 rfl rfl⟩
set_option maxRecDepth 100000 in
theorem cv_Mo_matterOf : w_CS yX12_matterOf cX12_matterOf 1 1 1 := ⟨⟨gt_in8 203 rfl rfl, gt_in1 13 rfl rfl, ⟨by decide +kernel, by decide +kernel⟩, by decide +kernel⟩, gt_in8 202 rfl rfl⟩
set_option maxRecDepth 100000 in
theorem cv_Mo_measure : w_CV yX12_measure cX12_measure 6 1 5 := ⟨⟨gt_in8 211 rfl rfl, gt_in1 13 rfl rfl, ⟨by decide +kernel, by decide +kernel⟩, by decide +kernel⟩, gt_in8 209 rfl rfl, gt_in8 210 rfl rfl⟩
set_option maxRecDepth 100000 in
theorem cv_Mo_measureBy : w_CV yX12_measureBy cX12_measureBy 4 1 3 := ⟨⟨gt_in8 215 rfl rfl, gt_in1 13 rfl rfl, ⟨by decide +kernel, by decide +kernel⟩, by decide +kernel⟩, gt_in8 214 rfl rfl, gt_sel 108 (by decide +kernel) rfl⟩
set_option maxRecDepth 100000 in
theorem cv_Mo_measured : w_CV yX12_measured cX12_measured 8 2 4 := ⟨⟨gt_in8 219 rfl rfl, gt_in1 13 rfl rfl, ⟨by decide +kernel, by decide +kernel⟩, by decide +kernel⟩, gt_in8 218 rfl rfl, gt_sel 109 (by decide +kernel) rfl⟩
set_option maxRecDepth 100000 in
theorem cv_Mo_miles : w_CV yX12_miles cX12_miles 5 3 1 := ⟨⟨gt_in9 63 rfl rfl, gt_in1 13 rfl rfl, ⟨by decide +kernel, by decide +kernel⟩, by decide +kernel⟩, gt_in9 61 rfl rfl, gt_in9 62 rfl rfl⟩
set_option maxRecDepth 100000 in
theorem cv_Mo_milesOf : w_CV yX12_milesOf cX12_milesOf 2 1 1 := ⟨⟨gt_in8 97 rfl rfl, gt_in1 13 rfl rfl, ⟨by decide +kernel, by decide +kernel⟩, by decide +kernel⟩, gt_in8 96 rfl rfl, gt_sel 95 (by decide +kernel) rfl⟩
set_option maxRecDepth 100000 in
theorem cv_Mo_misplaced : w_CV yX12_misplaced cX12_misplaced 1 0 0 := ⟨⟨gt_in7 170 rfl rfl, gt_in1 13 rfl rfl, ⟨by decide +kernel, by decide +kernel⟩, by decide +kernel⟩, gt_in7 169 rfl rfl, gt_sel 62 (by decide +kernel) rfl⟩
set_option maxRecDepth 100000 in
theorem cv_Mo_mostLeft : w_CV yX12_mostLeft cX12_mostLeft 6 1 2 := ⟨⟨gt_in9 79 rfl rfl, gt_in1 13 rfl rfl, ⟨by decide +kernel, by decide +kernel⟩, by decide +kernel⟩, gt_in9 78 rfl rfl, gt_sel 120 (by decide +kernel) rfl⟩
set_option maxRecDepth 100000 in
theorem cv_Mo_must : w_CV yX12_must cX12_must 2 0 1 := ⟨⟨gt_in7 194 rfl rfl, gt_in1 13 rfl rfl, ⟨by decide +kernel, by decide +kernel⟩, by decide +kernel⟩, gt_in7 193 rfl rfl, gt_sel 68 (by decide +kernel) rfl⟩
set_option maxRecDepth 100000 in
theorem cv_Mo_numeral : w_CV yX12_numeral cX12_numeral 4 1 2 := ⟨⟨gt_in7 198 rfl rfl, gt_in1 13 rfl rfl, ⟨by decide +kernel, by decide +kernel⟩, by decide +kernel⟩, gt_in7 197 rfl rfl, gt_sel 69 (by decide +kernel) rfl⟩
set_option maxRecDepth 100000 in
theorem cv_Mo_openLength : w_CV yX12_openLength cX12_openLength 4 1 3 := ⟨⟨gt_in8 37 rfl rfl, gt_in1 13 rfl rfl, ⟨by decide +kernel, by decide +kernel⟩, by decide +kernel⟩, gt_in8 36 rfl rfl, gt_sel 86 (by decide +kernel) rfl⟩
set_option maxRecDepth 100000 in
theorem cv_Mo_otherEnd : w_CV yX12_otherEnd cX12_otherEnd 3 1 2 := ⟨⟨gt_in8 121 rfl rfl, gt_in1 13 rfl rfl, ⟨by decide +kernel, by decide +kernel⟩, by decide +kernel⟩, gt_in8 120 rfl rfl, gt_sel 99 (by decide +kernel) rfl⟩
set_option maxRecDepth 100000 in
theorem cv_Mo_otherOf : w_CS yX12_otherOf cX12_otherOf 1 1 1 := ⟨⟨gt_in8 200 rfl rfl, gt_in1 13 rfl rfl, ⟨by decide +kernel, by decide +kernel⟩, by decide +kernel⟩, gt_in8 199 rfl rfl⟩
set_option maxRecDepth 100000 in
theorem cv_Mo_push : w_CS yX12_push cX12_push 2 0 2 := ⟨⟨gt_in8 66 rfl rfl, gt_in1 13 rfl rfl, ⟨by decide +kernel, by decide +kernel⟩, by decide +kernel⟩, gt_in8 65 rfl rfl⟩
set_option maxRecDepth 100000 in
theorem cv_Mo_pushE : w_CV yX12_pushE cX12_pushE 3 0 2 := ⟨⟨gt_in7 234 rfl rfl, gt_in1 13 rfl rfl, ⟨by decide +kernel, by decide +kernel⟩, by decide +kernel⟩, gt_in7 233 rfl rfl, gt_sel 78 (by decide +kernel) rfl⟩
set_option maxRecDepth 100000 in
theorem cv_Mo_quarrel : w_CV yX12_quarrel cX12_quarrel 4 1 3 := ⟨⟨gt_in8 26 rfl rfl, gt_in1 13 rfl rfl, ⟨by decide +kernel, by decide +kernel⟩, by decide +kernel⟩, gt_in8 24 rfl rfl, gt_in8 25 rfl rfl⟩
set_option maxRecDepth 100000 in
theorem cv_Mo_rankHere : w_CV yX12_rankHere cX12_rankHere 1 1 0 := ⟨⟨gt_in8 14 rfl rfl, gt_in1 13 rfl rfl, ⟨by decide +kernel, by decide +kernel⟩, by decide +kernel⟩, gt_in8 13 rfl rfl, gt_sel 83 (by decide +kernel) rfl⟩
set_option maxRecDepth 100000 in
theorem cv_Mo_readLine : w_CV yX12_readLine cX12_readLine 3 0 0 := ⟨⟨gt_in7 158 rfl rfl, gt_in1 13 rfl rfl, ⟨by decide +kernel, by decide +kernel⟩, by decide +kernel⟩, gt_in7 157 rfl rfl, gt_sel 59 (by decide +kernel) rfl⟩
set_option maxRecDepth 100000 in
theorem cv_Mo_readMatter : w_CV yX12_readMatter cX12_readMatter 2 0 0 := ⟨⟨gt_in7 222 rfl rfl, gt_in1 13 rfl rfl, ⟨by decide +kernel, by decide +kernel⟩, by decide +kernel⟩, gt_in7 221 rfl rfl, gt_sel 75 (by decide +kernel) rfl⟩
set_option maxRecDepth 100000 in
theorem cv_Mo_readPlace : w_CV yX12_readPlace cX12_readPlace 2 0 0 := ⟨⟨gt_in7 178 rfl rfl, gt_in1 13 rfl rfl, ⟨by decide +kernel, by decide +kernel⟩, by decide +kernel⟩, gt_in7 177 rfl rfl, gt_sel 64 (by decide +kernel) rfl⟩
set_option maxRecDepth 100000 in
theorem cv_Mo_readRule : w_CV yX12_readRule cX12_readRule 2 0 1 := ⟨⟨gt_in7 226 rfl rfl, gt_in1 13 rfl rfl, ⟨by decide +kernel, by decide +kernel⟩, by decide +kernel⟩, gt_in7 225 rfl rfl, gt_sel 76 (by decide +kernel) rfl⟩
set_option maxRecDepth 100000 in
theorem cv_Mo_readSoul : w_CV yX12_readSoul cX12_readSoul 2 0 0 := ⟨⟨gt_in7 218 rfl rfl, gt_in1 13 rfl rfl, ⟨by decide +kernel, by decide +kernel⟩, by decide +kernel⟩, gt_in7 217 rfl rfl, gt_sel 74 (by decide +kernel) rfl⟩
set_option maxRecDepth 100000 in
theorem cv_Mo_readWay : w_CV yX12_readWay cX12_readWay 2 0 0 := ⟨⟨gt_in7 202 rfl rfl, gt_in1 13 rfl rfl, ⟨by decide +kernel, by decide +kernel⟩, by decide +kernel⟩, gt_in7 201 rfl rfl, gt_sel 70 (by decide +kernel) rfl⟩
set_option maxRecDepth 100000 in
theorem cv_Mo_redo : w_CV yX12_redo cX12_redo 1 2 0 := ⟨⟨gt_in8 145 rfl rfl, gt_in1 13 rfl rfl, ⟨by decide +kernel, by decide +kernel⟩, by decide +kernel⟩, gt_in8 143 rfl rfl, gt_in8 144 rfl rfl⟩
set_option maxRecDepth 100000 in
theorem cv_Mo_report : w_CV yX12_report cX12_report 5 1 4 := ⟨⟨gt_in9 46 rfl rfl, gt_in1 13 rfl rfl, ⟨by decide +kernel, by decide +kernel⟩, by decide +kernel⟩, gt_in9 44 rfl rfl, gt_in9 45 rfl rfl⟩
set_option maxRecDepth 100000 in
theorem cv_Mo_reported : w_CS yX12_reported cX12_reported 2 1 2 := ⟨⟨gt_in9 70 rfl rfl, gt_in1 13 rfl rfl, ⟨by decide +kernel, by decide +kernel⟩, by decide +kernel⟩, gt_in9 69 rfl rfl⟩
set_option maxRecDepth 100000 in
theorem cv_Mo_routeEnd : w_CV yX12_routeEnd cX12_routeEnd 3 1 0 := ⟨⟨gt_in8 161 rfl rfl, gt_in1 13 rfl rfl, ⟨by decide +kernel, by decide +kernel⟩, by decide +kernel⟩, gt_in8 160 rfl rfl, gt_sel 101 (by decide +kernel) rfl⟩
set_option maxRecDepth 100000 in
theorem cv_Mo_say : w_CV yX12_say cX12_say 7 0 3 := ⟨⟨gt_in8 45 rfl rfl, gt_in1 13 rfl rfl, ⟨by decide +kernel, by decide +kernel⟩, by decide +kernel⟩, gt_in8 44 rfl rfl, gt_sel 88 (by decide +kernel) rfl⟩
set_option maxRecDepth 100000 in
theorem cv_Mo_send : w_CV yX12_send cX12_send 5 1 2 := ⟨⟨gt_in8 186 rfl rfl, gt_in1 13 rfl rfl, ⟨by decide +kernel, by decide +kernel⟩, by decide +kernel⟩, gt_in8 184 rfl rfl, gt_in8 185 rfl rfl⟩
set_option maxRecDepth 100000 in
theorem cv_Mo_setOut : w_CV yX12_setOut cX12_setOut 5 1 4 := ⟨⟨gt_in8 101 rfl rfl, gt_in1 13 rfl rfl, ⟨by decide +kernel, by decide +kernel⟩, by decide +kernel⟩, gt_in8 99 rfl rfl, gt_in8 100 rfl rfl⟩
set_option maxRecDepth 100000 in
theorem cv_Mo_shortest : w_CV yX12_shortest cX12_shortest 5 1 2 := ⟨⟨gt_in8 173 rfl rfl, gt_in1 13 rfl rfl, ⟨by decide +kernel, by decide +kernel⟩, by decide +kernel⟩, gt_in8 171 rfl rfl, gt_in8 172 rfl rfl⟩
set_option maxRecDepth 100000 in
theorem cv_Mo_sign : w_CV yX12_sign cX12_sign 2 1 1 := ⟨⟨gt_in7 117 rfl rfl, gt_in1 13 rfl rfl, ⟨by decide +kernel, by decide +kernel⟩, by decide +kernel⟩, gt_in7 116 rfl rfl, gt_sel 57 (by decide +kernel) rfl⟩
set_option maxRecDepth 100000 in
theorem cv_Mo_signedNumber : w_CV yX12_signedNumber cX12_signedNumber 4 1 0 := ⟨⟨gt_in7 210 rfl rfl, gt_in1 13 rfl rfl, ⟨by decide +kernel, by decide +kernel⟩, by decide +kernel⟩, gt_in7 209 rfl rfl, gt_sel 72 (by decide +kernel) rfl⟩
set_option maxRecDepth 100000 in
theorem cv_Mo_soul : w_CV yX12_soul cX12_soul 3 1 2 := ⟨⟨gt_in8 77 rfl rfl, gt_in1 13 rfl rfl, ⟨by decide +kernel, by decide +kernel⟩, by decide +kernel⟩, gt_in8 75 rfl rfl, gt_in8 76 rfl rfl⟩
set_option maxRecDepth 100000 in
theorem cv_Mo_soulMany : w_CV yX12_soulMany cX12_soulMany 1 1 0 := ⟨⟨gt_in6 92 rfl rfl, gt_in1 13 rfl rfl, ⟨by decide +kernel, by decide +kernel⟩, by decide +kernel⟩, gt_in6 91 rfl rfl, gt_sel 55 (by decide +kernel) rfl⟩
set_option maxRecDepth 100000 in
theorem cv_Mo_start : w_CV yX12_start cX12_start 2 1 1 := ⟨⟨gt_in8 153 rfl rfl, gt_in1 13 rfl rfl, ⟨by decide +kernel, by decide +kernel⟩, by decide +kernel⟩, gt_in8 151 rfl rfl, gt_in8 152 rfl rfl⟩
set_option maxRecDepth 100000 in
theorem cv_Mo_startAnew : w_CV yX12_startAnew cX12_startAnew 2 0 0 := ⟨⟨gt_in6 88 rfl rfl, gt_in1 13 rfl rfl, ⟨by decide +kernel, by decide +kernel⟩, by decide +kernel⟩, gt_in6 87 rfl rfl, gt_sel 54 (by decide +kernel) rfl⟩
set_option maxRecDepth 100000 in
theorem cv_Mo_step : w_CV yX12_step cX12_step 2 1 1 := ⟨⟨gt_in8 157 rfl rfl, gt_in1 13 rfl rfl, ⟨by decide +kernel, by decide +kernel⟩, by decide +kernel⟩, gt_in8 155 rfl rfl, gt_in8 156 rfl rfl⟩
set_option maxRecDepth 100000 in
theorem cv_Mo_take : w_CV yX12_take cX12_take 2 1 1 := ⟨⟨gt_in8 113 rfl rfl, gt_in1 13 rfl rfl, ⟨by decide +kernel, by decide +kernel⟩, by decide +kernel⟩, gt_in8 111 rfl rfl, gt_in8 112 rfl rfl⟩
set_option maxRecDepth 100000 in
theorem cv_Mo_temper : w_CV yX12_temper cX12_temper 7 1 4 := ⟨⟨gt_in9 31 rfl rfl, gt_in1 13 rfl rfl, ⟨by decide +kernel, by decide +kernel⟩, by decide +kernel⟩, gt_in9 29 rfl rfl, gt_in9 30 rfl rfl⟩
set_option maxRecDepth 100000 in
theorem cv_Mo_temperOf : w_CV yX12_temperOf cX12_temperOf 3 1 2 := ⟨⟨gt_in8 49 rfl rfl, gt_in1 13 rfl rfl, ⟨by decide +kernel, by decide +kernel⟩, by decide +kernel⟩, gt_in8 48 rfl rfl, gt_sel 89 (by decide +kernel) rfl⟩
set_option maxRecDepth 100000 in
theorem cv_Mo_toOf : w_CV yX12_toOf cX12_toOf 2 1 1 := ⟨⟨gt_in8 93 rfl rfl, gt_in1 13 rfl rfl, ⟨by decide +kernel, by decide +kernel⟩, by decide +kernel⟩, gt_in8 92 rfl rfl, gt_sel 94 (by decide +kernel) rfl⟩
set_option maxRecDepth 100000 in
theorem cv_Mo_toldLength : w_CV yX12_toldLength cX12_toldLength 5 1 3 := ⟨⟨gt_in9 50 rfl rfl, gt_in1 13 rfl rfl, ⟨by decide +kernel, by decide +kernel⟩, by decide +kernel⟩, gt_in9 49 rfl rfl, gt_sel 118 (by decide +kernel) rfl⟩
set_option maxRecDepth 100000 in
theorem cv_Mo_turned : w_CV yX12_turned cX12_turned 5 1 0 := ⟨⟨gt_in9 11 rfl rfl, gt_in1 13 rfl rfl, ⟨by decide +kernel, by decide +kernel⟩, by decide +kernel⟩, gt_in9 9 rfl rfl, gt_in9 10 rfl rfl⟩
set_option maxRecDepth 100000 in
theorem cv_Mo_two : w_CS yX12_two cX12_two 3 1 3 := ⟨⟨gt_in8 60 rfl rfl, gt_in1 13 rfl rfl, ⟨by decide +kernel, by decide +kernel⟩, by decide +kernel⟩, gt_in8 59 rfl rfl⟩
set_option maxRecDepth 100000 in
theorem cv_Mo_undo : w_CV yX12_undo cX12_undo 1 2 0 := ⟨⟨gt_in8 137 rfl rfl, gt_in1 13 rfl rfl, ⟨by decide +kernel, by decide +kernel⟩, by decide +kernel⟩, gt_in8 135 rfl rfl, gt_in8 136 rfl rfl⟩
set_option maxRecDepth 100000 in
theorem cv_Mo_unit : w_CV yX12_unit cX12_unit 7 2 0 := ⟨⟨gt_in7 238 rfl rfl, gt_in1 13 rfl rfl, ⟨by decide +kernel, by decide +kernel⟩, by decide +kernel⟩, gt_in7 237 rfl rfl, gt_sel 79 (by decide +kernel) rfl⟩
set_option maxRecDepth 100000 in
theorem cv_Mo_untell : w_CV yX12_untell cX12_untell 2 2 1 := ⟨⟨gt_in9 54 rfl rfl, gt_in1 13 rfl rfl, ⟨by decide +kernel, by decide +kernel⟩, by decide +kernel⟩, gt_in9 52 rfl rfl, gt_in9 53 rfl rfl⟩
set_option maxRecDepth 100000 in
theorem cv_Mo_walk : w_CV yX12_walk cX12_walk 2 1 1 := ⟨⟨gt_in8 133 rfl rfl, gt_in1 13 rfl rfl, ⟨by decide +kernel, by decide +kernel⟩, by decide +kernel⟩, gt_in8 131 rfl rfl, gt_in8 132 rfl rfl⟩
set_option maxRecDepth 100000 in
theorem cv_Mo_walked : w_CV yX12_walked cX12_walked 5 1 4 := ⟨⟨gt_in8 165 rfl rfl, gt_in1 13 rfl rfl, ⟨by decide +kernel, by decide +kernel⟩, by decide +kernel⟩, gt_in8 163 rfl rfl, gt_in8 164 rfl rfl⟩
set_option maxRecDepth 100000 in
theorem cv_Mo_warm : w_CS yX12_warm cX12_warm 1 1 1 := ⟨⟨gt_in8 63 rfl rfl, gt_in1 13 rfl rfl, ⟨by decide +kernel, by decide +kernel⟩, by decide +kernel⟩, gt_in8 62 rfl rfl⟩
set_option maxRecDepth 100000 in
theorem cv_Mo_way : w_CV yX12_way cX12_way 3 1 2 := ⟨⟨gt_in8 81 rfl rfl, gt_in1 13 rfl rfl, ⟨by decide +kernel, by decide +kernel⟩, by decide +kernel⟩, gt_in8 79 rfl rfl, gt_in8 80 rfl rfl⟩
set_option maxRecDepth 100000 in
theorem cv_Mo_wordHere : w_CV yX12_wordHere cX12_wordHere 1 1 0 := ⟨⟨gt_in8 2 rfl rfl, gt_in1 13 rfl rfl, ⟨by decide +kernel, by decide +kernel⟩, by decide +kernel⟩, gt_in8 1 rfl rfl, gt_sel 80 (by decide +kernel) rfl⟩
set_option maxRecDepth 100000 in
theorem cv_Mo_words : w_CV yX12_words cX12_words 6 1 1 := ⟨⟨gt_in8 125 rfl rfl, gt_in1 13 rfl rfl, ⟨by decide +kernel, by decide +kernel⟩, by decide +kernel⟩, gt_in8 123 rfl rfl, gt_in8 124 rfl rfl⟩
set_option maxRecDepth 100000 in
theorem cv_Mo_wordsInAll : w_CV yX12_wordsInAll cX12_wordsInAll 1 1 0 := ⟨⟨gt_in9 87 rfl rfl, gt_in1 13 rfl rfl, ⟨by decide +kernel, by decide +kernel⟩, by decide +kernel⟩, gt_in9 86 rfl rfl, gt_sel 121 (by decide +kernel) rfl⟩
set_option maxRecDepth 100000 in
theorem cv_Mo_year : w_CV yX12_year cX12_year 3 1 0 := ⟨⟨gt_in8 129 rfl rfl, gt_in1 13 rfl rfl, ⟨by decide +kernel, by decide +kernel⟩, by decide +kernel⟩, gt_in8 127 rfl rfl, gt_in8 128 rfl rfl⟩
set_option maxRecDepth 100000 in
theorem cv_Fi_countAdding : w_CV yX1_countAdding cX1_countAdding 6 1 2 := ⟨⟨gt_in5 96 rfl rfl, gt_in1 11 rfl rfl, ⟨by decide +kernel, by decide +kernel⟩, by decide +kernel⟩, gt_in5 94 rfl rfl, gt_in5 95 rfl rfl⟩
set_option maxRecDepth 100000 in
theorem cv_Fi_countFair : w_CV yX1_countFair cX1_countFair 6 1 0 := ⟨⟨gt_in5 106 rfl rfl, gt_in1 11 rfl rfl, ⟨by decide +kernel, by decide +kernel⟩, by decide +kernel⟩, gt_in5 104 rfl rfl, gt_in5 105 rfl rfl⟩
set_option maxRecDepth 100000 in
theorem cv_Fi_countTurned : w_CV yX1_countTurned cX1_countTurned 6 1 0 := ⟨⟨gt_in5 143 rfl rfl, gt_in1 11 rfl rfl, ⟨by decide +kernel, by decide +kernel⟩, by decide +kernel⟩, gt_in5 141 rfl rfl, gt_in5 142 rfl rfl⟩
set_option maxRecDepth 100000 in
theorem cv_Fi_coverByOne : w_CV yX1_coverByOne cX1_coverByOne 2 2 0 := ⟨⟨gt_in5 122 rfl rfl, gt_in1 11 rfl rfl, ⟨by decide +kernel, by decide +kernel⟩, by decide +kernel⟩, gt_in5 121 rfl rfl, gt_sel 37 (by decide +kernel) rfl⟩
set_option maxRecDepth 100000 in
theorem cv_Fi_coverByThree : w_CV yX1_coverByThree cX1_coverByThree 4 2 0 := ⟨⟨gt_in5 135 rfl rfl, gt_in1 11 rfl rfl, ⟨by decide +kernel, by decide +kernel⟩, by decide +kernel⟩, gt_in5 134 rfl rfl, gt_sel 40 (by decide +kernel) rfl⟩
set_option maxRecDepth 100000 in
theorem cv_Fi_coverByTwo : w_CV yX1_coverByTwo cX1_coverByTwo 3 2 0 := ⟨⟨gt_in5 131 rfl rfl, gt_in1 11 rfl rfl, ⟨by decide +kernel, by decide +kernel⟩, by decide +kernel⟩, gt_in5 130 rfl rfl, gt_sel 39 (by decide +kernel) rfl⟩
set_option maxRecDepth 100000 in
theorem cv_Fi_endsJustBehindPath : w_CV yX1_endsJustBehindPath cX1_endsJustBehindPath 2 2 1 := ⟨⟨gt_in5 68 rfl rfl, gt_in1 11 rfl rfl, ⟨by decide +kernel, by decide +kernel⟩, by decide +kernel⟩, gt_in5 67 rfl rfl, gt_sel 36 (by decide +kernel) rfl⟩
set_option maxRecDepth 100000 in
theorem cv_Fi_findPath : w_CV yX1_findPath cX1_findPath 4 1 2 := ⟨⟨gt_in5 33 rfl rfl, gt_in1 11 rfl rfl, ⟨by decide +kernel, by decide +kernel⟩, by decide +kernel⟩, gt_in5 32 rfl rfl, gt_sel 32 (by decide +kernel) rfl⟩
set_option maxRecDepth 100000 in
theorem cv_Fi_firstCovering : w_CV yX1_firstCovering cX1_firstCovering 5 1 2 := ⟨⟨gt_in5 126 rfl rfl, gt_in1 11 rfl rfl, ⟨by decide +kernel, by decide +kernel⟩, by decide +kernel⟩, gt_in5 125 rfl rfl, gt_sel 38 (by decide +kernel) rfl⟩
set_option maxRecDepth 100000 in
theorem cv_Fi_firstWayNearer : w_CV yX1_firstWayNearer cX1_firstWayNearer 4 1 1 := ⟨⟨gt_in5 45 rfl rfl, gt_in1 11 rfl rfl, ⟨by decide +kernel, by decide +kernel⟩, by decide +kernel⟩, gt_in5 44 rfl rfl, gt_sel 34 (by decide +kernel) rfl⟩
set_option maxRecDepth 100000 in
theorem cv_Fi_goesOn : w_CV yX1_goesOn cX1_goesOn 6 2 1 := ⟨⟨gt_in5 172 rfl rfl, gt_in1 11 rfl rfl, ⟨by decide +kernel, by decide +kernel⟩, by decide +kernel⟩, gt_in5 171 rfl rfl, gt_sel 43 (by decide +kernel) rfl⟩
set_option maxRecDepth 100000 in
theorem cv_Fi_init : w_CI yX1_init cX1_init 3 2 := ⟨⟨gt_in2 175 rfl rfl, gt_in1 11 rfl rfl, ⟨by decide +kernel, by decide +kernel⟩, by decide +kernel⟩, gt_in2 174 rfl rfl, rfl⟩
set_option maxRecDepth 100000 in
theorem cv_Fi_lay : w_CV yX1_lay cX1_lay 2 0 1 := ⟨⟨gt_in5 51 rfl rfl, gt_in1 11 rfl rfl, ⟨by decide +kernel, by decide +kernel⟩, by decide +kernel⟩, gt_in5 50 rfl rfl, gt_sel 35 (by decide +kernel) rfl⟩
set_option maxRecDepth 100000 in
theorem cv_Fi_layChanged : w_CV yX1_layChanged cX1_layChanged 10 2 2 := ⟨⟨gt_in5 206 rfl rfl, gt_in1 11 rfl rfl, ⟨by decide +kernel, by decide +kernel⟩, by decide +kernel⟩, gt_in5 205 rfl rfl, gt_sel 47 (by decide +kernel) rfl⟩
set_option maxRecDepth 100000 in
theorem cv_Fi_layCover : w_CV yX1_layCover cX1_layCover 1 1 0 := ⟨⟨gt_in5 118 rfl rfl, gt_in1 11 rfl rfl, ⟨by decide +kernel, by decide +kernel⟩, by decide +kernel⟩, gt_in5 116 rfl rfl, gt_in5 117 rfl rfl⟩
set_option maxRecDepth 100000 in
theorem cv_Fi_layHome : w_CV yX1_layHome cX1_layHome 6 1 4 := ⟨⟨gt_in5 163 rfl rfl, gt_in1 11 rfl rfl, ⟨by decide +kernel, by decide +kernel⟩, by decide +kernel⟩, gt_in5 161 rfl rfl, gt_in5 162 rfl rfl⟩
set_option maxRecDepth 100000 in
theorem cv_Fi_layIfLong : w_CV yX1_layIfLong cX1_layIfLong 5 2 2 := ⟨⟨gt_in5 217 rfl rfl, gt_in1 11 rfl rfl, ⟨by decide +kernel, by decide +kernel⟩, by decide +kernel⟩, gt_in5 216 rfl rfl, gt_sel 49 (by decide +kernel) rfl⟩
set_option maxRecDepth 100000 in
theorem cv_Fi_layNothing : w_CV yX1_layNothing cX1_layNothing 1 0 0 := ⟨⟨gt_in4 63 rfl rfl, gt_in1 11 rfl rfl, ⟨by decide +kernel, by decide +kernel⟩, by decide +kernel⟩, gt_in4 61 rfl rfl, gt_in4 62 rfl rfl⟩
set_option maxRecDepth 100000 in
theorem cv_Fi_layRow : w_CV yX1_layRow cX1_layRow 3 0 1 := ⟨⟨gt_in5 179 rfl rfl, gt_in1 11 rfl rfl, ⟨by decide +kernel, by decide +kernel⟩, by decide +kernel⟩, gt_in5 178 rfl rfl, gt_sel 44 (by decide +kernel) rfl⟩
set_option maxRecDepth 100000 in
theorem cv_Fi_laySent : w_CV yX1_laySent cX1_laySent 5 1 2 := ⟨⟨gt_in5 59 rfl rfl, gt_in1 11 rfl rfl, ⟨by decide +kernel, by decide +kernel⟩, by decide +kernel⟩, gt_in5 57 rfl rfl, gt_in5 58 rfl rfl⟩
set_option maxRecDepth 100000 in
theorem cv_Fi_layShortest : w_CV yX1_layShortest cX1_layShortest 5 1 2 := ⟨⟨gt_in5 28 rfl rfl, gt_in1 11 rfl rfl, ⟨by decide +kernel, by decide +kernel⟩, by decide +kernel⟩, gt_in5 26 rfl rfl, gt_in5 27 rfl rfl⟩
set_option maxRecDepth 100000 in
theorem cv_Fi_layTempers : w_CV yX1_layTempers cX1_layTempers 4 1 2 := ⟨⟨gt_in5 187 rfl rfl, gt_in1 11 rfl rfl, ⟨by decide +kernel, by decide +kernel⟩, by decide +kernel⟩, gt_in5 185 rfl rfl, gt_in5 186 rfl rfl⟩
set_option maxRecDepth 100000 in
theorem cv_Fi_lookForEndings : w_CV yX1_lookForEndings cX1_lookForEndings 4 0 0 := ⟨⟨gt_in5 114 rfl rfl, gt_in1 11 rfl rfl, ⟨by decide +kernel, by decide +kernel⟩, by decide +kernel⟩, gt_in5 112 rfl rfl, gt_in5 113 rfl rfl⟩
set_option maxRecDepth 100000 in
theorem cv_Fi_lookHowFar : w_CV yX1_lookHowFar cX1_lookHowFar 6 0 1 := ⟨⟨gt_in5 38 rfl rfl, gt_in1 11 rfl rfl, ⟨by decide +kernel, by decide +kernel⟩, by decide +kernel⟩, gt_in5 37 rfl rfl, gt_sel 33 (by decide +kernel) rfl⟩
set_option maxRecDepth 100000 in
theorem cv_Fi_measurePath : w_CV yX1_measurePath cX1_measurePath 3 1 1 := ⟨⟨gt_in5 87 rfl rfl, gt_in1 11 rfl rfl, ⟨by decide +kernel, by decide +kernel⟩, by decide +kernel⟩, gt_in5 85 rfl rfl, gt_in5 86 rfl rfl⟩
set_option maxRecDepth 100000 in
theorem cv_Fi_openLength : w_CV yX1_openLength cX1_openLength 2 1 1 := ⟨⟨gt_in5 147 rfl rfl, gt_in1 11 rfl rfl, ⟨by decide +kernel, by decide +kernel⟩, by decide +kernel⟩, gt_in5 146 rfl rfl, gt_sel 41 (by decide +kernel) rfl⟩
set_option maxRecDepth 100000 in
theorem cv_Fi_searchHome : w_CV yX1_searchHome cX1_searchHome 4 0 1 := ⟨⟨gt_in5 168 rfl rfl, gt_in1 11 rfl rfl, ⟨by decide +kernel, by decide +kernel⟩, by decide +kernel⟩, gt_in5 167 rfl rfl, gt_sel 42 (by decide +kernel) rfl⟩
set_option maxRecDepth 100000 in
theorem cv_Fi_setBounds : w_CV yX1_setBounds cX1_setBounds 6 0 1 := ⟨⟨gt_in5 191 rfl rfl, gt_in1 11 rfl rfl, ⟨by decide +kernel, by decide +kernel⟩, by decide +kernel⟩, gt_in5 190 rfl rfl, gt_sel 45 (by decide +kernel) rfl⟩
set_option maxRecDepth 100000 in
theorem cv_Fi_setPath : w_CV yX1_setPath cX1_setPath 3 0 2 := ⟨⟨gt_in5 82 rfl rfl, gt_in1 11 rfl rfl, ⟨by decide +kernel, by decide +kernel⟩, by decide +kernel⟩, gt_in5 80 rfl rfl, gt_in5 81 rfl rfl⟩
set_option maxRecDepth 100000 in
theorem cv_Fi_tellLying : w_CV yX1_tellLying cX1_tellLying 2 1 1 := ⟨⟨gt_in5 225 rfl rfl, gt_in1 11 rfl rfl, ⟨by decide +kernel, by decide +kernel⟩, by decide +kernel⟩, gt_in5 223 rfl rfl, gt_in5 224 rfl rfl⟩
set_option maxRecDepth 100000 in
theorem cv_Fi_temperAt : w_CS yX1_temperAt cX1_temperAt 3 1 2 := ⟨⟨gt_in5 202 rfl rfl, gt_in1 11 rfl rfl, ⟨by decide +kernel, by decide +kernel⟩, by decide +kernel⟩, gt_in5 201 rfl rfl⟩
set_option maxRecDepth 100000 in
theorem cv_Fi_temperNow : w_CV yX1_temperNow cX1_temperNow 4 1 2 := ⟨⟨gt_in5 199 rfl rfl, gt_in1 11 rfl rfl, ⟨by decide +kernel, by decide +kernel⟩, by decide +kernel⟩, gt_in5 198 rfl rfl, gt_sel 46 (by decide +kernel) rfl⟩
set_option maxRecDepth 100000 in
theorem cv_Fi_tryTemper : w_CV yX1_tryTemper cX1_tryTemper 5 0 3 := ⟨⟨gt_in5 213 rfl rfl, gt_in1 11 rfl rfl, ⟨by decide +kernel, by decide +kernel⟩, by decide +kernel⟩, gt_in5 212 rfl rfl, gt_sel 48 (by decide +kernel) rfl⟩
set_option maxRecDepth 100000 in
theorem cv_Fo_add : w_CV yX2_add cX2_add 2 0 1 := ⟨⟨gt_in4 22 rfl rfl, gt_in1 3 rfl rfl, ⟨by decide +kernel, by decide +kernel⟩, by decide +kernel⟩, gt_in4 21 rfl rfl, gt_sel 22 (by decide +kernel) rfl⟩
set_option maxRecDepth 100000 in
theorem cv_Fo_addKnown : w_CV yX2_addKnown cX2_addKnown 2 0 1 := ⟨⟨gt_in4 49 rfl rfl, gt_in1 3 rfl rfl, ⟨by decide +kernel, by decide +kernel⟩, by decide +kernel⟩, gt_in4 47 rfl rfl, gt_in4 48 rfl rfl⟩
set_option maxRecDepth 100000 in
theorem cv_Fo_addNumber : w_CV yX2_addNumber cX2_addNumber 2 0 1 := ⟨⟨gt_in4 45 rfl rfl, gt_in1 3 rfl rfl, ⟨by decide +kernel, by decide +kernel⟩, by decide +kernel⟩, gt_in4 43 rfl rfl, gt_in4 44 rfl rfl⟩
set_option maxRecDepth 100000 in
theorem cv_Fo_addOperator : w_CV yX2_addOperator cX2_addOperator 2 0 1 := ⟨⟨gt_in4 18 rfl rfl, gt_in1 3 rfl rfl, ⟨by decide +kernel, by decide +kernel⟩, by decide +kernel⟩, gt_in4 16 rfl rfl, gt_in4 17 rfl rfl⟩
set_option maxRecDepth 100000 in
theorem cv_Fo_answer : w_CV yX2_answer cX2_answer 6 1 2 := ⟨⟨gt_in4 123 rfl rfl, gt_in1 3 rfl rfl, ⟨by decide +kernel, by decide +kernel⟩, by decide +kernel⟩, gt_in4 121 rfl rfl, gt_in4 122 rfl rfl⟩
set_option maxRecDepth 100000 in
theorem cv_Fo_asksFor : w_CV yX2_asksFor cX2_asksFor 3 2 1 := ⟨⟨gt_in5 195 rfl rfl, gt_in1 3 rfl rfl, ⟨by decide +kernel, by decide +kernel⟩, by decide +kernel⟩, gt_in5 193 rfl rfl, gt_in5 194 rfl rfl⟩
set_option maxRecDepth 100000 in
theorem cv_Fo_clear : w_CV yX2_clear cX2_clear 1 0 0 := ⟨⟨gt_in3 93 rfl rfl, gt_in1 3 rfl rfl, ⟨by decide +kernel, by decide +kernel⟩, by decide +kernel⟩, gt_in3 91 rfl rfl, gt_in3 92 rfl rfl⟩
set_option maxRecDepth 100000 in
theorem cv_Fo_init : w_CI yX2_init cX2_init 1 0 := ⟨⟨gt_in1 38 rfl rfl, gt_in1 3 rfl rfl, ⟨by decide +kernel, by decide +kernel⟩, by decide +kernel⟩, gt_in1 37 rfl rfl, rfl⟩
set_option maxRecDepth 100000 in
theorem cv_Fo_isTold : w_CV yX2_isTold cX2_isTold 1 2 0 := ⟨⟨gt_in3 238 rfl rfl, gt_in1 3 rfl rfl, ⟨by decide +kernel, by decide +kernel⟩, by decide +kernel⟩, gt_in3 236 rfl rfl, gt_in3 237 rfl rfl⟩
set_option maxRecDepth 100000 in
theorem cv_Fo_join : w_CS yX2_join cX2_join 3 1 3 := ⟨⟨gt_in4 126 rfl rfl, gt_in1 3 rfl rfl, ⟨by decide +kernel, by decide +kernel⟩, by decide +kernel⟩, gt_in4 125 rfl rfl⟩
set_option maxRecDepth 100000 in
theorem cv_FR_await : w_CV yX3_await cX3_await 2 2 1 := ⟨⟨gt_in4 30 rfl rfl, gt_in1 6 rfl rfl, ⟨by decide +kernel, by decide +kernel⟩, by decide +kernel⟩, gt_in4 29 rfl rfl, gt_sel 24 (by decide +kernel) rfl⟩
set_option maxRecDepth 100000 in
theorem cv_FR_bindingOf : w_CS yX3_bindingOf cX3_bindingOf 1 1 1 := ⟨⟨gt_in4 14 rfl rfl, gt_in1 6 rfl rfl, ⟨by decide +kernel, by decide +kernel⟩, by decide +kernel⟩, gt_in4 13 rfl rfl⟩
set_option maxRecDepth 100000 in
theorem cv_FR_bindingOnTop : w_CV yX3_bindingOnTop cX3_bindingOnTop 1 1 0 := ⟨⟨gt_in4 11 rfl rfl, gt_in1 6 rfl rfl, ⟨by decide +kernel, by decide +kernel⟩, by decide +kernel⟩, gt_in4 10 rfl rfl, gt_sel 21 (by decide +kernel) rfl⟩
set_option maxRecDepth 100000 in
theorem cv_FR_init : w_CI yX3_init cX3_init 2 1 := ⟨⟨gt_in1 213 rfl rfl, gt_in1 6 rfl rfl, ⟨by decide +kernel, by decide +kernel⟩, by decide +kernel⟩, gt_in1 212 rfl rfl, rfl⟩
set_option maxRecDepth 100000 in
theorem cv_FR_knownBy : w_CS yX3_knownBy cX3_knownBy 1 1 1 := ⟨⟨gt_in4 41 rfl rfl, gt_in1 6 rfl rfl, ⟨by decide +kernel, by decide +kernel⟩, by decide +kernel⟩, gt_in4 40 rfl rfl⟩
set_option maxRecDepth 100000 in
theorem cv_FR_nest : w_CV yX3_nest cX3_nest 2 2 1 := ⟨⟨gt_in4 38 rfl rfl, gt_in1 6 rfl rfl, ⟨by decide +kernel, by decide +kernel⟩, by decide +kernel⟩, gt_in4 37 rfl rfl, gt_sel 26 (by decide +kernel) rfl⟩
set_option maxRecDepth 100000 in
theorem cv_FR_readBehindUnit : w_CV yX3_readBehindUnit cX3_readBehindUnit 4 1 1 := ⟨⟨gt_in4 26 rfl rfl, gt_in1 6 rfl rfl, ⟨by decide +kernel, by decide +kernel⟩, by decide +kernel⟩, gt_in4 25 rfl rfl, gt_sel 23 (by decide +kernel) rfl⟩
set_option maxRecDepth 100000 in
theorem cv_FR_readFormula : w_CV yX3_readFormula cX3_readFormula 4 2 1 := ⟨⟨gt_in4 2 rfl rfl, gt_in1 6 rfl rfl, ⟨by decide +kernel, by decide +kernel⟩, by decide +kernel⟩, gt_in4 0 rfl rfl, gt_in4 1 rfl rfl⟩
set_option maxRecDepth 100000 in
theorem cv_FR_readUnit : w_CV yX3_readUnit cX3_readUnit 5 1 2 := ⟨⟨gt_in4 34 rfl rfl, gt_in1 6 rfl rfl, ⟨by decide +kernel, by decide +kernel⟩, by decide +kernel⟩, gt_in4 33 rfl rfl, gt_sel 25 (by decide +kernel) rfl⟩
set_option maxRecDepth 100000 in
theorem cv_FR_settle : w_CV yX3_settle cX3_settle 3 0 2 := ⟨⟨gt_in4 7 rfl rfl, gt_in1 6 rfl rfl, ⟨by decide +kernel, by decide +kernel⟩, by decide +kernel⟩, gt_in4 6 rfl rfl, gt_sel 20 (by decide +kernel) rfl⟩
set_option maxRecDepth 100000 in
theorem cv_La_clear : w_CV yX4_clear cX4_clear 1 0 0 := ⟨⟨gt_in3 89 rfl rfl, gt_in1 2 rfl rfl, ⟨by decide +kernel, by decide +kernel⟩, by decide +kernel⟩, gt_in3 87 rfl rfl, gt_in3 88 rfl rfl⟩
set_option maxRecDepth 100000 in
theorem cv_La_couple : w_CV yX4_couple cX4_couple 4 1 3 := ⟨⟨gt_in4 95 rfl rfl, gt_in1 2 rfl rfl, ⟨by decide +kernel, by decide +kernel⟩, by decide +kernel⟩, gt_in4 93 rfl rfl, gt_in4 94 rfl rfl⟩
set_option maxRecDepth 100000 in
theorem cv_La_init : w_CI yX4_init cX4_init 1 0 := ⟨⟨gt_in1 32 rfl rfl, gt_in1 2 rfl rfl, ⟨by decide +kernel, by decide +kernel⟩, by decide +kernel⟩, gt_in1 31 rfl rfl, rfl⟩
set_option maxRecDepth 100000 in
theorem cv_La_isCouple : w_CV yX4_isCouple cX4_isCouple 2 2 1 := ⟨⟨gt_in5 63 rfl rfl, gt_in1 2 rfl rfl, ⟨by decide +kernel, by decide +kernel⟩, by decide +kernel⟩, gt_in5 61 rfl rfl, gt_in5 62 rfl rfl⟩
set_option maxRecDepth 100000 in
theorem cv_La_isMatter : w_CV yX4_isMatter cX4_isMatter 2 2 1 := ⟨⟨gt_in4 100 rfl rfl, gt_in1 2 rfl rfl, ⟨by decide +kernel, by decide +kernel⟩, by decide +kernel⟩, gt_in4 98 rfl rfl, gt_in4 99 rfl rfl⟩
set_option maxRecDepth 100000 in
theorem cv_La_isPlace : w_CV yX4_isPlace cX4_isPlace 2 2 1 := ⟨⟨gt_in4 141 rfl rfl, gt_in1 2 rfl rfl, ⟨by decide +kernel, by decide +kernel⟩, by decide +kernel⟩, gt_in4 139 rfl rfl, gt_in4 140 rfl rfl⟩
set_option maxRecDepth 100000 in
theorem cv_La_isSoul : w_CV yX4_isSoul cX4_isSoul 2 2 1 := ⟨⟨gt_in4 79 rfl rfl, gt_in1 2 rfl rfl, ⟨by decide +kernel, by decide +kernel⟩, by decide +kernel⟩, gt_in4 77 rfl rfl, gt_in4 78 rfl rfl⟩
set_option maxRecDepth 100000 in
theorem cv_La_isWay : w_CV yX4_isWay cX4_isWay 2 2 1 := ⟨⟨gt_in4 87 rfl rfl, gt_in1 2 rfl rfl, ⟨by decide +kernel, by decide +kernel⟩, by decide +kernel⟩, gt_in4 85 rfl rfl, gt_in4 86 rfl rfl⟩
set_option maxRecDepth 100000 in
theorem cv_La_otherEnd : w_CV yX4_otherEnd cX4_otherEnd 3 1 2 := ⟨⟨gt_in4 163 rfl rfl, gt_in1 2 rfl rfl, ⟨by decide +kernel, by decide +kernel⟩, by decide +kernel⟩, gt_in4 161 rfl rfl, gt_in4 162 rfl rfl⟩
set_option maxRecDepth 100000 in
theorem cv_Re_expect : w_CV yX5_expect cX5_expect 2 2 1 := ⟨⟨gt_in3 206 rfl rfl, gt_in1 4 rfl rfl, ⟨by decide +kernel, by decide +kernel⟩, by decide +kernel⟩, gt_in3 205 rfl rfl, gt_sel 12 (by decide +kernel) rfl⟩
set_option maxRecDepth 100000 in
theorem cv_Re_fail : w_CV yX5_fail cX5_fail 3 2 2 := ⟨⟨gt_in3 190 rfl rfl, gt_in1 4 rfl rfl, ⟨by decide +kernel, by decide +kernel⟩, by decide +kernel⟩, gt_in3 189 rfl rfl, gt_sel 9 (by decide +kernel) rfl⟩
set_option maxRecDepth 100000 in
theorem cv_Re_indexOf : w_CS yX5_indexOf cX5_indexOf 5 1 3 := ⟨⟨gt_in3 198 rfl rfl, gt_in1 4 rfl rfl, ⟨by decide +kernel, by decide +kernel⟩, by decide +kernel⟩, gt_in3 197 rfl rfl⟩
set_option maxRecDepth 100000 in
theorem cv_Re_init : w_CI yX5_init cX5_init 2 1 := ⟨⟨gt_in1 207 rfl rfl, gt_in1 4 rfl rfl, ⟨by decide +kernel, by decide +kernel⟩, by decide +kernel⟩, gt_in1 206 rfl rfl, rfl⟩
set_option maxRecDepth 100000 in
theorem cv_Re_readDraw : w_CV yX5_readDraw cX5_readDraw 2 2 1 := ⟨⟨gt_in4 54 rfl rfl, gt_in1 4 rfl rfl, ⟨by decide +kernel, by decide +kernel⟩, by decide +kernel⟩, gt_in4 53 rfl rfl, gt_sel 27 (by decide +kernel) rfl⟩
set_option maxRecDepth 100000 in
theorem cv_Re_readLand : w_CV yX5_readLand cX5_readLand 5 2 2 := ⟨⟨gt_in3 85 rfl rfl, gt_in1 4 rfl rfl, ⟨by decide +kernel, by decide +kernel⟩, by decide +kernel⟩, gt_in3 83 rfl rfl, gt_in3 84 rfl rfl⟩
set_option maxRecDepth 100000 in
theorem cv_Re_readMatter : w_CV yX5_readMatter cX5_readMatter 4 2 1 := ⟨⟨gt_in3 230 rfl rfl, gt_in1 4 rfl rfl, ⟨by decide +kernel, by decide +kernel⟩, by decide +kernel⟩, gt_in3 229 rfl rfl, gt_sel 18 (by decide +kernel) rfl⟩
set_option maxRecDepth 100000 in
theorem cv_Re_readNewName : w_CV yX5_readNewName cX5_readNewName 3 2 2 := ⟨⟨gt_in3 195 rfl rfl, gt_in1 4 rfl rfl, ⟨by decide +kernel, by decide +kernel⟩, by decide +kernel⟩, gt_in3 194 rfl rfl, gt_sel 10 (by decide +kernel) rfl⟩
set_option maxRecDepth 100000 in
theorem cv_Re_readNumber : w_CV yX5_readNumber cX5_readNumber 3 2 2 := ⟨⟨gt_in3 210 rfl rfl, gt_in1 4 rfl rfl, ⟨by decide +kernel, by decide +kernel⟩, by decide +kernel⟩, gt_in3 209 rfl rfl, gt_sel 13 (by decide +kernel) rfl⟩
set_option maxRecDepth 100000 in
theorem cv_Re_readNumberBehind : w_CV yX5_readNumberBehind cX5_readNumberBehind 4 2 3 := ⟨⟨gt_in3 202 rfl rfl, gt_in1 4 rfl rfl, ⟨by decide +kernel, by decide +kernel⟩, by decide +kernel⟩, gt_in3 201 rfl rfl, gt_sel 11 (by decide +kernel) rfl⟩
set_option maxRecDepth 100000 in
theorem cv_Re_readPlace : w_CV yX5_readPlace cX5_readPlace 3 2 1 := ⟨⟨gt_in3 182 rfl rfl, gt_in1 4 rfl rfl, ⟨by decide +kernel, by decide +kernel⟩, by decide +kernel⟩, gt_in3 181 rfl rfl, gt_sel 7 (by decide +kernel) rfl⟩
set_option maxRecDepth 100000 in
theorem cv_Re_readPlaceName : w_CV yX5_readPlaceName cX5_readPlaceName 4 2 2 := ⟨⟨gt_in3 218 rfl rfl, gt_in1 4 rfl rfl, ⟨by decide +kernel, by decide +kernel⟩, by decide +kernel⟩, gt_in3 217 rfl rfl, gt_sel 15 (by decide +kernel) rfl⟩
set_option maxRecDepth 100000 in
theorem cv_Re_readRule : w_CV yX5_readRule cX5_readRule 2 2 1 := ⟨⟨gt_in3 234 rfl rfl, gt_in1 4 rfl rfl, ⟨by decide +kernel, by decide +kernel⟩, by decide +kernel⟩, gt_in3 233 rfl rfl, gt_sel 19 (by decide +kernel) rfl⟩
set_option maxRecDepth 100000 in
theorem cv_Re_readSight : w_CV yX5_readSight cX5_readSight 3 2 0 := ⟨⟨gt_in3 222 rfl rfl, gt_in1 4 rfl rfl, ⟨by decide +kernel, by decide +kernel⟩, by decide +kernel⟩, gt_in3 221 rfl rfl, gt_sel 16 (by decide +kernel) rfl⟩
set_option maxRecDepth 100000 in
theorem cv_Re_readSoul : w_CV yX5_readSoul cX5_readSoul 3 2 1 := ⟨⟨gt_in3 226 rfl rfl, gt_in1 4 rfl rfl, ⟨by decide +kernel, by decide +kernel⟩, by decide +kernel⟩, gt_in3 225 rfl rfl, gt_sel 17 (by decide +kernel) rfl⟩
set_option maxRecDepth 100000 in
theorem cv_Re_readWay : w_CV yX5_readWay cX5_readWay 3 2 1 := ⟨⟨gt_in3 214 rfl rfl, gt_in1 4 rfl rfl, ⟨by decide +kernel, by decide +kernel⟩, by decide +kernel⟩, gt_in3 213 rfl rfl, gt_sel 14 (by decide +kernel) rfl⟩
set_option maxRecDepth 100000 in
theorem cv_Re_refuse : w_CV yX5_refuse cX5_refuse 1 2 0 := ⟨⟨gt_in3 186 rfl rfl, gt_in1 4 rfl rfl, ⟨by decide +kernel, by decide +kernel⟩, by decide +kernel⟩, gt_in3 185 rfl rfl, gt_sel 8 (by decide +kernel) rfl⟩
set_option maxRecDepth 100000 in
theorem cv_Rp_findQuestion : w_CV yX6_findQuestion cX6_findQuestion 9 1 2 := ⟨⟨gt_in6 37 rfl rfl, gt_in1 12 rfl rfl, ⟨by decide +kernel, by decide +kernel⟩, by decide +kernel⟩, gt_in6 35 rfl rfl, gt_in6 36 rfl rfl⟩
set_option maxRecDepth 100000 in
theorem cv_Rp_forget : w_CV yX6_forget cX6_forget 1 0 0 := ⟨⟨gt_in4 67 rfl rfl, gt_in1 12 rfl rfl, ⟨by decide +kernel, by decide +kernel⟩, by decide +kernel⟩, gt_in4 65 rfl rfl, gt_in4 66 rfl rfl⟩
set_option maxRecDepth 100000 in
theorem cv_Rp_init : w_CI yX6_init cX6_init 2 1 := ⟨⟨gt_in3 7 rfl rfl, gt_in1 12 rfl rfl, ⟨by decide +kernel, by decide +kernel⟩, by decide +kernel⟩, gt_in3 6 rfl rfl, rfl⟩
set_option maxRecDepth 100000 in
theorem cv_Rp_mostLeft : w_CV yX6_mostLeft cX6_mostLeft 7 1 2 := ⟨⟨gt_in6 43 rfl rfl, gt_in1 12 rfl rfl, ⟨by decide +kernel, by decide +kernel⟩, by decide +kernel⟩, gt_in6 42 rfl rfl, gt_sel 51 (by decide +kernel) rfl⟩
set_option maxRecDepth 100000 in
theorem cv_Rp_passTime : w_CV yX6_passTime cX6_passTime 2 1 1 := ⟨⟨gt_in6 20 rfl rfl, gt_in1 12 rfl rfl, ⟨by decide +kernel, by decide +kernel⟩, by decide +kernel⟩, gt_in6 18 rfl rfl, gt_in6 19 rfl rfl⟩
set_option maxRecDepth 100000 in
theorem cv_Rp_roadsBy : w_CS yX6_roadsBy cX6_roadsBy 6 3 2 := ⟨⟨gt_in6 2 rfl rfl, gt_in1 12 rfl rfl, ⟨by decide +kernel, by decide +kernel⟩, by decide +kernel⟩, gt_in6 1 rfl rfl⟩
set_option maxRecDepth 100000 in
theorem cv_Rp_roadsKnownAt : w_CV yX6_roadsKnownAt cX6_roadsKnownAt 6 3 1 := ⟨⟨gt_in6 29 rfl rfl, gt_in1 12 rfl rfl, ⟨by decide +kernel, by decide +kernel⟩, by decide +kernel⟩, gt_in6 27 rfl rfl, gt_in6 28 rfl rfl⟩
set_option maxRecDepth 100000 in
theorem cv_Rp_takeBack : w_CV yX6_takeBack cX6_takeBack 2 2 1 := ⟨⟨gt_in6 12 rfl rfl, gt_in1 12 rfl rfl, ⟨by decide +kernel, by decide +kernel⟩, by decide +kernel⟩, gt_in6 10 rfl rfl, gt_in6 11 rfl rfl⟩
set_option maxRecDepth 100000 in
theorem cv_Rp_tell : w_CV yX6_tell cX6_tell 3 1 2 := ⟨⟨gt_in5 233 rfl rfl, gt_in1 12 rfl rfl, ⟨by decide +kernel, by decide +kernel⟩, by decide +kernel⟩, gt_in5 231 rfl rfl, gt_in5 232 rfl rfl⟩
set_option maxRecDepth 100000 in
theorem cv_Rp_toldLength : w_CV yX6_toldLength cX6_toldLength 3 1 1 := ⟨⟨gt_in5 237 rfl rfl, gt_in1 12 rfl rfl, ⟨by decide +kernel, by decide +kernel⟩, by decide +kernel⟩, gt_in5 236 rfl rfl, gt_sel 50 (by decide +kernel) rfl⟩
set_option maxRecDepth 100000 in
theorem cv_Ro_append : w_CV yX7_append cX7_append 4 2 2 := ⟨⟨gt_in4 239 rfl rfl, gt_in1 9 rfl rfl, ⟨by decide +kernel, by decide +kernel⟩, by decide +kernel⟩, gt_in4 237 rfl rfl, gt_in4 238 rfl rfl⟩
set_option maxRecDepth 100000 in
theorem cv_Ro_init : w_CI yX7_init cX7_init 1 0 := ⟨⟨gt_in2 123 rfl rfl, gt_in1 9 rfl rfl, ⟨by decide +kernel, by decide +kernel⟩, by decide +kernel⟩, gt_in2 122 rfl rfl, rfl⟩
set_option maxRecDepth 100000 in
theorem cv_Ro_reset : w_CV yX7_reset cX7_reset 2 0 1 := ⟨⟨gt_in4 59 rfl rfl, gt_in1 9 rfl rfl, ⟨by decide +kernel, by decide +kernel⟩, by decide +kernel⟩, gt_in4 57 rfl rfl, gt_in4 58 rfl rfl⟩
set_option maxRecDepth 100000 in
theorem cv_St_begin : w_CV yX8_begin cX8_begin 2 0 1 := ⟨⟨gt_in5 8 rfl rfl, gt_in1 10 rfl rfl, ⟨by decide +kernel, by decide +kernel⟩, by decide +kernel⟩, gt_in5 6 rfl rfl, gt_in5 7 rfl rfl⟩
set_option maxRecDepth 100000 in
theorem cv_St_goOn : w_CV yX8_goOn cX8_goOn 5 2 2 := ⟨⟨gt_in5 13 rfl rfl, gt_in1 10 rfl rfl, ⟨by decide +kernel, by decide +kernel⟩, by decide +kernel⟩, gt_in5 11 rfl rfl, gt_in5 12 rfl rfl⟩
set_option maxRecDepth 100000 in
theorem cv_St_init : w_CI yX8_init cX8_init 2 1 := ⟨⟨gt_in2 150 rfl rfl, gt_in1 10 rfl rfl, ⟨by decide +kernel, by decide +kernel⟩, by decide +kernel⟩, gt_in2 149 rfl rfl, rfl⟩
set_option maxRecDepth 100000 in
theorem cv_St_isAtEnd : w_CV yX8_isAtEnd cX8_isAtEnd 3 2 1 := ⟨⟨gt_in5 74 rfl rfl, gt_in1 10 rfl rfl, ⟨by decide +kernel, by decide +kernel⟩, by decide +kernel⟩, gt_in5 72 rfl rfl, gt_in5 73 rfl rfl⟩
set_option maxRecDepth 100000 in
theorem cv_St_lengthOf : w_CV yX8_lengthOf cX8_lengthOf 2 1 1 := ⟨⟨gt_in5 17 rfl rfl, gt_in1 10 rfl rfl, ⟨by decide +kernel, by decide +kernel⟩, by decide +kernel⟩, gt_in5 16 rfl rfl, gt_sel 31 (by decide +kernel) rfl⟩
set_option maxRecDepth 100000 in
theorem cv_Ta_begin : w_CV yX9_begin cX9_begin 4 0 1 := ⟨⟨gt_in4 104 rfl rfl, gt_in1 8 rfl rfl, ⟨by decide +kernel, by decide +kernel⟩, by decide +kernel⟩, gt_in4 102 rfl rfl, gt_in4 103 rfl rfl⟩
set_option maxRecDepth 100000 in
theorem cv_Ta_bring : w_CV yX9_bring cX9_bring 4 0 2 := ⟨⟨gt_in4 219 rfl rfl, gt_in1 8 rfl rfl, ⟨by decide +kernel, by decide +kernel⟩, by decide +kernel⟩, gt_in4 217 rfl rfl, gt_in4 218 rfl rfl⟩
set_option maxRecDepth 100000 in
theorem cv_Ta_init : w_CI yX9_init cX9_init 2 1 := ⟨⟨gt_in2 22 rfl rfl, gt_in1 8 rfl rfl, ⟨by decide +kernel, by decide +kernel⟩, by decide +kernel⟩, gt_in2 21 rfl rfl, rfl⟩
set_option maxRecDepth 100000 in
theorem cv_Ta_isOver : w_CV yX9_isOver cX9_isOver 1 2 0 := ⟨⟨gt_in4 114 rfl rfl, gt_in1 8 rfl rfl, ⟨by decide +kernel, by decide +kernel⟩, by decide +kernel⟩, gt_in4 112 rfl rfl, gt_in4 113 rfl rfl⟩
set_option maxRecDepth 100000 in
theorem cv_Ta_put : w_CV yX9_put cX9_put 4 0 2 := ⟨⟨gt_in2 71 rfl rfl, gt_in1 8 rfl rfl, ⟨by decide +kernel, by decide +kernel⟩, by decide +kernel⟩, gt_in2 69 rfl rfl, gt_in2 70 rfl rfl⟩
set_option maxRecDepth 100000 in
theorem cv_Ta_say : w_CV yX9_say cX9_say 5 0 1 := ⟨⟨gt_in4 118 rfl rfl, gt_in1 8 rfl rfl, ⟨by decide +kernel, by decide +kernel⟩, by decide +kernel⟩, gt_in4 116 rfl rfl, gt_in4 117 rfl rfl⟩
set_option maxRecDepth 100000 in
theorem cv_Ta_sayOnWay : w_CV yX9_sayOnWay cX9_sayOnWay 5 0 4 := ⟨⟨gt_in4 181 rfl rfl, gt_in1 8 rfl rfl, ⟨by decide +kernel, by decide +kernel⟩, by decide +kernel⟩, gt_in4 179 rfl rfl, gt_in4 180 rfl rfl⟩
set_option maxRecDepth 100000 in
theorem cv_Ta_talkOpenly : w_CV yX9_talkOpenly cX9_talkOpenly 4 1 2 := ⟨⟨gt_in4 110 rfl rfl, gt_in1 8 rfl rfl, ⟨by decide +kernel, by decide +kernel⟩, by decide +kernel⟩, gt_in4 108 rfl rfl, gt_in4 109 rfl rfl⟩
set_option maxRecDepth 100000 in
theorem ms_mmax : Cond.static Lib.Math.max.name ∈ GT ∧ Cond.initialized "java/lang/Math" ∈ GT ∧ Cond.code Lib.Math.max.name Lib.Math.max.code 2 (some .int) ∈ GT := ⟨gt_in4 185 rfl rfl, gt_in1 18 rfl rfl, gt_in4 186 rfl rfl⟩
set_option maxRecDepth 100000 in
theorem ms_mmin : Cond.static Lib.Math.min.name ∈ GT ∧ Cond.initialized "java/lang/Math" ∈ GT ∧ Cond.code Lib.Math.min.name Lib.Math.min.code 2 (some .int) ∈ GT := ⟨gt_in4 128 rfl rfl, gt_in1 18 rfl rfl, gt_in4 129 rfl rfl⟩
set_option maxRecDepth 100000 in
theorem ms_mabs : Cond.static Lib.Math.abs.name ∈ GT ∧ Cond.initialized "java/lang/Math" ∈ GT ∧ Cond.code Lib.Math.abs.name Lib.Math.abs.code 1 (some .int) ∈ GT := ⟨gt_in5 208 rfl rfl, gt_in1 18 rfl rfl, gt_in5 209 rfl rfl⟩
theorem nst_X10 {aS aV : Nat} {A : Nat → Prop} : ∀ U : State, w_EV aS aV A U → va_Nw (.methodLinkNest RX10 15 yX11_within RX11) U := fun _ h => h.2.2.1
theorem nst_X9 {aS aV : Nat} {A : Nat → Prop} : ∀ U : State, w_EV aS aV A U → va_Nw (.methodLinkNest RX9 44 yX11_within RX11) U := fun _ h => h.2.2.2.1
def rm_Ea_beginAnew : Room := { frames := 3, cells := 0, slots := 0, locals := 66 }
def rm_Ea_beginWalk : Room := { frames := 3, cells := 0, slots := 0, locals := 66 }
def rm_Ea_takeWay : Room := { frames := 3, cells := 0, slots := 0, locals := 66 }
def rm_Ea_sayWords : Room := { frames := 5, cells := 0, slots := 0, locals := 116 }
def rm_Ea_sayOne : Room := { frames := 4, cells := 0, slots := 0, locals := 95 }
def rm_Ea_passYear : Room := { frames := 3, cells := 0, slots := 0, locals := 66 }
def rm_Ea_tellWalk : Room := { frames := 1, cells := 0, slots := 0, locals := 20 }
def rm_Ea_takeBack : Room := { frames := 2, cells := 0, slots := 0, locals := 46 }
def rm_Ea_doAgain : Room := { frames := 2, cells := 0, slots := 0, locals := 46 }
def rm_Ea_keep : Room := { frames := 2, cells := 0, slots := 0, locals := 46 }
def rm_Ea_goBack : Room := { frames := 3, cells := 0, slots := 0, locals := 66 }
def rm_Ea_wordsInAll : Room := { frames := 0, cells := 0, slots := 0, locals := 0 }
def rm_Ea_forgetActs : Room := { frames := 2, cells := 0, slots := 0, locals := 46 }
def rm_Ea_keepAct : Room := { frames := 2, cells := 0, slots := 0, locals := 46 }
def rm_Ea_slot : Room := { frames := 0, cells := 0, slots := 0, locals := 0 }
def rm_Ea_put : Room := { frames := 1, cells := 0, slots := 0, locals := 23 }
def rm_Ea_bring : Room := { frames := 1, cells := 0, slots := 0, locals := 23 }
def rm_Fi_layNothing : Room := { frames := 0, cells := 0, slots := 0, locals := 0 }
def rm_Fi_lay : Room := { frames := 0, cells := 0, slots := 0, locals := 0 }
def rm_Fi_tellLying : Room := { frames := 0, cells := 0, slots := 0, locals := 0 }
def rm_Fi_layShortest : Room := { frames := 4, cells := 0, slots := 0, locals := 89 }
def rm_Fi_findPath : Room := { frames := 3, cells := 0, slots := 0, locals := 66 }
def rm_Fi_lookHowFar : Room := { frames := 1, cells := 0, slots := 0, locals := 21 }
def rm_Fi_firstWayNearer : Room := { frames := 2, cells := 0, slots := 0, locals := 43 }
def rm_Fi_laySent : Room := { frames := 6, cells := 0, slots := 0, locals := 140 }
def rm_Fi_endsJustBehindPath : Room := { frames := 5, cells := 0, slots := 0, locals := 119 }
def rm_Fi_setPath : Room := { frames := 3, cells := 0, slots := 0, locals := 66 }
def rm_Fi_measurePath : Room := { frames := 5, cells := 0, slots := 0, locals := 119 }
def rm_Fi_countAdding : Room := { frames := 6, cells := 0, slots := 0, locals := 141 }
def rm_Fi_countFair : Room := { frames := 6, cells := 0, slots := 0, locals := 141 }
def rm_Fi_lookForEndings : Room := { frames := 6, cells := 0, slots := 0, locals := 140 }
def rm_Fi_layCover : Room := { frames := 3, cells := 0, slots := 0, locals := 68 }
def rm_Fi_coverByOne : Room := { frames := 2, cells := 0, slots := 0, locals := 45 }
def rm_Fi_coverByTwo : Room := { frames := 2, cells := 0, slots := 0, locals := 45 }
def rm_Fi_coverByThree : Room := { frames := 2, cells := 0, slots := 0, locals := 45 }
def rm_Fi_firstCovering : Room := { frames := 1, cells := 0, slots := 0, locals := 21 }
def rm_Fi_countTurned : Room := { frames := 5, cells := 0, slots := 0, locals := 115 }
def rm_Fi_openLength : Room := { frames := 4, cells := 0, slots := 0, locals := 94 }
def rm_Fi_layHome : Room := { frames := 6, cells := 0, slots := 0, locals := 143 }
def rm_Fi_searchHome : Room := { frames := 5, cells := 0, slots := 0, locals := 120 }
def rm_Fi_goesOn : Room := { frames := 4, cells := 0, slots := 0, locals := 95 }
def rm_Fi_layRow : Room := { frames := 1, cells := 0, slots := 0, locals := 21 }
def rm_Fi_layTempers : Room := { frames := 6, cells := 0, slots := 0, locals := 147 }
def rm_Fi_setBounds : Room := { frames := 2, cells := 0, slots := 0, locals := 45 }
def rm_Fi_temperAt : Room := { frames := 0, cells := 0, slots := 0, locals := 0 }
def rm_Fi_temperNow : Room := { frames := 1, cells := 0, slots := 0, locals := 22 }
def rm_Fi_layChanged : Room := { frames := 5, cells := 0, slots := 0, locals := 118 }
def rm_Fi_tryTemper : Room := { frames := 1, cells := 0, slots := 0, locals := 22 }
def rm_Fi_layIfLong : Room := { frames := 4, cells := 0, slots := 0, locals := 94 }
def rm_Fo_clear : Room := { frames := 0, cells := 0, slots := 0, locals := 0 }
def rm_Fo_isTold : Room := { frames := 0, cells := 0, slots := 0, locals := 0 }
def rm_Fo_addNumber : Room := { frames := 1, cells := 0, slots := 0, locals := 21 }
def rm_Fo_addKnown : Room := { frames := 1, cells := 0, slots := 0, locals := 21 }
def rm_Fo_addOperator : Room := { frames := 1, cells := 0, slots := 0, locals := 21 }
def rm_Fo_add : Room := { frames := 0, cells := 0, slots := 0, locals := 0 }
def rm_Fo_asksFor : Room := { frames := 0, cells := 0, slots := 0, locals := 0 }
def rm_Fo_answer : Room := { frames := 1, cells := 0, slots := 0, locals := 22 }
def rm_Fo_join : Room := { frames := 0, cells := 0, slots := 0, locals := 0 }
def rm_FR_readFormula : Room := { frames := 6, cells := 0, slots := 0, locals := 131 }
def rm_FR_readUnit : Room := { frames := 2, cells := 0, slots := 0, locals := 42 }
def rm_FR_readBehindUnit : Room := { frames := 3, cells := 0, slots := 0, locals := 64 }
def rm_FR_nest : Room := { frames := 1, cells := 0, slots := 0, locals := 21 }
def rm_FR_await : Room := { frames := 0, cells := 0, slots := 0, locals := 0 }
def rm_FR_bindingOnTop : Room := { frames := 1, cells := 0, slots := 0, locals := 20 }
def rm_FR_settle : Room := { frames := 2, cells := 0, slots := 0, locals := 42 }
def rm_FR_knownBy : Room := { frames := 0, cells := 0, slots := 0, locals := 0 }
def rm_FR_bindingOf : Room := { frames := 0, cells := 0, slots := 0, locals := 0 }
def rm_La_clear : Room := { frames := 1, cells := 0, slots := 0, locals := 20 }
def rm_La_isPlace : Room := { frames := 0, cells := 0, slots := 0, locals := 0 }
def rm_La_isWay : Room := { frames := 0, cells := 0, slots := 0, locals := 0 }
def rm_La_isSoul : Room := { frames := 0, cells := 0, slots := 0, locals := 0 }
def rm_La_isMatter : Room := { frames := 0, cells := 0, slots := 0, locals := 0 }
def rm_La_couple : Room := { frames := 1, cells := 0, slots := 0, locals := 21 }
def rm_La_isCouple : Room := { frames := 2, cells := 0, slots := 0, locals := 44 }
def rm_La_otherEnd : Room := { frames := 1, cells := 0, slots := 0, locals := 21 }
def rm_Re_readLand : Room := { frames := 9, cells := 0, slots := 0, locals := 199 }
def rm_Re_readPlace : Room := { frames := 8, cells := 0, slots := 0, locals := 176 }
def rm_Re_readWay : Room := { frames := 7, cells := 0, slots := 0, locals := 154 }
def rm_Re_readSight : Room := { frames := 6, cells := 0, slots := 0, locals := 131 }
def rm_Re_readSoul : Room := { frames := 8, cells := 0, slots := 0, locals := 176 }
def rm_Re_readMatter : Room := { frames := 8, cells := 0, slots := 0, locals := 176 }
def rm_Re_readRule : Room := { frames := 7, cells := 0, slots := 0, locals := 154 }
def rm_Re_readDraw : Room := { frames := 8, cells := 0, slots := 0, locals := 176 }
def rm_Re_readNewName : Room := { frames := 6, cells := 0, slots := 0, locals := 131 }
def rm_Re_readPlaceName : Room := { frames := 6, cells := 0, slots := 0, locals := 131 }
def rm_Re_indexOf : Room := { frames := 0, cells := 0, slots := 0, locals := 0 }
def rm_Re_readNumberBehind : Room := { frames := 7, cells := 0, slots := 0, locals := 153 }
def rm_Re_readNumber : Room := { frames := 6, cells := 0, slots := 0, locals := 131 }
def rm_Re_expect : Room := { frames := 6, cells := 0, slots := 0, locals := 131 }
def rm_Re_refuse : Room := { frames := 1, cells := 0, slots := 0, locals := 22 }
def rm_Re_fail : Room := { frames := 0, cells := 0, slots := 0, locals := 0 }
def rm_Rp_forget : Room := { frames := 0, cells := 0, slots := 0, locals := 0 }
def rm_Rp_tell : Room := { frames := 5, cells := 0, slots := 0, locals := 116 }
def rm_Rp_takeBack : Room := { frames := 0, cells := 0, slots := 0, locals := 0 }
def rm_Rp_passTime : Room := { frames := 0, cells := 0, slots := 0, locals := 0 }
def rm_Rp_roadsKnownAt : Room := { frames := 0, cells := 0, slots := 0, locals := 0 }
def rm_Rp_findQuestion : Room := { frames := 6, cells := 0, slots := 0, locals := 142 }
def rm_Rp_mostLeft : Room := { frames := 5, cells := 0, slots := 0, locals := 116 }
def rm_Rp_toldLength : Room := { frames := 4, cells := 0, slots := 0, locals := 94 }
def rm_Rp_roadsBy : Room := { frames := 0, cells := 0, slots := 0, locals := 0 }
def rm_Ro_reset : Room := { frames := 0, cells := 0, slots := 0, locals := 0 }
def rm_Ro_append : Room := { frames := 2, cells := 0, slots := 0, locals := 43 }
def rm_St_begin : Room := { frames := 2, cells := 0, slots := 0, locals := 45 }
def rm_St_goOn : Room := { frames := 4, cells := 0, slots := 0, locals := 95 }
def rm_St_isAtEnd : Room := { frames := 2, cells := 0, slots := 0, locals := 42 }
def rm_St_lengthOf : Room := { frames := 1, cells := 0, slots := 0, locals := 21 }
def rm_Ta_begin : Room := { frames := 1, cells := 0, slots := 0, locals := 22 }
def rm_Ta_isOver : Room := { frames := 0, cells := 0, slots := 0, locals := 0 }
def rm_Ta_say : Room := { frames := 2, cells := 0, slots := 0, locals := 47 }
def rm_Ta_sayOnWay : Room := { frames := 3, cells := 0, slots := 0, locals := 71 }
def rm_Ta_talkOpenly : Room := { frames := 3, cells := 0, slots := 0, locals := 71 }
def rm_Ta_put : Room := { frames := 0, cells := 0, slots := 0, locals := 0 }
def rm_Ta_bring : Room := { frames := 0, cells := 0, slots := 0, locals := 0 }
def rm_To_open : Room := { frames := 6, cells := 0, slots := 0, locals := 131 }
def rm_To_sign : Room := { frames := 0, cells := 0, slots := 0, locals := 0 }
def rm_To_move : Room := { frames := 5, cells := 0, slots := 0, locals := 110 }
def rm_To_takeWord : Room := { frames := 4, cells := 0, slots := 0, locals := 85 }
def rm_To_takeNumber : Room := { frames := 1, cells := 0, slots := 0, locals := 21 }
def rm_To_isBlank : Room := { frames := 0, cells := 0, slots := 0, locals := 0 }
def rm_To_isLetter : Room := { frames := 0, cells := 0, slots := 0, locals := 0 }
def rm_To_isDigit : Room := { frames := 0, cells := 0, slots := 0, locals := 0 }
def rm_To_isSign : Room := { frames := 0, cells := 0, slots := 0, locals := 0 }
def rm_Qu_feed : Room := { frames := 1, cells := 0, slots := 0, locals := 22 }
def rm_Qu_tapeNumber : Room := { frames := 0, cells := 0, slots := 0, locals := 0 }
def rm_Qu_end : Room := { frames := 0, cells := 0, slots := 0, locals := 0 }
def rm_Qu_land : Room := { frames := 10, cells := 0, slots := 0, locals := 223 }
def rm_Qu_fault : Room := { frames := 0, cells := 0, slots := 0, locals := 0 }
def rm_Qu_soul : Room := { frames := 1, cells := 0, slots := 0, locals := 21 }
def rm_Qu_way : Room := { frames := 1, cells := 0, slots := 0, locals := 21 }
def rm_Qu_quarrel : Room := { frames := 4, cells := 0, slots := 0, locals := 94 }
def rm_Qu_heat : Room := { frames := 4, cells := 0, slots := 0, locals := 94 }
def rm_Qu_setOut : Room := { frames := 4, cells := 0, slots := 0, locals := 88 }
def rm_Qu_take : Room := { frames := 4, cells := 0, slots := 0, locals := 87 }
def rm_Qu_words : Room := { frames := 6, cells := 0, slots := 0, locals := 138 }
def rm_Qu_year : Room := { frames := 4, cells := 0, slots := 0, locals := 88 }
def rm_Qu_walk : Room := { frames := 2, cells := 0, slots := 0, locals := 41 }
def rm_Qu_undo : Room := { frames := 3, cells := 0, slots := 0, locals := 66 }
def rm_Qu_redo : Room := { frames := 3, cells := 0, slots := 0, locals := 66 }
def rm_Qu_start : Room := { frames := 1, cells := 0, slots := 0, locals := 21 }
def rm_Qu_step : Room := { frames := 3, cells := 0, slots := 0, locals := 66 }
def rm_Qu_walked : Room := { frames := 5, cells := 0, slots := 0, locals := 119 }
def rm_Qu_shortest : Room := { frames := 5, cells := 0, slots := 0, locals := 113 }
def rm_Qu_send : Room := { frames := 7, cells := 0, slots := 0, locals := 164 }
def rm_Qu_measure : Room := { frames := 6, cells := 0, slots := 0, locals := 141 }
def rm_Qu_adds : Room := { frames := 7, cells := 0, slots := 0, locals := 166 }
def rm_Qu_fair : Room := { frames := 7, cells := 0, slots := 0, locals := 166 }
def rm_Qu_cover : Room := { frames := 7, cells := 0, slots := 0, locals := 163 }
def rm_Qu_turned : Room := { frames := 6, cells := 0, slots := 0, locals := 140 }
def rm_Qu_loud : Room := { frames := 3, cells := 0, slots := 0, locals := 71 }
def rm_Qu_home : Room := { frames := 7, cells := 0, slots := 0, locals := 168 }
def rm_Qu_temper : Room := { frames := 7, cells := 0, slots := 0, locals := 170 }
def rm_Qu_lies : Room := { frames := 1, cells := 0, slots := 0, locals := 21 }
def rm_Qu_report : Room := { frames := 6, cells := 0, slots := 0, locals := 138 }
def rm_Qu_untell : Room := { frames := 1, cells := 0, slots := 0, locals := 21 }
def rm_Qu_later : Room := { frames := 1, cells := 0, slots := 0, locals := 21 }
def rm_Qu_miles : Room := { frames := 1, cells := 0, slots := 0, locals := 25 }
def rm_Qu_ask : Room := { frames := 7, cells := 0, slots := 0, locals := 170 }
def rm_Qu_image : Room := { frames := 3, cells := 0, slots := 0, locals := 67 }
def rm_Qu_back : Room := { frames := 4, cells := 0, slots := 0, locals := 87 }
def rm_Qu_about : Room := { frames := 0, cells := 0, slots := 0, locals := 0 }
def rm_Qu_within : Room := { frames := 0, cells := 0, slots := 0, locals := 0 }
def rm_Mo_sign : Room := { frames := 0, cells := 0, slots := 0, locals := 0 }
def rm_Mo_isLetter : Room := { frames := 0, cells := 0, slots := 0, locals := 0 }
def rm_Mo_isDigit : Room := { frames := 0, cells := 0, slots := 0, locals := 0 }
def rm_Mo_fails : Room := { frames := 0, cells := 0, slots := 0, locals := 0 }
def rm_Mo_isGood : Room := { frames := 0, cells := 0, slots := 0, locals := 0 }
def rm_Mo_isKept : Room := { frames := 0, cells := 0, slots := 0, locals := 0 }
def rm_Mo_isSign : Room := { frames := 0, cells := 0, slots := 0, locals := 0 }
def rm_Mo_goOn : Room := { frames := 1, cells := 0, slots := 0, locals := 22 }
def rm_Mo_isSignHere : Room := { frames := 1, cells := 0, slots := 0, locals := 21 }
def rm_Mo_isWord : Room := { frames := 0, cells := 0, slots := 0, locals := 0 }
def rm_Mo_misplaced : Room := { frames := 1, cells := 0, slots := 0, locals := 22 }
def rm_Mo_must : Room := { frames := 2, cells := 0, slots := 0, locals := 44 }
def rm_Mo_numeral : Room := { frames := 2, cells := 0, slots := 0, locals := 44 }
def rm_Mo_after : Room := { frames := 3, cells := 0, slots := 0, locals := 67 }
def rm_Mo_clearBank : Room := { frames := 0, cells := 0, slots := 0, locals := 0 }
def rm_Mo_land : Room := { frames := 7, cells := 0, slots := 0, locals := 150 }
def rm_Mo_isFull : Room := { frames := 1, cells := 0, slots := 0, locals := 22 }
def rm_Mo_readLine : Room := { frames := 6, cells := 0, slots := 0, locals := 128 }
def rm_Mo_here : Room := { frames := 0, cells := 0, slots := 0, locals := 0 }
def rm_Mo_fresh : Room := { frames := 2, cells := 0, slots := 0, locals := 44 }
def rm_Mo_known : Room := { frames := 2, cells := 0, slots := 0, locals := 42 }
def rm_Mo_readPlace : Room := { frames := 4, cells := 0, slots := 0, locals := 91 }
def rm_Mo_readWay : Room := { frames := 3, cells := 0, slots := 0, locals := 67 }
def rm_Mo_signedNumber : Room := { frames := 2, cells := 0, slots := 0, locals := 44 }
def rm_Mo_readSoul : Room := { frames := 4, cells := 0, slots := 0, locals := 91 }
def rm_Mo_readMatter : Room := { frames := 4, cells := 0, slots := 0, locals := 91 }
def rm_Mo_readRule : Room := { frames := 5, cells := 0, slots := 0, locals := 107 }
def rm_Mo_emit : Room := { frames := 0, cells := 0, slots := 0, locals := 0 }
def rm_Mo_pushE : Room := { frames := 0, cells := 0, slots := 0, locals := 0 }
def rm_Mo_e : Room := { frames := 4, cells := 0, slots := 0, locals := 86 }
def rm_Mo_wordHere : Room := { frames := 1, cells := 0, slots := 0, locals := 22 }
def rm_Mo_unit : Room := { frames := 2, cells := 0, slots := 0, locals := 44 }
def rm_Mo_rankHere : Room := { frames := 2, cells := 0, slots := 0, locals := 42 }
def rm_Mo_isCompared : Room := { frames := 0, cells := 0, slots := 0, locals := 0 }
def rm_Mo_behindUnit : Room := { frames := 3, cells := 0, slots := 0, locals := 65 }
def rm_Mo_two : Room := { frames := 0, cells := 0, slots := 0, locals := 0 }
def rm_Mo_asked : Room := { frames := 0, cells := 0, slots := 0, locals := 0 }
def rm_Mo_comes : Room := { frames := 1, cells := 0, slots := 0, locals := 22 }
def rm_Mo_fault : Room := { frames := 0, cells := 0, slots := 0, locals := 0 }
def rm_Mo_isIn : Room := { frames := 0, cells := 0, slots := 0, locals := 0 }
def rm_Mo_soulMany : Room := { frames := 0, cells := 0, slots := 0, locals := 0 }
def rm_Mo_isPlace : Room := { frames := 1, cells := 0, slots := 0, locals := 22 }
def rm_Mo_isWay : Room := { frames := 1, cells := 0, slots := 0, locals := 22 }
def rm_Mo_isCouple : Room := { frames := 1, cells := 0, slots := 0, locals := 22 }
def rm_Mo_temperOf : Room := { frames := 0, cells := 0, slots := 0, locals := 0 }
def rm_Mo_begin : Room := { frames := 0, cells := 0, slots := 0, locals := 0 }
def rm_Mo_isEnded : Room := { frames := 0, cells := 0, slots := 0, locals := 0 }
def rm_Mo_warm : Room := { frames := 0, cells := 0, slots := 0, locals := 0 }
def rm_Mo_say : Room := { frames := 2, cells := 0, slots := 0, locals := 46 }
def rm_Mo_push : Room := { frames := 0, cells := 0, slots := 0, locals := 0 }
def rm_Mo_openLength : Room := { frames := 3, cells := 0, slots := 0, locals := 72 }
def rm_Mo_quarrel : Room := { frames := 4, cells := 0, slots := 0, locals := 95 }
def rm_Mo_heat : Room := { frames := 3, cells := 0, slots := 0, locals := 72 }
def rm_Mo_soul : Room := { frames := 1, cells := 0, slots := 0, locals := 22 }
def rm_Mo_fromOf : Room := { frames := 0, cells := 0, slots := 0, locals := 0 }
def rm_Mo_toOf : Room := { frames := 0, cells := 0, slots := 0, locals := 0 }
def rm_Mo_milesOf : Room := { frames := 0, cells := 0, slots := 0, locals := 0 }
def rm_Mo_way : Room := { frames := 2, cells := 0, slots := 0, locals := 43 }
def rm_Mo_otherEnd : Room := { frames := 1, cells := 0, slots := 0, locals := 21 }
def rm_Mo_startAnew : Room := { frames := 1, cells := 0, slots := 0, locals := 20 }
def rm_Mo_keepAct : Room := { frames := 0, cells := 0, slots := 0, locals := 0 }
def rm_Mo_exchange : Room := { frames := 0, cells := 0, slots := 0, locals := 0 }
def rm_Mo_doWalk : Room := { frames := 0, cells := 0, slots := 0, locals := 0 }
def rm_Mo_setOut : Room := { frames := 2, cells := 0, slots := 0, locals := 45 }
def rm_Mo_take : Room := { frames := 2, cells := 0, slots := 0, locals := 43 }
def rm_Mo_words : Room := { frames := 3, cells := 0, slots := 0, locals := 72 }
def rm_Mo_year : Room := { frames := 1, cells := 0, slots := 0, locals := 21 }
def rm_Mo_walk : Room := { frames := 1, cells := 0, slots := 0, locals := 20 }
def rm_Mo_undo : Room := { frames := 1, cells := 0, slots := 0, locals := 22 }
def rm_Mo_redo : Room := { frames := 1, cells := 0, slots := 0, locals := 22 }
def rm_Mo_lies : Room := { frames := 1, cells := 0, slots := 0, locals := 22 }
def rm_Mo_start : Room := { frames := 2, cells := 0, slots := 0, locals := 43 }
def rm_Mo_routeEnd : Room := { frames := 2, cells := 0, slots := 0, locals := 43 }
def rm_Mo_step : Room := { frames := 3, cells := 0, slots := 0, locals := 65 }
def rm_Mo_along : Room := { frames := 3, cells := 0, slots := 0, locals := 72 }
def rm_Mo_walked : Room := { frames := 4, cells := 0, slots := 0, locals := 99 }
def rm_Mo_layFar : Room := { frames := 1, cells := 0, slots := 0, locals := 21 }
def rm_Mo_layShortest : Room := { frames := 2, cells := 0, slots := 0, locals := 44 }
def rm_Mo_shortest : Room := { frames := 3, cells := 0, slots := 0, locals := 68 }
def rm_Mo_coupleMany : Room := { frames := 0, cells := 0, slots := 0, locals := 0 }
def rm_Mo_firstOf : Room := { frames := 0, cells := 0, slots := 0, locals := 0 }
def rm_Mo_otherOf : Room := { frames := 0, cells := 0, slots := 0, locals := 0 }
def rm_Mo_matterOf : Room := { frames := 0, cells := 0, slots := 0, locals := 0 }
def rm_Mo_canBe : Room := { frames := 2, cells := 0, slots := 0, locals := 45 }
def rm_Mo_beginBy : Room := { frames := 1, cells := 0, slots := 0, locals := 26 }
def rm_Mo_send : Room := { frames := 4, cells := 0, slots := 0, locals := 99 }
def rm_Mo_measured : Room := { frames := 3, cells := 0, slots := 0, locals := 72 }
def rm_Mo_measureBy : Room := { frames := 4, cells := 0, slots := 0, locals := 99 }
def rm_Mo_measure : Room := { frames := 5, cells := 0, slots := 0, locals := 122 }
def rm_Mo_adds : Room := { frames := 5, cells := 0, slots := 0, locals := 122 }
def rm_Mo_isFair : Room := { frames := 5, cells := 0, slots := 0, locals := 122 }
def rm_Mo_fair : Room := { frames := 6, cells := 0, slots := 0, locals := 144 }
def rm_Mo_layJust : Room := { frames := 4, cells := 0, slots := 0, locals := 99 }
def rm_Mo_layCouple : Room := { frames := 1, cells := 0, slots := 0, locals := 20 }
def rm_Mo_cover : Room := { frames := 5, cells := 0, slots := 0, locals := 121 }
def rm_Mo_coverByThree : Room := { frames := 2, cells := 0, slots := 0, locals := 42 }
def rm_Mo_turned : Room := { frames := 4, cells := 0, slots := 0, locals := 95 }
def rm_Mo_loud : Room := { frames := 3, cells := 0, slots := 0, locals := 72 }
def rm_Mo_doesLead : Room := { frames := 2, cells := 0, slots := 0, locals := 43 }
def rm_Mo_endsJust : Room := { frames := 4, cells := 0, slots := 0, locals := 99 }
def rm_Mo_home : Room := { frames := 5, cells := 0, slots := 0, locals := 122 }
def rm_Mo_layTempers : Room := { frames := 0, cells := 0, slots := 0, locals := 0 }
def rm_Mo_apart : Room := { frames := 0, cells := 0, slots := 0, locals := 0 }
def rm_Mo_changes : Room := { frames := 4, cells := 0, slots := 0, locals := 95 }
def rm_Mo_temper : Room := { frames := 5, cells := 0, slots := 0, locals := 124 }
def rm_Mo_toldLength : Room := { frames := 4, cells := 0, slots := 0, locals := 95 }
def rm_Mo_report : Room := { frames := 5, cells := 0, slots := 0, locals := 119 }
def rm_Mo_untell : Room := { frames := 1, cells := 0, slots := 0, locals := 22 }
def rm_Mo_later : Room := { frames := 1, cells := 0, slots := 0, locals := 22 }
def rm_Mo_reported : Room := { frames := 0, cells := 0, slots := 0, locals := 0 }
def rm_Mo_isSo : Room := { frames := 1, cells := 0, slots := 0, locals := 21 }
def rm_Mo_miles : Room := { frames := 2, cells := 0, slots := 0, locals := 44 }
def rm_Mo_mostLeft : Room := { frames := 5, cells := 0, slots := 0, locals := 119 }
def rm_Mo_ask : Room := { frames := 6, cells := 0, slots := 0, locals := 144 }
def rm_Mo_wordsInAll : Room := { frames := 1, cells := 0, slots := 0, locals := 20 }
def rm_Mo_image : Room := { frames := 2, cells := 0, slots := 0, locals := 40 }
def rm_Mo_back : Room := { frames := 2, cells := 0, slots := 0, locals := 40 }
def rm_Mo_about : Room := { frames := 3, cells := 0, slots := 0, locals := 65 }
def rm_Mo_feed : Room := { frames := 0, cells := 0, slots := 0, locals := 0 }
def rm_Mo_end : Room := { frames := 0, cells := 0, slots := 0, locals := 0 }
def rm_Lo_bitCount_95d88 : Room := { frames := 0, cells := 0, slots := 0, locals := 0 }
