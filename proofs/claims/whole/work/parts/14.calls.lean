/-! fields, making cells, calls, ends -/
/-- a row of the tables that says which field an instruction names: its sort's number, its place, its sign (0 int, 1 long, 3 boolean, 9 reference) -/
def qLF (own : String) (idx ci k t : Nat) (fin : Bool) : Prop := ∃ (K : String) (T : u_T) (N : Nat) (ty : FieldType), qcl[ci]? = some (K, T, N) ∧ k < N ∧ Cond.fieldLink own idx K (T k).2.1 (T k).2.2.1 ∈ qw ∧ (T k).1 = K ∧ qdt (T k).2.2.1 = t ∧ (T k).2.2.2 = fin ∧ parseFieldDescriptor (T k).2.2.1 = some ty ∧ (match t with | 0 => ty = .int | 1 => ty = .long | 3 => ty = .boolean | _ => (∃ n, ty = .object n) ∨ ∃ u, ty = .array u)
def qty : List (Nat → FieldType) := [tyX0, tyX1, tyX2, tyX3, tyX4, tyX5, tyX6, tyX7, tyX8, tyX9, tyX10, tyX11]
theorem q_mem {i : Nat} {w : Cond} (h : lw_tbl[i]? = some w) (hg : goodWord w = true) : w ∈ qw := List.mem_filter.mpr ⟨List.mem_of_getElem? h, hg⟩
theorem q_sub (ws : List Cond) (ps : List Nat) (h1 : ws = ps.filterMap (fun i => lw_tbl[i]?)) (h2 : ws.all goodWord = true) : ∀ w ∈ ws, w ∈ qw := by
  intro w hw
  refine List.mem_filter.mpr ⟨?_, List.all_eq_true.mp h2 w hw⟩
  rw [h1] at hw
  obtain ⟨i, -, hi⟩ := List.mem_filterMap.mp hw
  exact List.mem_of_getElem? hi
theorem qin0 : ∀ w ∈ u_ws RX0 TX0 7, w ∈ qw := q_sub _ [544, 546, 548, 550, 552, 554, 556] (by decide +kernel) (by decide +kernel)
theorem qin1 : ∀ w ∈ u_ws RX1 TX1 13, w ∈ qw := q_sub _ [273, 275, 277, 279, 281, 283, 285, 287, 289, 291, 293, 295, 297] (by decide +kernel) (by decide +kernel)
theorem qin2 : ∀ w ∈ u_ws RX2 TX2 10, w ∈ qw := q_sub _ [174, 176, 178, 180, 182, 184, 186, 188, 190, 192] (by decide +kernel) (by decide +kernel)
theorem qin3 : ∀ w ∈ u_ws RX3 TX3 14, w ∈ qw := q_sub _ [324, 326, 328, 330, 332, 334, 336, 338, 340, 342, 344, 346, 348, 350] (by decide +kernel) (by decide +kernel)
theorem qin4 : ∀ w ∈ u_ws RX4 TX4 15, w ∈ qw := q_sub _ [221, 223, 225, 227, 229, 231, 233, 235, 237, 239, 241, 243, 245, 247, 249] (by decide +kernel) (by decide +kernel)
theorem qin5 : ∀ w ∈ u_ws RX5 TX5 14, w ∈ qw := q_sub _ [404, 406, 408, 410, 412, 414, 416, 418, 420, 422, 424, 426, 428, 430] (by decide +kernel) (by decide +kernel)
theorem qin6 : ∀ w ∈ u_ws RX6 TX6 6, w ∈ qw := q_sub _ [451, 453, 455, 457, 459, 461] (by decide +kernel) (by decide +kernel)
theorem qin7 : ∀ w ∈ u_ws RX7 TX7 12, w ∈ qw := q_sub _ [499, 501, 503, 505, 507, 509, 511, 513, 515, 517, 519, 521] (by decide +kernel) (by decide +kernel)
theorem qin8 : ∀ w ∈ u_ws RX8 TX8 4, w ∈ qw := q_sub _ [572, 574, 576, 578] (by decide +kernel) (by decide +kernel)
theorem qin9 : ∀ w ∈ u_ws RX9 TX9 6, w ∈ qw := q_sub _ [367, 369, 371, 373, 375, 377] (by decide +kernel) (by decide +kernel)
theorem qin10 : ∀ w ∈ u_ws RX10 TX10 17, w ∈ qw := q_sub _ [598, 600, 602, 604, 606, 608, 610, 612, 614, 616, 618, 620, 622, 624, 626, 628, 630] (by decide +kernel) (by decide +kernel)
theorem qin11 : ∀ w ∈ u_ws RX11 TX11 102, w ∈ qw := q_sub _ [1485, 1487, 1489, 1491, 1493, 1495, 1497, 1499, 1501, 1503, 1505, 1507, 1509, 1511, 1513, 1515, 1517, 1519, 1521, 1523, 1525, 1527, 1529, 1531, 1533, 1535, 1537, 1539, 1541, 1543, 1545, 1547, 1549, 1551, 1553, 1555, 1557, 1559, 1561, 1563, 1565, 1567, 1569, 1571, 1573, 1575, 1577, 1579, 1581, 1583, 1585, 1587, 1589, 1591, 1593, 1595, 1597, 1599, 1601, 1603, 1605, 1607, 1609, 1611, 1613, 1615, 1617, 1619, 1621, 1623, 1625, 1627, 1629, 1631, 1633, 1635, 1637, 1639, 1641, 1643, 1645, 1647, 1649, 1651, 1653, 1655, 1657, 1659, 1661, 1663, 1665, 1667, 1669, 1671, 1673, 1675, 1677, 1679, 1681, 1683, 1685, 1687] (by decide +kernel) (by decide +kernel)
theorem qcl_in {ci : Nat} {K : String} {T : u_T} {N : Nat} (h : qcl[ci]? = some (K, T, N)) : ∀ w ∈ u_ws K T N, w ∈ qw := by
  have hlt : ci < 12 := (List.getElem?_eq_some_iff.mp h).1
  match ci, hlt, h with
  | 0, _, h => cases h; exact qin0
  | 1, _, h => cases h; exact qin1
  | 2, _, h => cases h; exact qin2
  | 3, _, h => cases h; exact qin3
  | 4, _, h => cases h; exact qin4
  | 5, _, h => cases h; exact qin5
  | 6, _, h => cases h; exact qin6
  | 7, _, h => cases h; exact qin7
  | 8, _, h => cases h; exact qin8
  | 9, _, h => cases h; exact qin9
  | 10, _, h => cases h; exact qin10
  | 11, _, h => cases h; exact qin11

theorem qcl_ty {ci : Nat} {K : String} {T : u_T} {N : Nat} (h : qcl[ci]? = some (K, T, N)) : ∀ k, k < N → parseFieldDescriptor (T k).2.2.1 = some (qty.getD ci tyX0 k) := by
  have hlt : ci < 12 := (List.getElem?_eq_some_iff.mp h).1
  match ci, hlt, h with
  | 0, _, h => cases h; exact tyX0_ok
  | 1, _, h => cases h; exact tyX1_ok
  | 2, _, h => cases h; exact tyX2_ok
  | 3, _, h => cases h; exact tyX3_ok
  | 4, _, h => cases h; exact tyX4_ok
  | 5, _, h => cases h; exact tyX5_ok
  | 6, _, h => cases h; exact tyX6_ok
  | 7, _, h => cases h; exact tyX7_ok
  | 8, _, h => cases h; exact tyX8_ok
  | 9, _, h => cases h; exact tyX9_ok
  | 10, _, h => cases h; exact tyX10_ok
  | 11, _, h => cases h; exact tyX11_ok

theorem qcl_nm {ci : Nat} {K : String} {T : u_T} {N : Nat} (h : qcl[ci]? = some (K, T, N)) : ∀ a, a < N → ∀ b, b < N → a ≠ b → (T a).2.1 ≠ (T b).2.1 := by
  have hlt : ci < 12 := (List.getElem?_eq_some_iff.mp h).1
  match ci, hlt, h with
  | 0, _, h => cases h; exact nmX0
  | 1, _, h => cases h; exact nmX1
  | 2, _, h => cases h; exact nmX2
  | 3, _, h => cases h; exact nmX3
  | 4, _, h => cases h; exact nmX4
  | 5, _, h => cases h; exact nmX5
  | 6, _, h => cases h; exact nmX6
  | 7, _, h => cases h; exact nmX7
  | 8, _, h => cases h; exact nmX8
  | 9, _, h => cases h; exact nmX9
  | 10, _, h => cases h; exact nmX10
  | 11, _, h => cases h; exact nmX11

theorem qii0 : Cond.instantiable RX0 7 ∈ qw ∧ Cond.initialized RX0 ∈ qw := ⟨q_mem (i := 525) (by decide +kernel) rfl, q_mem (i := 126) (by decide +kernel) rfl⟩
theorem qii1 : Cond.instantiable RX1 13 ∈ qw ∧ Cond.initialized RX1 ∈ qw := ⟨q_mem (i := 253) (by decide +kernel) rfl, q_mem (i := 119) (by decide +kernel) rfl⟩
theorem qii2 : Cond.instantiable RX2 10 ∈ qw ∧ Cond.initialized RX2 ∈ qw := ⟨q_mem (i := 142) (by decide +kernel) rfl, q_mem (i := 117) (by decide +kernel) rfl⟩
theorem qii3 : Cond.instantiable RX3 14 ∈ qw ∧ Cond.initialized RX3 ∈ qw := ⟨q_mem (i := 301) (by decide +kernel) rfl, q_mem (i := 120) (by decide +kernel) rfl⟩
theorem qii4 : Cond.instantiable RX4 15 ∈ qw ∧ Cond.initialized RX4 ∈ qw := ⟨q_mem (i := 198) (by decide +kernel) rfl, q_mem (i := 118) (by decide +kernel) rfl⟩
theorem qii5 : Cond.instantiable RX5 14 ∈ qw ∧ Cond.initialized RX5 ∈ qw := ⟨q_mem (i := 381) (by decide +kernel) rfl, q_mem (i := 122) (by decide +kernel) rfl⟩
theorem qii6 : Cond.instantiable RX6 6 ∈ qw ∧ Cond.initialized RX6 ∈ qw := ⟨q_mem (i := 434) (by decide +kernel) rfl, q_mem (i := 123) (by decide +kernel) rfl⟩
theorem qii7 : Cond.instantiable RX7 12 ∈ qw ∧ Cond.initialized RX7 ∈ qw := ⟨q_mem (i := 465) (by decide +kernel) rfl, q_mem (i := 125) (by decide +kernel) rfl⟩
theorem qii8 : Cond.instantiable RX8 4 ∈ qw ∧ Cond.initialized RX8 ∈ qw := ⟨q_mem (i := 559) (by decide +kernel) rfl, q_mem (i := 127) (by decide +kernel) rfl⟩
theorem qii9 : Cond.instantiable RX9 6 ∈ qw ∧ Cond.initialized RX9 ∈ qw := ⟨q_mem (i := 355) (by decide +kernel) rfl, q_mem (i := 121) (by decide +kernel) rfl⟩
theorem qii10 : Cond.instantiable RX10 17 ∈ qw ∧ Cond.initialized RX10 ∈ qw := ⟨q_mem (i := 132) (by decide +kernel) rfl, q_mem (i := 116) (by decide +kernel) rfl⟩
theorem qii11 : Cond.instantiable RX11 102 ∈ qw ∧ Cond.initialized RX11 ∈ qw := ⟨q_mem (i := 1378) (by decide +kernel) rfl, q_mem (i := 128) (by decide +kernel) rfl⟩
theorem qcl_ii {ci : Nat} {K : String} {T : u_T} {N : Nat} (h : qcl[ci]? = some (K, T, N)) : Cond.instantiable K N ∈ qw ∧ Cond.initialized K ∈ qw := by
  have hlt : ci < 12 := (List.getElem?_eq_some_iff.mp h).1
  match ci, hlt, h with
  | 0, _, h => cases h; exact qii0
  | 1, _, h => cases h; exact qii1
  | 2, _, h => cases h; exact qii2
  | 3, _, h => cases h; exact qii3
  | 4, _, h => cases h; exact qii4
  | 5, _, h => cases h; exact qii5
  | 6, _, h => cases h; exact qii6
  | 7, _, h => cases h; exact qii7
  | 8, _, h => cases h; exact qii8
  | 9, _, h => cases h; exact qii9
  | 10, _, h => cases h; exact qii10
  | 11, _, h => cases h; exact qii11

theorem qcl_lt {ci : Nat} {q : vw_C} (h : qcl[ci]? = some q) : ci < 12 := (List.getElem?_eq_some_iff.mp h).1
theorem qT_eq {ci : Nat} {K : String} {T : u_T} {N : Nat} (h : qcl[ci]? = some (K, T, N)) : qT ci = T := by
  unfold qT
  rw [h]
theorem q_fget {ρ : Int → Nat} {n : Nat} {f : Nat → Value} {k : Nat} (h : k < n) : ((List.range n).map f)[k]? = some (f k) := by
  rw [List.getElem?_map, List.getElem?_range h]
  rfl
theorem q_fset {n k : Nat} {f f' : Nat → Value} {v : Value} (hk : k < n) (h1 : f' k = v) (h2 : ∀ j, j ≠ k → f' j = f j) : ((List.range n).map f).set k v = (List.range n).map f' := by
  apply List.ext_getElem?
  intro j
  rw [List.getElem?_set, List.length_map, List.length_range, List.getElem?_map, List.getElem?_map]
  by_cases hj : k = j
  · subst hj
    rw [if_pos rfl, if_pos hk, List.getElem?_range hk, Option.map_some, h1]
  · rw [if_neg hj]
    by_cases hl : j < n
    · rw [List.getElem?_range hl, Option.map_some, Option.map_some, h2 j (fun q => hj q.symm)]
    · rw [List.getElem?_eq_none (by rw [List.length_range]; omega)]
      rfl
section
variable {X : qX} {d rc rs : Nat} {y : qMT} {pc : Nat} {L S : List qV} {sh : qS} {pt h : qM} {Q : Option qV → qG → Prop}
theorem ev_getI {ki : Int} {idx ci k t : Nat} {fin : Bool} {a N : Int} (nx : Nat) (hnx : pc + 3 = nx) (hd : decode y.2.1 pc = .ok (.getfield idx, 3)) (hf : qLF y.1.cls idx ci k t fin) (ht : t = 0 ∨ t = 3) (hs : qsh sh a = some (ci + 5, N)) (hkN : (k : Int) < N) (hki : (k : Int) = ki) (kk : Ev X d rc rs y nx L ((0, h a ki) :: S) (sh, pt, h) Q) : Ev X d rc rs y pc L ((2, a) :: S) (sh, pt, h) Q := by
  subst hnx
  subst hki
  intro p e R s m args below meth c B0 D kA ρ H locs cells slots ls C F M Wd okL okS hl
  obtain ⟨ka, rfl, hk⟩ := qsh_spec hs
  obtain ⟨o2, okS⟩ := List.forall_mem_cons.mp okS
  obtain ⟨hK, hP, hD, hS, hB, hRo, hNs, hWT⟩ := id Wd
  obtain ⟨w1, w2, w3⟩ := hWT ka _ hk
  obtain ⟨K, T, NN, ty, f1, f2, f3, f4, f5, f6, f7, f8⟩ := hf
  have hent := qws_get (kA := kA) (ρ := ρ) (g := (sh, pt, h)) hk
  rw [List.map_cons, qcv_ref (by omega)]
  have hq : qin t (h ka k) := by
    have w4 := w2 k
    have e1 : qtg (ci + 5) (k : Int) = t := by
      show qdt (qT ci ((k : Int).toNat)).2.2.1 = t
      rw [qT_eq f1, Int.toNat_natCast]
      exact f5
    rw [e1] at w4
    exact w4
  have hqI : qI (h ka k) := by
    rcases ht with rfl | rfl
    · exact hq
    · have hq' : 0 ≤ h ka k ∧ h ka k ≤ 1 := hq
      exact ⟨by omega, by omega⟩
  refine va_get (ws := qws kA ρ (sh, pt, h)) (v := .int (Int32.ofInt (h ka k))) C.1 C.2.1 C.2.2.2.2.2.1 (qcl_in f1) C.2.2.2.2.1 hK hP ka hent f1 k f2 (C.2.2.2.2.2.1 _ f3) (fun x hx => by rw [f4] at hx; exact hx) ?_ hd ?_
  · show ((List.range N.toNat).map _)[k]? = _
    rw [q_fget (ρ := ρ) (by omega), qT_eq f1, f5]
    rcases ht with rfl | rfl <;> rfl
  · exact kk p e R s m args below meth c B0 D kA ρ H locs cells slots ls C F M Wd okL (q_cons hqI okS) hl
theorem ev_getL {ki : Int} {idx ci k : Nat} {fin : Bool} {a N : Int} (nx : Nat) (hnx : pc + 3 = nx) (hd : decode y.2.1 pc = .ok (.getfield idx, 3)) (hf : qLF y.1.cls idx ci k 1 fin) (hs : qsh sh a = some (ci + 5, N)) (hkN : (k : Int) < N) (hki : (k : Int) = ki) (kk : Ev X d rc rs y nx L ((1, h a ki) :: S) (sh, pt, h) Q) : Ev X d rc rs y pc L ((2, a) :: S) (sh, pt, h) Q := by
  subst hnx
  subst hki
  intro p e R s m args below meth c B0 D kA ρ H locs cells slots ls C F M Wd okL okS hl
  obtain ⟨ka, rfl, hk⟩ := qsh_spec hs
  obtain ⟨o2, okS⟩ := List.forall_mem_cons.mp okS
  obtain ⟨hK, hP, hD, hS, hB, hRo, hNs, hWT⟩ := id Wd
  obtain ⟨w1, w2, w3⟩ := hWT ka _ hk
  obtain ⟨K, T, NN, ty, f1, f2, f3, f4, f5, f6, f7, f8⟩ := hf
  have hent := qws_get (kA := kA) (ρ := ρ) (g := (sh, pt, h)) hk
  rw [List.map_cons, qcv_ref (by omega)]
  have hq : qin 1 (h ka k) := by
    have w4 := w2 k
    have e1 : qtg (ci + 5) (k : Int) = 1 := by
      show qdt (qT ci ((k : Int).toNat)).2.2.1 = 1
      rw [qT_eq f1, Int.toNat_natCast]
      exact f5
    rw [e1] at w4
    exact w4
  refine va_get (ws := qws kA ρ (sh, pt, h)) (v := .long (Int64.ofInt (h ka k))) C.1 C.2.1 C.2.2.2.2.2.1 (qcl_in f1) C.2.2.2.2.1 hK hP ka hent f1 k f2 (C.2.2.2.2.2.1 _ f3) (fun x hx => by rw [f4] at hx; exact hx) ?_ hd ?_
  · show ((List.range N.toNat).map _)[k]? = _
    rw [q_fget (ρ := ρ) (by omega), qT_eq f1, f5]
    rfl
  · exact kk p e R s m args below meth c B0 D kA ρ H locs cells slots ls C F M Wd okL (q_cons hq okS) hl
theorem ev_getR {ki : Int} {idx ci k : Nat} {fin : Bool} {a N v : Int} (nx : Nat) (hnx : pc + 3 = nx) (hd : decode y.2.1 pc = .ok (.getfield idx, 3)) (hf : qLF y.1.cls idx ci k 9 fin) (hs : qsh sh a = some (ci + 5, N)) (hkN : (k : Int) < N) (hki : (k : Int) = ki) (hv : pt a ki = v) (kk : Ev X d rc rs y nx L ((2, v) :: S) (sh, pt, h) Q) : Ev X d rc rs y pc L ((2, a) :: S) (sh, pt, h) Q := by
  subst hnx
  subst hki
  subst hv
  intro p e R s m args below meth c B0 D kA ρ H locs cells slots ls C F M Wd okL okS hl
  obtain ⟨ka, rfl, hk⟩ := qsh_spec hs
  obtain ⟨o2, okS⟩ := List.forall_mem_cons.mp okS
  obtain ⟨hK, hP, hD, hS, hB, hRo, hNs, hWT⟩ := id Wd
  obtain ⟨w1, w2, w3⟩ := hWT ka _ hk
  obtain ⟨K, T, NN, ty, f1, f2, f3, f4, f5, f6, f7, f8⟩ := hf
  have hent := qws_get (kA := kA) (ρ := ρ) (g := (sh, pt, h)) hk
  rw [List.map_cons, qcv_ref (by omega)]
  refine va_get (ws := qws kA ρ (sh, pt, h)) (v := va_rf (qrf ρ (pt ka k))) C.1 C.2.1 C.2.2.2.2.2.1 (qcl_in f1) C.2.2.2.2.1 hK hP ka hent f1 k f2 (C.2.2.2.2.2.1 _ f3) (fun x hx => by rw [f4] at hx; exact hx) ?_ hd ?_
  · show ((List.range N.toNat).map _)[k]? = _
    rw [q_fget (ρ := ρ) (by omega), qT_eq f1, f5]
    rfl
  · exact kk p e R s m args below meth c B0 D kA ρ H locs cells slots ls C F M Wd okL (q_cons (w3 k) okS) hl
theorem q_fieldset {kA : Nat → ClassId} {ρ : Int → Nat} {ka ci k : Nat} {N : Int} {pt' h' : qM} {v : Value} (hk : sh[ka]? = some (ci + 5, N)) (hkN : (k : Int) < N) (hv : qfv ρ (qdt (qT ci k).2.2.1) (h' ka k) (pt' ka k) = v) (hp : ∀ j : Nat, j ≠ ka → pt' j = pt j) (hh : ∀ j : Nat, j ≠ ka → h' j = h j) (hp2 : ∀ j : Nat, j ≠ k → pt' ka j = pt ka j) (hh2 : ∀ j : Nat, j ≠ k → h' ka j = h ka j) :
    (qws kA ρ (sh, pt, h)).set ka (ρ ka, .inr (ci, ((List.range N.toNat).map (fun j => qfv ρ (qdt (qT ci j).2.2.1) (h ka j) (pt ka j))).set k v)) = qws kA ρ (sh, pt', h') := by
  refine qws_set hk ?_ hp hh
  show (Sum.inr (ci, (List.range N.toNat).map _) : va_E) = _
  rw [q_fset (f' := fun j => qfv ρ (qdt (qT ci j).2.2.1) (h' ka j) (pt' ka j)) (by omega) hv (fun j hj => by simp only [hp2 j hj, hh2 j hj])]
theorem ev_putI {ki : Int} {idx ci k t : Nat} {a N v : Int} (nx : Nat) (hnx : pc + 3 = nx) (hd : decode y.2.1 pc = .ok (.putfield idx, 3)) (hf : qLF y.1.cls idx ci k t false) (ht : t = 0 ∨ (t = 3 ∧ 0 ≤ v ∧ v ≤ 1)) (hs : qsh sh a = some (ci + 5, N)) (hkN : (k : Int) < N) (hki : (k : Int) = ki) (kk : Ev X d rc rs y nx L S (sh, pt, qup h a ki v) Q) : Ev X d rc rs y pc L ((0, v) :: (2, a) :: S) (sh, pt, h) Q := by
  subst hnx
  subst hki
  intro p e R s m args below meth c B0 D kA ρ H locs cells slots ls C F M Wd okL okS hl
  obtain ⟨ka, rfl, hk⟩ := qsh_spec hs
  obtain ⟨o1, okS⟩ := List.forall_mem_cons.mp okS
  obtain ⟨o2, okS⟩ := List.forall_mem_cons.mp okS
  obtain ⟨hK, hP, hD, hS, hB, hRo, hNs, hWT⟩ := id Wd
  obtain ⟨w1, w2, w3⟩ := hWT ka _ hk
  obtain ⟨K, T, NN, ty, f1, f2, f3, f4, f5, f6, f7, f8⟩ := hf
  have hent := qws_get (kA := kA) (ρ := ρ) (g := (sh, pt, h)) hk
  rw [List.map_cons, List.map_cons, qcv_ref (by omega)]
  have e1 : qtg (ci + 5) (k : Int) = t := by
    show qdt (qT ci ((k : Int).toNat)).2.2.1 = t
    rw [qT_eq f1, Int.toNat_natCast]
    exact f5
  have hq : qin (qtg (ci + 5) (k : Int)) v := by
    rw [e1]
    rcases ht with rfl | ⟨rfl, h1, h2⟩
    · exact o1
    · exact ⟨h1, h2⟩
  have hnar : narrow ty (.int (Int32.ofInt v)) = .int (Int32.ofInt v) ∧ fits ty (.int (Int32.ofInt v)) = true := by
    rcases ht with rfl | ⟨rfl, h1, h2⟩
    · cases f8
      exact ⟨rfl, rfl⟩
    · cases f8
      have hv : v = 0 ∨ v = 1 := by omega
      rcases hv with rfl | rfl <;> exact ⟨by decide, by decide⟩
  refine va_put (ws := qws kA ρ (sh, pt, h)) (v := .int (Int32.ofInt v)) C.1 C.2.1 C.2.2.2.2.2.1 (qcl_in f1) (qty.getD ci tyX0) (qcl_ty f1) (qcl_nm f1) C.2.2.2.2.1 hK hP hD hS ka hent f1 k f2 (C.2.2.2.2.2.1 _ f3) (fun x hx => by rw [f4] at hx; exact hx) f6 f7 hnar.1 hnar.2 (by rw [List.length_map, List.length_range]; omega) hd fun H1 locs1 hP1 hD1 hS1 => ?_
  have e2 := q_fieldset (kA := kA) (ρ := ρ) (pt := pt) (h := h) (pt' := pt) (h' := qup h ka k v) (v := .int (Int32.ofInt v)) hk hkN (by
    rw [qT_eq f1, f5, qup_row]
    rcases ht with rfl | ⟨rfl, h1, h2⟩ <;> simp [qfv]) (fun _ _ => rfl) (fun j hj => qup_ne (q_cast_ne hj)) (fun _ _ => rfl) (fun j hj => by rw [qup_row]; simp only; rw [if_neg (q_cast_ne hj)])
  rw [e2] at hP1 hD1
  exact kk p e R s m args below meth c B0 D kA ρ H1 locs1 cells slots ls C F M ⟨hK, hP1, hD1, hS1, hB, hRo, hNs, qWT_up hWT hk hq⟩ okL okS hl
theorem ev_putL {ki : Int} {idx ci k : Nat} {a N v : Int} (nx : Nat) (hnx : pc + 3 = nx) (hd : decode y.2.1 pc = .ok (.putfield idx, 3)) (hf : qLF y.1.cls idx ci k 1 false) (hs : qsh sh a = some (ci + 5, N)) (hkN : (k : Int) < N) (hki : (k : Int) = ki) (kk : Ev X d rc rs y nx L S (sh, pt, qup h a ki v) Q) : Ev X d rc rs y pc L ((1, v) :: (2, a) :: S) (sh, pt, h) Q := by
  subst hnx
  subst hki
  intro p e R s m args below meth c B0 D kA ρ H locs cells slots ls C F M Wd okL okS hl
  obtain ⟨ka, rfl, hk⟩ := qsh_spec hs
  obtain ⟨o1, okS⟩ := List.forall_mem_cons.mp okS
  obtain ⟨o2, okS⟩ := List.forall_mem_cons.mp okS
  obtain ⟨hK, hP, hD, hS, hB, hRo, hNs, hWT⟩ := id Wd
  obtain ⟨w1, w2, w3⟩ := hWT ka _ hk
  obtain ⟨K, T, NN, ty, f1, f2, f3, f4, f5, f6, f7, f8⟩ := hf
  have hent := qws_get (kA := kA) (ρ := ρ) (g := (sh, pt, h)) hk
  rw [List.map_cons, List.map_cons, qcv_ref (by omega)]
  have hq : qin (qtg (ci + 5) (k : Int)) v := by
    have e1 : qtg (ci + 5) (k : Int) = 1 := by
      show qdt (qT ci ((k : Int).toNat)).2.2.1 = 1
      rw [qT_eq f1, Int.toNat_natCast]
      exact f5
    rw [e1]
    exact o1
  cases f8
  refine va_put (ws := qws kA ρ (sh, pt, h)) (v := .long (Int64.ofInt v)) C.1 C.2.1 C.2.2.2.2.2.1 (qcl_in f1) (qty.getD ci tyX0) (qcl_ty f1) (qcl_nm f1) C.2.2.2.2.1 hK hP hD hS ka hent f1 k f2 (C.2.2.2.2.2.1 _ f3) (fun x hx => by rw [f4] at hx; exact hx) f6 f7 rfl rfl (by rw [List.length_map, List.length_range]; omega) hd fun H1 locs1 hP1 hD1 hS1 => ?_
  have e2 := q_fieldset (kA := kA) (ρ := ρ) (pt := pt) (h := h) (pt' := pt) (h' := qup h ka k v) (v := .long (Int64.ofInt v)) hk hkN (by
    rw [qT_eq f1, f5, qup_row]
    simp [qfv]) (fun _ _ => rfl) (fun j hj => qup_ne (q_cast_ne hj)) (fun _ _ => rfl) (fun j hj => by rw [qup_row]; simp only; rw [if_neg (q_cast_ne hj)])
  rw [e2] at hP1 hD1
  exact kk p e R s m args below meth c B0 D kA ρ H1 locs1 cells slots ls C F M ⟨hK, hP1, hD1, hS1, hB, hRo, hNs, qWT_up hWT hk hq⟩ okL okS hl
theorem q_reff {ρ : Int → Nat} {v : Int} {ty : FieldType} (h : (∃ n, ty = .object n) ∨ ∃ u, ty = .array u) : narrow ty (qcv ρ (2, v)) = qcv ρ (2, v) ∧ fits ty (qcv ρ (2, v)) = true := by
  by_cases hv : v = -1
  · have e1 : qcv ρ (2, v) = .null := by simp [qcv, qrf, hv, va_rf]
    rw [e1]
    rcases h with ⟨n, rfl⟩ | ⟨u, rfl⟩ <;> exact ⟨rfl, rfl⟩
  · rw [qcv_ref hv]
    rcases h with ⟨n, rfl⟩ | ⟨u, rfl⟩ <;> exact ⟨rfl, rfl⟩
theorem ev_putR {ki : Int} {idx ci k : Nat} {fin : Bool} {a N v : Int} (nx : Nat) (hnx : pc + 3 = nx) (hd : decode y.2.1 pc = .ok (.putfield idx, 3)) (hf : qLF y.1.cls idx ci k 9 fin) (hfin : fin = false ∨ (y.1.name = "<init>" ∧ ∀ q, qcl[ci]? = some q → q.1 = y.1.cls)) (hs : qsh sh a = some (ci + 5, N)) (hkN : (k : Int) < N) (hki : (k : Int) = ki) (kk : Ev X d rc rs y nx L S (sh, qup pt a ki v, h) Q) : Ev X d rc rs y pc L ((2, v) :: (2, a) :: S) (sh, pt, h) Q := by
  subst hnx
  subst hki
  intro p e R s m args below meth c B0 D kA ρ H locs cells slots ls C F M Wd okL okS hl
  obtain ⟨ka, rfl, hk⟩ := qsh_spec hs
  obtain ⟨o1, okS⟩ := List.forall_mem_cons.mp okS
  obtain ⟨o2, okS⟩ := List.forall_mem_cons.mp okS
  obtain ⟨hK, hP, hD, hS, hB, hRo, hNs, hWT⟩ := id Wd
  obtain ⟨K, T, NN, ty, f1, f2, f3, f4, f5, f6, f7, f8⟩ := hf
  have hent := qws_get (kA := kA) (ρ := ρ) (g := (sh, pt, h)) hk
  have hnar := q_reff (ρ := ρ) (v := v) f8
  rw [List.map_cons, List.map_cons, qcv_ref (x := (ka : Int)) (by omega)]
  have e2 := q_fieldset (kA := kA) (ρ := ρ) (pt := pt) (h := h) (pt' := qup pt ka k v) (h' := h) (v := qcv ρ (2, v)) hk hkN (by
    rw [qT_eq f1, f5, qup_row]
    simp [qfv, qcv]) (fun j hj => qup_ne (q_cast_ne hj)) (fun _ _ => rfl) (fun j hj => by rw [qup_row]; simp only; rw [if_neg (q_cast_ne hj)]) (fun _ _ => rfl)
  cases fin with
  | false =>
    refine va_put (ws := qws kA ρ (sh, pt, h)) (v := qcv ρ (2, v)) C.1 C.2.1 C.2.2.2.2.2.1 (qcl_in f1) (qty.getD ci tyX0) (qcl_ty f1) (qcl_nm f1) C.2.2.2.2.1 hK hP hD hS ka hent f1 k f2 (C.2.2.2.2.2.1 _ f3) (fun x hx => by rw [f4] at hx; exact hx) f6 f7 hnar.1 hnar.2 (by rw [List.length_map, List.length_range]; omega) hd fun H1 locs1 hP1 hD1 hS1 => ?_
    rw [e2] at hP1 hD1
    exact kk p e R s m args below meth c B0 D kA ρ H1 locs1 cells slots ls C F M ⟨hK, hP1, hD1, hS1, hB, hRo, hNs, qWT_upP hWT o1⟩ okL okS hl
  | true =>
    rcases hfin with hfin | ⟨hi1, hi2⟩
    · cases hfin
    · refine va_putF (ws := qws kA ρ (sh, pt, h)) (v := qcv ρ (2, v)) C.1 C.2.1 C.2.2.2.2.2.1 (qcl_in f1) (qty.getD ci tyX0) (qcl_ty f1) (qcl_nm f1) C.2.2.2.2.1 hK hP hD hS ka hent f1 k f2 (C.2.2.2.2.2.1 _ f3) (fun x hx => by rw [f4] at hx; exact hx) f6 (C.2.2.2.2.2.2.2.trans hi1) (by rw [f4]; exact hi2 _ f1) f7 hnar.1 hnar.2 (by rw [List.length_map, List.length_range]; omega) hd fun H1 locs1 hP1 hD1 hS1 => ?_
      rw [e2] at hP1 hD1
      exact kk p e R s m args below meth c B0 D kA ρ H1 locs1 cells slots ls C F M ⟨hK, hP1, hD1, hS1, hB, hRo, hNs, qWT_upP hWT o1⟩ okL okS hl
end
