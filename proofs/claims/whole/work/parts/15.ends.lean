theorem qdf0 : ∀ j, j < 7 → (defaultValue (tyX0 j) = .int 0 ∧ qdt (TX0 j).2.2.1 ≠ 1 ∧ qdt (TX0 j).2.2.1 ≠ 9) ∨ (defaultValue (tyX0 j) = .long 0 ∧ qdt (TX0 j).2.2.1 = 1) ∨ (defaultValue (tyX0 j) = .null ∧ qdt (TX0 j).2.2.1 = 9) := by decide +kernel
theorem qdf1 : ∀ j, j < 13 → (defaultValue (tyX1 j) = .int 0 ∧ qdt (TX1 j).2.2.1 ≠ 1 ∧ qdt (TX1 j).2.2.1 ≠ 9) ∨ (defaultValue (tyX1 j) = .long 0 ∧ qdt (TX1 j).2.2.1 = 1) ∨ (defaultValue (tyX1 j) = .null ∧ qdt (TX1 j).2.2.1 = 9) := by decide +kernel
theorem qdf2 : ∀ j, j < 10 → (defaultValue (tyX2 j) = .int 0 ∧ qdt (TX2 j).2.2.1 ≠ 1 ∧ qdt (TX2 j).2.2.1 ≠ 9) ∨ (defaultValue (tyX2 j) = .long 0 ∧ qdt (TX2 j).2.2.1 = 1) ∨ (defaultValue (tyX2 j) = .null ∧ qdt (TX2 j).2.2.1 = 9) := by decide +kernel
theorem qdf3 : ∀ j, j < 14 → (defaultValue (tyX3 j) = .int 0 ∧ qdt (TX3 j).2.2.1 ≠ 1 ∧ qdt (TX3 j).2.2.1 ≠ 9) ∨ (defaultValue (tyX3 j) = .long 0 ∧ qdt (TX3 j).2.2.1 = 1) ∨ (defaultValue (tyX3 j) = .null ∧ qdt (TX3 j).2.2.1 = 9) := by decide +kernel
theorem qdf4 : ∀ j, j < 15 → (defaultValue (tyX4 j) = .int 0 ∧ qdt (TX4 j).2.2.1 ≠ 1 ∧ qdt (TX4 j).2.2.1 ≠ 9) ∨ (defaultValue (tyX4 j) = .long 0 ∧ qdt (TX4 j).2.2.1 = 1) ∨ (defaultValue (tyX4 j) = .null ∧ qdt (TX4 j).2.2.1 = 9) := by decide +kernel
theorem qdf5 : ∀ j, j < 14 → (defaultValue (tyX5 j) = .int 0 ∧ qdt (TX5 j).2.2.1 ≠ 1 ∧ qdt (TX5 j).2.2.1 ≠ 9) ∨ (defaultValue (tyX5 j) = .long 0 ∧ qdt (TX5 j).2.2.1 = 1) ∨ (defaultValue (tyX5 j) = .null ∧ qdt (TX5 j).2.2.1 = 9) := by decide +kernel
theorem qdf6 : ∀ j, j < 6 → (defaultValue (tyX6 j) = .int 0 ∧ qdt (TX6 j).2.2.1 ≠ 1 ∧ qdt (TX6 j).2.2.1 ≠ 9) ∨ (defaultValue (tyX6 j) = .long 0 ∧ qdt (TX6 j).2.2.1 = 1) ∨ (defaultValue (tyX6 j) = .null ∧ qdt (TX6 j).2.2.1 = 9) := by decide +kernel
theorem qdf7 : ∀ j, j < 12 → (defaultValue (tyX7 j) = .int 0 ∧ qdt (TX7 j).2.2.1 ≠ 1 ∧ qdt (TX7 j).2.2.1 ≠ 9) ∨ (defaultValue (tyX7 j) = .long 0 ∧ qdt (TX7 j).2.2.1 = 1) ∨ (defaultValue (tyX7 j) = .null ∧ qdt (TX7 j).2.2.1 = 9) := by decide +kernel
theorem qdf8 : ∀ j, j < 4 → (defaultValue (tyX8 j) = .int 0 ∧ qdt (TX8 j).2.2.1 ≠ 1 ∧ qdt (TX8 j).2.2.1 ≠ 9) ∨ (defaultValue (tyX8 j) = .long 0 ∧ qdt (TX8 j).2.2.1 = 1) ∨ (defaultValue (tyX8 j) = .null ∧ qdt (TX8 j).2.2.1 = 9) := by decide +kernel
theorem qdf9 : ∀ j, j < 6 → (defaultValue (tyX9 j) = .int 0 ∧ qdt (TX9 j).2.2.1 ≠ 1 ∧ qdt (TX9 j).2.2.1 ≠ 9) ∨ (defaultValue (tyX9 j) = .long 0 ∧ qdt (TX9 j).2.2.1 = 1) ∨ (defaultValue (tyX9 j) = .null ∧ qdt (TX9 j).2.2.1 = 9) := by decide +kernel
theorem qdf10 : ∀ j, j < 17 → (defaultValue (tyX10 j) = .int 0 ∧ qdt (TX10 j).2.2.1 ≠ 1 ∧ qdt (TX10 j).2.2.1 ≠ 9) ∨ (defaultValue (tyX10 j) = .long 0 ∧ qdt (TX10 j).2.2.1 = 1) ∨ (defaultValue (tyX10 j) = .null ∧ qdt (TX10 j).2.2.1 = 9) := by decide +kernel
theorem qdf11 : ∀ j, j < 102 → (defaultValue (tyX11 j) = .int 0 ∧ qdt (TX11 j).2.2.1 ≠ 1 ∧ qdt (TX11 j).2.2.1 ≠ 9) ∨ (defaultValue (tyX11 j) = .long 0 ∧ qdt (TX11 j).2.2.1 = 1) ∨ (defaultValue (tyX11 j) = .null ∧ qdt (TX11 j).2.2.1 = 9) := by decide +kernel
theorem q_dfl1 {ρ : Int → Nat} {ty : FieldType} {t : Nat} (h : (defaultValue ty = .int 0 ∧ t ≠ 1 ∧ t ≠ 9) ∨ (defaultValue ty = .long 0 ∧ t = 1) ∨ (defaultValue ty = .null ∧ t = 9)) : defaultValue ty = qfv ρ t 0 (-1) := by
  rcases h with ⟨h1, h2, h3⟩ | ⟨h1, h2⟩ | ⟨h1, h2⟩
  · rw [h1]
    unfold qfv
    split
    · exact absurd rfl h2
    · exact absurd rfl h3
    · rfl
  · rw [h1, h2]; rfl
  · rw [h1, h2]; rfl
theorem q_dflt {ρ : Int → Nat} {ci : Nat} {K : String} {T : u_T} {N : Nat} (h : qcl[ci]? = some (K, T, N)) {j : Nat} (hj : j < N) : defaultValue (qty.getD ci tyX0 j) = qfv ρ (qdt (T j).2.2.1) 0 (-1) := by
  have hlt : ci < 12 := (List.getElem?_eq_some_iff.mp h).1
  match ci, hlt, h with
  | 0, _, h => cases h; exact q_dfl1 (qdf0 j hj)
  | 1, _, h => cases h; exact q_dfl1 (qdf1 j hj)
  | 2, _, h => cases h; exact q_dfl1 (qdf2 j hj)
  | 3, _, h => cases h; exact q_dfl1 (qdf3 j hj)
  | 4, _, h => cases h; exact q_dfl1 (qdf4 j hj)
  | 5, _, h => cases h; exact q_dfl1 (qdf5 j hj)
  | 6, _, h => cases h; exact q_dfl1 (qdf6 j hj)
  | 7, _, h => cases h; exact q_dfl1 (qdf7 j hj)
  | 8, _, h => cases h; exact q_dfl1 (qdf8 j hj)
  | 9, _, h => cases h; exact q_dfl1 (qdf9 j hj)
  | 10, _, h => cases h; exact q_dfl1 (qdf10 j hj)
  | 11, _, h => cases h; exact q_dfl1 (qdf11 j hj)

/-! making cells, ends of methods, calls -/
theorem qfl_ne {h : qM} {a v b : Int} (hb : b ≠ a) : qfl h a v b = h b := by
  funext j
  simp [qfl, hb]
theorem qfl_row {h : qM} {a v : Int} : qfl h a v a = fun _ => v := by
  funext j
  simp [qfl]
theorem qen_ext {kA : Nat → ClassId} {ρ ρ' : Int → Nat} {p h : Int → Int} {c : Nat × Int} {n : Nat} (hp : ∀ i, p i < n) (hρ : ∀ k : Int, k < n → ρ' k = ρ k) : qen kA ρ' p h c = qen kA ρ p h c := by
  have e1 : ∀ i, qrf ρ' (p i) = qrf ρ (p i) := fun i => by unfold qrf; rw [hρ _ (hp i)]
  have e2 : ∀ t x i, qfv ρ' t x (p i) = qfv ρ t x (p i) := fun t x i => by
    unfold qfv
    split
    · rfl
    · rw [e1]
    · rfl
  unfold qen
  split <;> simp only [e1, e2]
/-- a cell more -/
theorem qws_push {kA : Nat → ClassId} {ρ ρ' : Int → Nat} {sh : qS} {pt h : qM} {c : Nat × Int} {q : Nat} {e : va_E} (hW : qWT (sh, pt, h)) (hρ : ∀ k : Int, k < sh.length → ρ' k = ρ k) (hq : ρ' sh.length = q) (he : qen kA ρ' (fun _ => -1) (fun _ => 0) c = e) :
    qws kA ρ (sh, pt, h) ++ [(q, e)] = qws kA ρ' (sh ++ [c], qfl pt sh.length (-1), qfl h sh.length 0) := by
  apply List.ext_getElem?
  intro j
  unfold qws
  simp only [List.getElem?_mapIdx]
  have hlen : (List.mapIdx (fun k c => (ρ k, qen kA ρ (pt k) (h k) c)) sh).length = sh.length := List.length_mapIdx
  by_cases hj : j < sh.length
  · rw [List.getElem?_append_left (by rw [hlen]; exact hj), List.getElem?_append_left hj, List.getElem?_mapIdx]
    cases hc : sh[j]? with
    | none => rfl
    | some c1 =>
      simp only [Option.map_some]
      have hne : (j : Int) ≠ (sh.length : Int) := by omega
      rw [qfl_ne hne, qfl_ne hne, hρ j (by omega), qen_ext (fun i => (hW j c1 hc).2.2 i) hρ]
  · rw [List.getElem?_append_right (by rw [hlen]; omega), List.getElem?_append_right (by omega), hlen]
    by_cases hj2 : j = sh.length
    · subst hj2
      simp only [Nat.sub_self, List.getElem?_cons_zero, Option.map_some]
      rw [qfl_row, qfl_row, hq, he]
    · have e1 : j - sh.length = (j - sh.length - 1) + 1 := by omega
      rw [e1]
      simp
theorem qWT_push {sh : qS} {pt h : qM} {c : Nat × Int} (hW : qWT (sh, pt, h)) (hc : 0 ≤ c.2 ∧ c.2 ≤ 100000) : qWT (sh ++ [c], qfl pt sh.length (-1), qfl h sh.length 0) := by
  have q0 : ∀ t, qin t 0 := fun t => by
    unfold qin
    split <;> first | decide | trivial
  intro k c1 hk
  show (0 ≤ c1.2 ∧ c1.2 ≤ 100000) ∧ (∀ i : Int, qin (qtg c1.1 i) (qfl h sh.length 0 k i)) ∧ ∀ i : Int, qfl pt sh.length (-1) k i < ((sh ++ [c]).length : Int)
  have hl : ((sh ++ [c]).length : Int) = sh.length + 1 := by simp
  rw [hl]
  by_cases hj : k < sh.length
  · have hk1 : sh[k]? = some c1 := by
      have hk2 : (sh ++ [c])[k]? = some c1 := hk
      rwa [List.getElem?_append_left hj] at hk2
    obtain ⟨h1, h2, h3⟩ := hW k c1 hk1
    have hne : (k : Int) ≠ (sh.length : Int) := by omega
    rw [qfl_ne hne, qfl_ne hne]
    refine ⟨h1, h2, fun i => ?_⟩
    have h4 : pt k i < (sh.length : Int) := h3 i
    omega
  · have hk2 : (sh ++ [c])[k]? = some c1 := hk
    have hk3 := (List.getElem?_eq_some_iff.mp hk2).1
    rw [List.length_append, List.length_singleton] at hk3
    have e : k = sh.length := by omega
    subst e
    rw [List.getElem?_append_right (Nat.le_refl _), Nat.sub_self] at hk2
    cases hk2
    rw [qfl_row, qfl_row]
    exact ⟨hc, fun i => q0 _, fun i => by show (-1 : Int) < _; omega⟩
theorem qRo_ext {X : qX} {B0 : Nat} {ρ ρ' : Int → Nat} {s : State} (hρ : ∀ k : Int, k < 0 → ρ' k = ρ k) (h : qRo X B0 ρ s) : qRo X B0 ρ' s := by
  refine ⟨fun a t N f hr => ?_, fun q hq => ?_⟩
  · have ha : a < 0 := by
      by_cases h1 : a < 0
      · exact h1
      · have e : qro X a = none := by
          unfold qro
          rw [if_neg (by omega), if_neg (by omega), if_neg (by omega), if_neg (by omega)]
        rw [e] at hr
        cases hr
    rw [hρ a ha]
    exact h.1 a t N f hr
  · have e : q.2.2.2 < 0 := by
      simp only [qss, List.mem_cons, List.not_mem_nil, or_false] at hq
      rcases hq with rfl | rfl | rfl <;> decide
    rw [hρ _ e]
    exact h.2 q hq
/-- the world as another state of the same heap and tables has it -/
theorem qWd.at {X : qX} {B0 : Nat} {D : va_G} {kA : Nat → ClassId} {ρ : Int → Nat} {s U : State} {H : Heap} {locs : List Loc} {g : qG} (h : qWd X B0 D kA ρ s H locs g) (hU : U.heap = H) (hW : s.WarmedH U.vm) : qWd X B0 D kA ρ U H [] g := by
  obtain ⟨hK, hP, hD, hS, hB, hRo, hNs, hWT⟩ := h
  have hvm := hW.alike
  have hkp : ∀ a : Nat, a < s.heap.size → ¬ (B0 ≤ a) → H[a]? = s.heap[a]? := fun a h1 h2 => hS.2.1 a h1 h2
  refine ⟨va_K.moved hvm hK, hP, hD, by rw [hU]; exact va_S.rf, by rw [hU]; exact Nat.le_trans hB hS.1, ⟨fun a t N f hr => ?_, fun q hq => ?_⟩, ⟨fun a i x hh hm => va_Nw.warmM hW (hNs.1 a i x hh hm), va_AO.moved hvm hNs.2⟩, hWT⟩
  · obtain ⟨z1, z2⟩ := hRo.1 a t N f hr
    rw [hU]
    exact ⟨(va_T.moved hvm z1).kept hkp, z2⟩
  · rw [hU]
    exact (va_Z.moved hvm (hRo.2 q hq)).kept hkp
theorem qWd.blind {X : qX} {B0 : Nat} {D : va_G} {kA : Nat → ClassId} {ρ : Int → Nat} {U : State} {g : qG} (G : JFrame) (mk : MethodId) (a : Array Value) (h : qWd X B0 D kA ρ U U.heap [] g) : qWd X B0 D kA ρ (U.calling G mk a) (U.calling G mk a).heap [] g := by
  have e1 : (U.calling G mk a).heap = U.heap := rfl
  have e2 : (U.calling G mk a).vm = U.vm := rfl
  have hvm : U.vm.Alike (U.calling G mk a).vm := by rw [e2]; exact Vm.Alike.refl _
  obtain ⟨hK, hP, hD, hS, hB, hRo, hNs, hWT⟩ := h
  exact ⟨va_K.moved hvm hK, hP, hD, va_S.rf, hB, ⟨fun q t N f hr => ⟨va_T.moved hvm (hRo.1 q t N f hr).1, (hRo.1 q t N f hr).2⟩, fun q hq => va_Z.moved hvm (hRo.2 q hq)⟩, ⟨fun q i x hh hm => va_Nw.same rfl e2.symm (hNs.1 q i x hh hm), va_AO.moved hvm hNs.2⟩, hWT⟩
section
variable {X : qX} {d rc rs : Nat} {y : qMT} {pc : Nat} {L S : List qV} {sh : qS} {pt h : qM} {Q : Option qV → qG → Prop}
theorem q_grow {ρ : Int → Nat} {q : Nat} {n : Nat} : ∃ ρ' : Int → Nat, (∀ k : Int, k < n → ρ' k = ρ k) ∧ ρ' n = q := ⟨fun k => if k < n then ρ k else q, fun k hk => if_pos hk, if_neg (by omega)⟩
theorem ev_new {idx ci : Nat} {K : String} {T : u_T} {N : Nat} (nx : Nat) (hnx : pc + 3 = nx) (hd : decode y.2.1 pc = .ok (.new idx, 3)) (hw : Cond.classLink y.1.cls idx K ∈ qw) (hc : qcl[ci]? = some (K, T, N)) (hN : N ≤ 1000) (k : Ev X d rc rs y nx L ((2, sh.length) :: S) (sh ++ [(ci + 5, (N : Int))], qfl pt sh.length (-1), qfl h sh.length 0) Q) : Ev X d (rc + 1) (rs + N) y pc L S (sh, pt, h) Q := by
  subst hnx
  intro p e R s m args below meth c B0 D kA ρ H locs cells slots ls C F M Wd okL okS hl
  obtain ⟨hK, hP, hD, hS, hB, hRo, hNs, hWT⟩ := id Wd
  have hqw := C.2.2.2.2.2.1
  have hii := qcl_ii hc
  refine va_new (ws := qws kA ρ (sh, pt, h)) (fs := (List.range N).map (fun j => qfv ρ (qdt (T j).2.2.1) 0 (-1))) C.1 C.2.1 hqw (qcl_in hc) (qty.getD ci tyX0) (qcl_ty hc) C.2.2.2.2.1 (hqw _ hw) (hqw _ hii.1) (hqw _ hii.2) hK hP hD hS (fun q hq => Nat.le_trans hB hq) hc ?_ (by omega) (by omega) hd fun q H1 hP1 hD1 hS1 => ?_
  · intro j hj
    have e1 := qcl_ty hc j hj
    have e2 : ((List.range N).map (fun j => qfv ρ (qdt (T j).2.2.1) 0 (-1))).getD j .null = qfv ρ (qdt (T j).2.2.1) 0 (-1) := by
      rw [List.getD_eq_getElem?_getD, q_fget (ρ := ρ) hj, Option.getD_some]
    exact (q_dflt hc hj).trans e2.symm
  · obtain ⟨ρ', r1, r2⟩ := q_grow (ρ := ρ) (q := q) (n := sh.length)
    have e1 := qws_push (kA := kA) (c := (ci + 5, (N : Int))) (e := .inr (ci, (List.range N).map (fun j => qfv ρ (qdt (T j).2.2.1) 0 (-1)))) hWT r1 r2 (by
      show (Sum.inr (ci, (List.range (N : Int).toNat).map _) : va_E) = _
      rw [qT_eq hc, Int.toNat_natCast]
      rfl)
    rw [e1] at hP1 hD1
    have hlen : (sh ++ [(ci + 5, (N : Int))]).length = sh.length + 1 := by simp
    have k1 := k p e R s m args below meth c B0 D kA ρ' H1 locs (cells + 1) (slots + N) ls C F ⟨by omega, by omega⟩ ⟨hK, hP1, hD1, hS1, hB, qRo_ext (fun j hj => r1 j (by omega)) hRo, hNs, qWT_push hWT ⟨by omega, by show (N : Int) ≤ 100000; omega⟩⟩ (fun v hv => qok_mono (by show _ ≤ (sh ++ [(ci + 5, (N : Int))]).length; rw [hlen]; exact Nat.le_succ _) (okL v hv)) (q_cons (show (sh.length : Int) < ((sh ++ [(ci + 5, (N : Int))]).length : Int) by rw [hlen]; omega) (fun v hv => qok_mono (by show _ ≤ (sh ++ [(ci + 5, (N : Int))]).length; rw [hlen]; exact Nat.le_succ _) (okS v hv))) (by rw [qlc_ext okL r1]; exact hl)
    rw [List.map_cons, qcv_ref (by omega), r2, qmap_ext okS r1, show cells + 1 + rc = cells + (rc + 1) by omega, show slots + N + rs = slots + (rs + N) by omega] at k1
    exact W_mono (MQ_mono fun o t => qQ_mono (by show sh.length ≤ (sh ++ [(ci + 5, (N : Int))]).length; rw [hlen]; exact Nat.le_succ _) r1 (fun _ _ z => z) o t) k1
/-- which arrays: int, long, byte, boolean -/
def qat (kd : Nat) : ArrayType := match kd with
  | 0 => .int
  | 1 => .long
  | 2 => .byte
  | _ => .boolean
def qaw (kd : Nat) : FieldType := match kd with
  | 0 => .int
  | 1 => .long
  | 2 => .byte
  | _ => .boolean
theorem q_arrw : Cond.arrayClass .int ∈ qw ∧ Cond.arrayClass .long ∈ qw ∧ Cond.arrayClass .byte ∈ qw ∧ Cond.arrayClass .boolean ∈ qw := ⟨q_mem (i := 195) (by decide +kernel) rfl, q_mem (i := 196) (by decide +kernel) rfl, q_mem (i := 1249) (by decide +kernel) rfl, q_mem (i := 353) (by decide +kernel) rfl⟩
theorem q_arrK {kA : Nat → ClassId} {D : va_G} {s : State} {kd : Nat} (hkd : kd ≤ 3) (hK : va_K D qcl (qtys kA) s) {cA : ClassId} (hK1 : va_K D qcl (qtys kA ++ [(cA, qaw kd)]) s) : cA = kA kd := by
  have h1 := (hK1.2 5 (cA, qaw kd) rfl).2
  match kd, hkd with
  | 0, _ => exact Option.some.inj (h1.symm.trans (hK.2 0 _ rfl).2)
  | 1, _ => exact Option.some.inj (h1.symm.trans (hK.2 1 _ rfl).2)
  | 2, _ => exact Option.some.inj (h1.symm.trans (hK.2 2 _ rfl).2)
  | 3, _ => exact Option.some.inj (h1.symm.trans (hK.2 3 _ rfl).2)
theorem ev_newarr {kd : Nat} {n : Int} (hkd : kd ≤ 3) (nx : Nat) (hnx : pc + 2 = nx) (hd : decode y.2.1 pc = .ok (.newarray (qat kd), 2)) (h0 : 0 ≤ n) (h1 : n ≤ 100000) (k : Ev X d rc rs y nx L ((2, sh.length) :: S) (sh ++ [(kd, n)], qfl pt sh.length (-1), qfl h sh.length 0) Q) : Ev X d (rc + 1) (rs + n.toNat) y pc L ((0, n) :: S) (sh, pt, h) Q := by
  subst hnx
  intro p e R s m args below meth c B0 D kA ρ H locs cells slots ls C F M Wd okL okS hl
  obtain ⟨o1, okS⟩ := List.forall_mem_cons.mp okS
  obtain ⟨hK, hP, hD, hS, hB, hRo, hNs, hWT⟩ := id Wd
  have hqw := C.2.2.2.2.2.1
  have hN : (Int32.ofInt n).toNatClampNeg = n.toNat := q_nat h0 (by omega)
  have hneg : ¬ Int32.ofInt n < 0 := fun q => by
    have q1 : Int32.ofInt n < Int32.ofInt 0 := q
    rw [q_lt ⟨by omega, by omega⟩ q_I0] at q1
    omega
  have hlen : (sh ++ [(kd, n)]).length = sh.length + 1 := by simp
  have go : ∀ (q : Nat) (cA : ClassId) (H1 : Heap) (a0 : vp_A), qen kA ρ (fun _ => -1) (fun _ => 0) (kd, n) = .inl (kA kd, a0) → (∀ ρ' : Int → Nat, qen kA ρ' (fun _ => -1) (fun _ => 0) (kd, n) = .inl (kA kd, a0)) → va_K D qcl (qtys kA ++ [(cA, qaw kd)]) s → va_P D qcl (qws kA ρ (sh, pt, h) ++ [(q, .inl (cA, a0))]) H1 → va_D (fun q => B0 ≤ q) (qws kA ρ (sh, pt, h) ++ [(q, .inl (cA, a0))]) → va_S (fun q => B0 ≤ q) s.heap H1 locs →
      W p X.1 e R s m args below meth c H1 locs (cells + 1) (slots + n.toNat) (MQ below (qQ B0 D kA ρ sh.length Q) args s (cells + (rc + 1)) (slots + (rs + n.toNat)) (fun q => B0 ≤ q)) (F0 m (pc + 2) ls (.ref q :: S.map (qcv ρ))) := by
    intro q cA H1 a0 _ he hK1 hP1 hD1 hS1
    rw [q_arrK hkd hK hK1] at hP1 hD1
    obtain ⟨ρ', r1, r2⟩ := q_grow (ρ := ρ) (q := q) (n := sh.length)
    rw [qws_push (kA := kA) (c := (kd, n)) hWT r1 r2 (he ρ')] at hP1 hD1
    have k1 := k p e R s m args below meth c B0 D kA ρ' H1 locs (cells + 1) (slots + n.toNat) ls C F ⟨by omega, by omega⟩ ⟨hK, hP1, hD1, hS1, hB, qRo_ext (fun j hj => r1 j (by omega)) hRo, hNs, qWT_push hWT ⟨h0, h1⟩⟩ (fun v hv => qok_mono (by show _ ≤ (sh ++ [(kd, n)]).length; rw [hlen]; exact Nat.le_succ _) (okL v hv)) (q_cons (show (sh.length : Int) < ((sh ++ [(kd, n)]).length : Int) by rw [hlen]; omega) (fun v hv => qok_mono (by show _ ≤ (sh ++ [(kd, n)]).length; rw [hlen]; exact Nat.le_succ _) (okS v hv))) (by rw [qlc_ext okL r1]; exact hl)
    rw [List.map_cons, qcv_ref (by omega), r2, qmap_ext okS r1, show cells + 1 + rc = cells + (rc + 1) by omega, show slots + n.toNat + rs = slots + (rs + n.toNat) by omega] at k1
    exact W_mono (MQ_mono fun o t => qQ_mono (by show sh.length ≤ (sh ++ [(kd, n)]).length; rw [hlen]; exact Nat.le_succ _) r1 (fun _ _ z => z) o t) k1
  have hk4 : kd = 0 ∨ kd = 1 ∨ kd = 2 ∨ kd = 3 := by omega
  rcases hk4 with rfl | rfl | rfl | rfl
  · exact va_newa (ws := qws kA ρ (sh, pt, h)) (atype := .int) (ty := .int) (a0 := (n.toNat, .inl (fun _ => Int32.ofInt 0))) C.1 C.2.1 (hqw _ q_arrw.1) rfl hK hP hD hS (fun q hq => Nat.le_trans hB hq) (fun _ => rfl) hneg hN (by show n.toNat * 4 ≤ _; omega) (by omega) (by omega) hd (fun q cA H1 a b c d => go q cA H1 _ rfl (fun _ => rfl) a b c d)
  · exact va_newa (ws := qws kA ρ (sh, pt, h)) (atype := .long) (ty := .long) (a0 := (n.toNat, .inr (.inl (fun _ => Int64.ofInt 0)))) C.1 C.2.1 (hqw _ q_arrw.2.1) rfl hK hP hD hS (fun q hq => Nat.le_trans hB hq) (fun _ => rfl) hneg hN (by show n.toNat * 8 ≤ _; omega) (by omega) (by omega) hd (fun q cA H1 a b c d => go q cA H1 _ rfl (fun _ => rfl) a b c d)
  · exact va_newa (ws := qws kA ρ (sh, pt, h)) (atype := .byte) (ty := .byte) (a0 := (n.toNat, .inl (fun _ => Int32.ofInt 0))) C.1 C.2.1 (hqw _ q_arrw.2.2.1) rfl hK hP hD hS (fun q hq => Nat.le_trans hB hq) (fun _ => rfl) hneg hN (by show n.toNat * 1 ≤ _; omega) (by omega) (by omega) hd (fun q cA H1 a b c d => go q cA H1 _ rfl (fun _ => rfl) a b c d)
  · exact va_newa (ws := qws kA ρ (sh, pt, h)) (atype := .boolean) (ty := .boolean) (a0 := (n.toNat, .inl (fun _ => Int32.ofInt 0))) C.1 C.2.1 (hqw _ q_arrw.2.2.2) rfl hK hP hD hS (fun q hq => Nat.le_trans hB hq) (fun _ => rfl) hneg hN (by show n.toNat * 1 ≤ _; omega) (by omega) (by omega) hd (fun q cA H1 a b c d => go q cA H1 _ rfl (fun _ => rfl) a b c d)
theorem ev_anew {idx : Nat} {n : Int} (nx : Nat) (hnx : pc + 3 = nx) (hd : decode y.2.1 pc = .ok (.anewarray idx, 3)) (hw : Cond.classLink y.1.cls idx RX8 ∈ qw) (h0 : 0 ≤ n) (h1 : n ≤ 100000) (k : Ev X d rc rs y nx L ((2, sh.length) :: S) (sh ++ [(4, n)], qfl pt sh.length (-1), qfl h sh.length 0) Q) : Ev X d (rc + 1) (rs + n.toNat) y pc L ((0, n) :: S) (sh, pt, h) Q := by
  subst hnx
  intro p e R s m args below meth c B0 D kA ρ H locs cells slots ls C F M Wd okL okS hl
  obtain ⟨o1, okS⟩ := List.forall_mem_cons.mp okS
  obtain ⟨hK, hP, hD, hS, hB, hRo, hNs, hWT⟩ := id Wd
  have hqw := C.2.2.2.2.2.1
  have hN : (Int32.ofInt n).toNatClampNeg = n.toNat := q_nat h0 (by omega)
  have hneg : ¬ Int32.ofInt n < 0 := fun q => by
    have q1 : Int32.ofInt n < Int32.ofInt 0 := q
    rw [q_lt ⟨by omega, by omega⟩ q_I0] at q1
    omega
  have hlen : (sh ++ [(4, n)]).length = sh.length + 1 := by simp
  refine va_newq (ws := qws kA ρ (sh, pt, h)) C.1 C.2.1 C.2.2.2.2.1 (hqw _ hw) hNs.2 hK hP hD hS (fun q hq => Nat.le_trans hB hq) hneg hN (by omega) (by omega) (by omega) hd fun q cA H1 hK1 hP1 hD1 hS1 => ?_
  have ecA : cA = kA 4 := by
    obtain ⟨_, _, _, _, _, h1⟩ := (hK1.2 5 (cA, .object RX8) rfl).2
    obtain ⟨_, _, _, _, _, h2⟩ := (hK.2 4 _ rfl).2
    exact Option.some.inj (h1.symm.trans h2)
  rw [ecA] at hP1 hD1
  obtain ⟨ρ', r1, r2⟩ := q_grow (ρ := ρ) (q := q) (n := sh.length)
  rw [qws_push (kA := kA) (c := (4, n)) hWT r1 r2 (e := .inl (kA 4, n.toNat, .inr (.inr (.inr (.inr (fun _ => none)))))) rfl] at hP1 hD1
  have k1 := k p e R s m args below meth c B0 D kA ρ' H1 locs (cells + 1) (slots + n.toNat) ls C F ⟨by omega, by omega⟩ ⟨hK, hP1, hD1, hS1, hB, qRo_ext (fun j hj => r1 j (by omega)) hRo, hNs, qWT_push hWT ⟨h0, h1⟩⟩ (fun v hv => qok_mono (by show _ ≤ (sh ++ [(4, n)]).length; rw [hlen]; exact Nat.le_succ _) (okL v hv)) (q_cons (show (sh.length : Int) < ((sh ++ [(4, n)]).length : Int) by rw [hlen]; omega) (fun v hv => qok_mono (by show _ ≤ (sh ++ [(4, n)]).length; rw [hlen]; exact Nat.le_succ _) (okS v hv))) (by rw [qlc_ext okL r1]; exact hl)
  rw [List.map_cons, qcv_ref (by omega), r2, qmap_ext okS r1, show cells + 1 + rc = cells + (rc + 1) by omega, show slots + n.toNat + rs = slots + (rs + n.toNat) by omega] at k1
  exact W_mono (MQ_mono fun o t => qQ_mono (by show sh.length ≤ (sh ++ [(4, n)]).length; rw [hlen]; exact Nat.le_succ _) r1 (fun _ _ z => z) o t) k1
end
section
variable {X : qX} {d rc rs : Nat} {y : qMT} {pc : Nat} {L : List qV} {g : qG} {Q : Option qV → qG → Prop}
theorem ev_ireturn {v : Int} (hd : decode y.2.1 pc = .ok (.ireturn, 1)) (hr : y.2.2.2 = some .int ∨ (y.2.2.2 = some .boolean ∧ 0 ≤ v ∧ v ≤ 1)) (hq : Q (some (0, v)) g) : Ev X d rc rs y pc L [(0, v)] g Q := by
  intro p e R s m args below meth c B0 D kA ρ H locs cells slots ls C F M Wd okL okS hl
  obtain ⟨hK, hP, hD, hS, hB, hRo, hNs, hWT⟩ := id Wd
  have hlocks := C.2.2.2.2.2.2.1
  have hfin : ∀ t : State, t.heap = H → s.WarmedH t.vm → qQ B0 D kA ρ g.1.length Q args s (.returned (some (.int (Int32.ofInt v)))) t := fun t ht hW => ⟨some (0, v), g, ρ, hq, rfl, fun _ _ => rfl, Nat.le_refl _, by rw [ht]; exact hP, hD, hWT, fun w hw => by cases hw; exact okS _ List.mem_cons_self, hS.F ht⟩
  refine W.widen (k := cells + rc) (n := slots + rs) (by omega) (by omega) ?_
  rcases hr with hr | ⟨hr, h0, h1⟩
  · exact W.zret (v := Int32.ofInt v) (ty := .int) C.1 C.2.1 (C.2.2.1.trans hr) rfl hfin (fun q hq => hS.2.2 q hq) hd
  · refine W.zret (v := Int32.ofInt v) (ty := .boolean) C.1 C.2.1 (C.2.2.1.trans hr) ?_ hfin (fun q hq => hS.2.2 q hq) hd
    have hv : v = 0 ∨ v = 1 := by omega
    rcases hv with rfl | rfl <;> decide
theorem ev_lreturn {v : Int} (hd : decode y.2.1 pc = .ok (.lreturn, 1)) (hr : y.2.2.2 = some .long) (hq : Q (some (1, v)) g) : Ev X d rc rs y pc L [(1, v)] g Q := by
  intro p e R s m args below meth c B0 D kA ρ H locs cells slots ls C F M Wd okL okS hl
  obtain ⟨hK, hP, hD, hS, hB, hRo, hNs, hWT⟩ := id Wd
  have hlocks := C.2.2.2.2.2.2.1
  refine W.widen (k := cells + rc) (n := slots + rs) (by omega) (by omega) ?_
  exact W.lret (v := Int64.ofInt v) C.1 C.2.1 (C.2.2.1.trans hr) (fun t ht hW => ⟨some (1, v), g, ρ, hq, rfl, fun _ _ => rfl, Nat.le_refl _, by rw [ht]; exact hP, hD, hWT, fun w hw => by cases hw; exact okS _ List.mem_cons_self, hS.F ht⟩) (fun q hq => hS.2.2 q hq) hd
theorem ev_return (hd : decode y.2.1 pc = .ok (.return_, 1)) (hr : y.2.2.2 = none) (hq : Q none g) : Ev X d rc rs y pc L [] g Q := by
  intro p e R s m args below meth c B0 D kA ρ H locs cells slots ls C F M Wd okL okS hl
  obtain ⟨hK, hP, hD, hS, hB, hRo, hNs, hWT⟩ := id Wd
  have hlocks := C.2.2.2.2.2.2.1
  refine W.widen (k := cells + rc) (n := slots + rs) (by omega) (by omega) ?_
  exact W.vret C.1 C.2.1 (C.2.2.1.trans hr) (fun t ht hW => ⟨none, g, ρ, hq, rfl, fun _ _ => rfl, Nat.le_refl _, by rw [ht]; exact hP, hD, hWT, fun w hw => (by cases hw), hS.F ht⟩) (fun q hq => hS.2.2 q hq) hd
end
