theorem q_ofNat {n : Int} (h : 0 ≤ n) : Int32.ofNat n.toNat = Int32.ofInt n := by
  rw [← Int32.ofInt_eq_ofNat, Int.toNat_of_nonneg h]
theorem qcv_ref {ρ : Int → Nat} {x : Int} (h : x ≠ -1) : qcv ρ (2, x) = .ref (ρ x) := by simp [qcv, qrf, h, va_rf]
theorem q_idx {i : Int} (h0 : 0 ≤ i) (h1 : i ≤ 2147483647) : (((Int32.ofInt i).toNatClampNeg : Nat) : Int) = i := by rw [q_nat h0 h1]; omega
theorem qWT_up {sh : qS} {pt h : qM} {a : Nat} {i v : Int} {c : Nat × Int} (hW : qWT (sh, pt, h)) (hc : sh[a]? = some c) (hv : qin (qtg c.1 i) v) : qWT (sh, pt, qup h a i v) := by
  intro k c1 hk
  obtain ⟨h1, h2, h3⟩ := hW k c1 hk
  refine ⟨h1, fun j => ?_, h3⟩
  show qin (qtg c1.1 j) (qup h a i v k j)
  unfold qup
  split
  · rename_i q
    obtain ⟨q1, q2⟩ := q
    have e : k = a := Int.ofNat.inj q1
    subst e; subst q2
    have e2 : c1 = c := Option.some.inj (hk.symm.trans hc)
    subst e2
    exact hv
  · exact h2 j
theorem qWT_upP {sh : qS} {pt h : qM} {a : Nat} {i v : Int} (hW : qWT (sh, pt, h)) (hv : v < sh.length) : qWT (sh, qup pt a i v, h) := by
  intro k c1 hk
  obtain ⟨h1, h2, h3⟩ := hW k c1 hk
  refine ⟨h1, h2, fun j => ?_⟩
  show qup pt a i v k j < (sh.length : Int)
  unfold qup
  split
  · exact hv
  · exact h3 j
section
variable {X : qX} {d rc rs : Nat} {y : qMT} {pc : Nat} {L S : List qV} {sh : qS} {pt h : qM} {Q : Option qV → qG → Prop}
theorem ev_iaload {a i n : Int} (nx : Nat) (hnx : pc + 1 = nx) (hd : decode y.2.1 pc = .ok (.iaload, 1)) (hs : qsh sh a = some (0, n)) (h0 : 0 ≤ i) (h1 : i < n) (k : Ev X d rc rs y nx L ((0, h a i) :: S) (sh, pt, h) Q) : Ev X d rc rs y pc L ((0, i) :: (2, a) :: S) (sh, pt, h) Q := by
  subst hnx
  intro p e R s m args below meth c B0 D kA ρ H locs cells slots ls C F M Wd okL okS hl
  obtain ⟨kk, rfl, hk⟩ := qsh_spec hs
  obtain ⟨o1, okS⟩ := List.forall_mem_cons.mp okS
  obtain ⟨o2, okS⟩ := List.forall_mem_cons.mp okS
  obtain ⟨hK, hP, hD, hS, hB, hRo, hNs, hWT⟩ := id Wd
  obtain ⟨w1, w2, w3⟩ := hWT kk _ hk
  have hn : n ≤ 100000 := w1.2
  have hent := qws_get (kA := kA) (ρ := ρ) (g := (sh, pt, h)) hk
  rw [List.map_cons, List.map_cons, qcv_ref (by omega)]
  refine va_iald (ws := qws kA ρ (sh, pt, h)) C.1 C.2.1 hK hP kk 0 hent rfl (q_in h0 h1 (by omega)) hd ?_
  have k1 := k p e R s m args below meth c B0 D kA ρ H locs cells slots ls C F M Wd okL (q_cons (w2 i) okS) hl
  rw [q_idx h0 (by omega)]
  exact k1
theorem ev_laload {a i n : Int} (nx : Nat) (hnx : pc + 1 = nx) (hd : decode y.2.1 pc = .ok (.laload, 1)) (hs : qsh sh a = some (1, n)) (h0 : 0 ≤ i) (h1 : i < n) (k : Ev X d rc rs y nx L ((1, h a i) :: S) (sh, pt, h) Q) : Ev X d rc rs y pc L ((0, i) :: (2, a) :: S) (sh, pt, h) Q := by
  subst hnx
  intro p e R s m args below meth c B0 D kA ρ H locs cells slots ls C F M Wd okL okS hl
  obtain ⟨kk, rfl, hk⟩ := qsh_spec hs
  obtain ⟨o1, okS⟩ := List.forall_mem_cons.mp okS
  obtain ⟨o2, okS⟩ := List.forall_mem_cons.mp okS
  obtain ⟨hK, hP, hD, hS, hB, hRo, hNs, hWT⟩ := id Wd
  obtain ⟨w1, w2, w3⟩ := hWT kk _ hk
  have hn : n ≤ 100000 := w1.2
  have hent := qws_get (kA := kA) (ρ := ρ) (g := (sh, pt, h)) hk
  rw [List.map_cons, List.map_cons, qcv_ref (by omega)]
  refine va_lald (ws := qws kA ρ (sh, pt, h)) C.1 C.2.1 hK hP kk 1 hent rfl (q_in h0 h1 (by omega)) hd ?_
  have k1 := k p e R s m args below meth c B0 D kA ρ H locs cells slots ls C F M Wd okL (q_cons (w2 i) okS) hl
  rw [q_idx h0 (by omega)]
  exact k1
theorem ev_baload {a i n : Int} (nx : Nat) (hnx : pc + 1 = nx) (hd : decode y.2.1 pc = .ok (.baload, 1)) (hs : qsh sh a = some (2, n)) (h0 : 0 ≤ i) (h1 : i < n) (k : Ev X d rc rs y nx L ((0, h a i) :: S) (sh, pt, h) Q) : Ev X d rc rs y pc L ((0, i) :: (2, a) :: S) (sh, pt, h) Q := by
  subst hnx
  intro p e R s m args below meth c B0 D kA ρ H locs cells slots ls C F M Wd okL okS hl
  obtain ⟨kk, rfl, hk⟩ := qsh_spec hs
  obtain ⟨o1, okS⟩ := List.forall_mem_cons.mp okS
  obtain ⟨o2, okS⟩ := List.forall_mem_cons.mp okS
  obtain ⟨hK, hP, hD, hS, hB, hRo, hNs, hWT⟩ := id Wd
  obtain ⟨w1, w2, w3⟩ := hWT kk _ hk
  have hn : n ≤ 100000 := w1.2
  have hent := qws_get (kA := kA) (ρ := ρ) (g := (sh, pt, h)) hk
  rw [List.map_cons, List.map_cons, qcv_ref (by omega)]
  refine va_bald (ws := qws kA ρ (sh, pt, h)) C.1 C.2.1 hK hP kk 2 hent rfl (q_in h0 h1 (by omega)) hd ?_
  have w4 : -128 ≤ h kk i ∧ h kk i ≤ 127 := w2 i
  have k1 := k p e R s m args below meth c B0 D kA ρ H locs cells slots ls C F M Wd okL (q_cons (show qI (h kk i) from ⟨by omega, by omega⟩) okS) hl
  rw [q_idx h0 (by omega)]
  exact k1
theorem ev_zaload {a i n : Int} (nx : Nat) (hnx : pc + 1 = nx) (hd : decode y.2.1 pc = .ok (.baload, 1)) (hs : qsh sh a = some (3, n)) (h0 : 0 ≤ i) (h1 : i < n) (k : Ev X d rc rs y nx L ((0, h a i) :: S) (sh, pt, h) Q) : Ev X d rc rs y pc L ((0, i) :: (2, a) :: S) (sh, pt, h) Q := by
  subst hnx
  intro p e R s m args below meth c B0 D kA ρ H locs cells slots ls C F M Wd okL okS hl
  obtain ⟨kk, rfl, hk⟩ := qsh_spec hs
  obtain ⟨o1, okS⟩ := List.forall_mem_cons.mp okS
  obtain ⟨o2, okS⟩ := List.forall_mem_cons.mp okS
  obtain ⟨hK, hP, hD, hS, hB, hRo, hNs, hWT⟩ := id Wd
  obtain ⟨w1, w2, w3⟩ := hWT kk _ hk
  have hn : n ≤ 100000 := w1.2
  have hent := qws_get (kA := kA) (ρ := ρ) (g := (sh, pt, h)) hk
  rw [List.map_cons, List.map_cons, qcv_ref (by omega)]
  refine va_zald (ws := qws kA ρ (sh, pt, h)) C.1 C.2.1 hK hP kk 3 hent rfl (q_in h0 h1 (by omega)) hd ?_
  have w4 : 0 ≤ h kk i ∧ h kk i ≤ 1 := w2 i
  have k1 := k p e R s m args below meth c B0 D kA ρ H locs cells slots ls C F M Wd okL (q_cons (show qI (h kk i) from ⟨by omega, by omega⟩) okS) hl
  rw [q_idx h0 (by omega)]
  exact k1
theorem ev_aaload {a i n v : Int} (nx : Nat) (hnx : pc + 1 = nx) (hd : decode y.2.1 pc = .ok (.aaload, 1)) (hs : qsh sh a = some (4, n)) (h0 : 0 ≤ i) (h1 : i < n) (hv : pt a i = v) (k : Ev X d rc rs y nx L ((2, v) :: S) (sh, pt, h) Q) : Ev X d rc rs y pc L ((0, i) :: (2, a) :: S) (sh, pt, h) Q := by
  subst hnx
  subst hv
  intro p e R s m args below meth c B0 D kA ρ H locs cells slots ls C F M Wd okL okS hl
  obtain ⟨kk, rfl, hk⟩ := qsh_spec hs
  obtain ⟨o1, okS⟩ := List.forall_mem_cons.mp okS
  obtain ⟨o2, okS⟩ := List.forall_mem_cons.mp okS
  obtain ⟨hK, hP, hD, hS, hB, hRo, hNs, hWT⟩ := id Wd
  obtain ⟨w1, w2, w3⟩ := hWT kk _ hk
  have hn : n ≤ 100000 := w1.2
  have hent := qws_get (kA := kA) (ρ := ρ) (g := (sh, pt, h)) hk
  rw [List.map_cons, List.map_cons, qcv_ref (by omega)]
  refine va_aldq (ws := qws kA ρ (sh, pt, h)) C.1 C.2.1 hK hP kk 4 hent rfl (q_in h0 h1 (by omega)) hd ?_
  have k1 := k p e R s m args below meth c B0 D kA ρ H locs cells slots ls C F M Wd okL (q_cons (w3 i) okS) hl
  rw [q_idx h0 (by omega)]
  exact k1
theorem ev_iastore {a i n v : Int} (nx : Nat) (hnx : pc + 1 = nx) (hd : decode y.2.1 pc = .ok (.iastore, 1)) (hs : qsh sh a = some (0, n)) (h0 : 0 ≤ i) (h1 : i < n) (k : Ev X d rc rs y nx L S (sh, pt, qup h a i v) Q) : Ev X d rc rs y pc L ((0, v) :: (0, i) :: (2, a) :: S) (sh, pt, h) Q := by
  subst hnx
  intro p e R s m args below meth c B0 D kA ρ H locs cells slots ls C F M Wd okL okS hl
  obtain ⟨kk, rfl, hk⟩ := qsh_spec hs
  obtain ⟨o0, okS⟩ := List.forall_mem_cons.mp okS
  obtain ⟨o1, okS⟩ := List.forall_mem_cons.mp okS
  obtain ⟨o2, okS⟩ := List.forall_mem_cons.mp okS
  obtain ⟨hK, hP, hD, hS, hB, hRo, hNs, hWT⟩ := id Wd
  obtain ⟨w1, w2, w3⟩ := hWT kk _ hk
  have hn : n ≤ 100000 := w1.2
  have hent := qws_get (kA := kA) (ρ := ρ) (g := (sh, pt, h)) hk
  rw [List.map_cons, List.map_cons, List.map_cons, qcv_ref (by omega)]
  refine va_iast (ws := qws kA ρ (sh, pt, h)) (x := Int32.ofInt v) C.1 C.2.1 hK hP hD hS kk 0 hent rfl (q_in h0 h1 (by omega)) hd fun H1 locs1 hP1 hD1 hS1 => ?_
  have e1 := qws_set (kA := kA) (ρ := ρ) (pt := pt) (pt' := pt) (h := h) (h' := qup h kk i v) hk (e := .inl (kA 0, n.toNat, .inl (upd (fun j : Nat => Int32.ofInt (h kk j)) (Int32.ofInt i).toNatClampNeg (Int32.ofInt v)))) (by rw [qup_row, ← q_upd h0 (by omega)]; rfl) (fun _ _ => rfl) (fun j hj => qup_ne (q_cast_ne hj))
  rw [e1] at hP1 hD1
  exact k p e R s m args below meth c B0 D kA ρ H1 locs1 cells slots ls C F M ⟨hK, hP1, hD1, hS1, hB, hRo, hNs, qWT_up hWT hk o0⟩ okL okS hl
theorem ev_lastore {a i n v : Int} (nx : Nat) (hnx : pc + 1 = nx) (hd : decode y.2.1 pc = .ok (.lastore, 1)) (hs : qsh sh a = some (1, n)) (h0 : 0 ≤ i) (h1 : i < n) (k : Ev X d rc rs y nx L S (sh, pt, qup h a i v) Q) : Ev X d rc rs y pc L ((1, v) :: (0, i) :: (2, a) :: S) (sh, pt, h) Q := by
  subst hnx
  intro p e R s m args below meth c B0 D kA ρ H locs cells slots ls C F M Wd okL okS hl
  obtain ⟨kk, rfl, hk⟩ := qsh_spec hs
  obtain ⟨o0, okS⟩ := List.forall_mem_cons.mp okS
  obtain ⟨o1, okS⟩ := List.forall_mem_cons.mp okS
  obtain ⟨o2, okS⟩ := List.forall_mem_cons.mp okS
  obtain ⟨hK, hP, hD, hS, hB, hRo, hNs, hWT⟩ := id Wd
  obtain ⟨w1, w2, w3⟩ := hWT kk _ hk
  have hn : n ≤ 100000 := w1.2
  have hent := qws_get (kA := kA) (ρ := ρ) (g := (sh, pt, h)) hk
  rw [List.map_cons, List.map_cons, List.map_cons, qcv_ref (by omega)]
  refine va_last (ws := qws kA ρ (sh, pt, h)) (x := Int64.ofInt v) C.1 C.2.1 hK hP hD hS kk 1 hent rfl (q_in h0 h1 (by omega)) hd fun H1 locs1 hP1 hD1 hS1 => ?_
  have e1 := qws_set (kA := kA) (ρ := ρ) (pt := pt) (pt' := pt) (h := h) (h' := qup h kk i v) hk (e := .inl (kA 1, n.toNat, .inr (.inl (vp_updL (fun j : Nat => Int64.ofInt (h kk j)) (Int32.ofInt i).toNatClampNeg (Int64.ofInt v))))) (by rw [qup_row, ← q_updL h0 (by omega)]; rfl) (fun _ _ => rfl) (fun j hj => qup_ne (q_cast_ne hj))
  rw [e1] at hP1 hD1
  exact k p e R s m args below meth c B0 D kA ρ H1 locs1 cells slots ls C F M ⟨hK, hP1, hD1, hS1, hB, hRo, hNs, qWT_up hWT hk o0⟩ okL okS hl
theorem q_narb {v : Int} (h : -128 ≤ v ∧ v ≤ 127) : vp_nar .byte (Int32.ofInt v) = Int32.ofInt v := by
  rw [vp_nar_byte]
  rw [← Int32.toInt_inj]
  rw [q_toI ⟨by omega, by omega⟩]
  simp only [Int8.toInt_toInt32, Int32.toInt_toInt8]
  rw [q_toI ⟨by omega, by omega⟩]
  rw [Int.bmod_def]
  split <;> omega
theorem q_narz {v : Int} (h : 0 ≤ v ∧ v ≤ 1) : vp_nar .boolean (Int32.ofInt v) = Int32.ofInt v := by
  have : v = 0 ∨ v = 1 := by omega
  rcases this with rfl | rfl <;> decide
theorem ev_bastore {a i n v : Int} (nx : Nat) (hnx : pc + 1 = nx) (hd : decode y.2.1 pc = .ok (.bastore, 1)) (hs : qsh sh a = some (2, n)) (h0 : 0 ≤ i) (h1 : i < n) (hb : -128 ≤ v ∧ v ≤ 127) (k : Ev X d rc rs y nx L S (sh, pt, qup h a i v) Q) : Ev X d rc rs y pc L ((0, v) :: (0, i) :: (2, a) :: S) (sh, pt, h) Q := by
  subst hnx
  intro p e R s m args below meth c B0 D kA ρ H locs cells slots ls C F M Wd okL okS hl
  obtain ⟨kk, rfl, hk⟩ := qsh_spec hs
  obtain ⟨o0, okS⟩ := List.forall_mem_cons.mp okS
  obtain ⟨o1, okS⟩ := List.forall_mem_cons.mp okS
  obtain ⟨o2, okS⟩ := List.forall_mem_cons.mp okS
  obtain ⟨hK, hP, hD, hS, hB, hRo, hNs, hWT⟩ := id Wd
  obtain ⟨w1, w2, w3⟩ := hWT kk _ hk
  have hn : n ≤ 100000 := w1.2
  have hent := qws_get (kA := kA) (ρ := ρ) (g := (sh, pt, h)) hk
  rw [List.map_cons, List.map_cons, List.map_cons, qcv_ref (by omega)]
  refine va_bast (ws := qws kA ρ (sh, pt, h)) (x := Int32.ofInt v) C.1 C.2.1 hK hP hD hS kk 2 hent rfl (q_in h0 h1 (by omega)) hd fun H1 locs1 hP1 hD1 hS1 => ?_
  rw [q_narb hb] at hP1 hD1
  have e1 := qws_set (kA := kA) (ρ := ρ) (pt := pt) (pt' := pt) (h := h) (h' := qup h kk i v) hk (e := .inl (kA 2, n.toNat, .inl (upd (fun j : Nat => Int32.ofInt (h kk j)) (Int32.ofInt i).toNatClampNeg (Int32.ofInt v)))) (by rw [qup_row, ← q_upd h0 (by omega)]; rfl) (fun _ _ => rfl) (fun j hj => qup_ne (q_cast_ne hj))
  rw [e1] at hP1 hD1
  exact k p e R s m args below meth c B0 D kA ρ H1 locs1 cells slots ls C F M ⟨hK, hP1, hD1, hS1, hB, hRo, hNs, qWT_up hWT hk hb⟩ okL okS hl
theorem ev_zastore {a i n v : Int} (nx : Nat) (hnx : pc + 1 = nx) (hd : decode y.2.1 pc = .ok (.bastore, 1)) (hs : qsh sh a = some (3, n)) (h0 : 0 ≤ i) (h1 : i < n) (hb : 0 ≤ v ∧ v ≤ 1) (k : Ev X d rc rs y nx L S (sh, pt, qup h a i v) Q) : Ev X d rc rs y pc L ((0, v) :: (0, i) :: (2, a) :: S) (sh, pt, h) Q := by
  subst hnx
  intro p e R s m args below meth c B0 D kA ρ H locs cells slots ls C F M Wd okL okS hl
  obtain ⟨kk, rfl, hk⟩ := qsh_spec hs
  obtain ⟨o0, okS⟩ := List.forall_mem_cons.mp okS
  obtain ⟨o1, okS⟩ := List.forall_mem_cons.mp okS
  obtain ⟨o2, okS⟩ := List.forall_mem_cons.mp okS
  obtain ⟨hK, hP, hD, hS, hB, hRo, hNs, hWT⟩ := id Wd
  obtain ⟨w1, w2, w3⟩ := hWT kk _ hk
  have hn : n ≤ 100000 := w1.2
  have hent := qws_get (kA := kA) (ρ := ρ) (g := (sh, pt, h)) hk
  rw [List.map_cons, List.map_cons, List.map_cons, qcv_ref (by omega)]
  refine va_zast (ws := qws kA ρ (sh, pt, h)) (x := Int32.ofInt v) C.1 C.2.1 hK hP hD hS kk 3 hent rfl (q_in h0 h1 (by omega)) hd fun H1 locs1 hP1 hD1 hS1 => ?_
  rw [q_narz hb] at hP1 hD1
  have e1 := qws_set (kA := kA) (ρ := ρ) (pt := pt) (pt' := pt) (h := h) (h' := qup h kk i v) hk (e := .inl (kA 3, n.toNat, .inl (upd (fun j : Nat => Int32.ofInt (h kk j)) (Int32.ofInt i).toNatClampNeg (Int32.ofInt v)))) (by rw [qup_row, ← q_upd h0 (by omega)]; rfl) (fun _ _ => rfl) (fun j hj => qup_ne (q_cast_ne hj))
  rw [e1] at hP1 hD1
  exact k p e R s m args below meth c B0 D kA ρ H1 locs1 cells slots ls C F M ⟨hK, hP1, hD1, hS1, hB, hRo, hNs, qWT_up hWT hk hb⟩ okL okS hl
theorem ev_aastore {a i n v N : Int} (nx : Nat) (hnx : pc + 1 = nx) (hd : decode y.2.1 pc = .ok (.aastore, 1)) (hs : qsh sh a = some (4, n)) (hsv : qsh sh v = some (13, N)) (h0 : 0 ≤ i) (h1 : i < n) (k : Ev X d rc rs y nx L S (sh, qup pt a i v, h) Q) : Ev X d rc rs y pc L ((2, v) :: (0, i) :: (2, a) :: S) (sh, pt, h) Q := by
  subst hnx
  intro p e R s m args below meth c B0 D kA ρ H locs cells slots ls C F M Wd okL okS hl
  obtain ⟨kk, rfl, hk⟩ := qsh_spec hs
  obtain ⟨kv, rfl, hkv⟩ := qsh_spec hsv
  obtain ⟨o0, okS⟩ := List.forall_mem_cons.mp okS
  obtain ⟨o1, okS⟩ := List.forall_mem_cons.mp okS
  obtain ⟨o2, okS⟩ := List.forall_mem_cons.mp okS
  obtain ⟨hK, hP, hD, hS, hB, hRo, hNs, hWT⟩ := id Wd
  obtain ⟨w1, w2, w3⟩ := hWT kk _ hk
  have hn : n ≤ 100000 := w1.2
  have hent := qws_get (kA := kA) (ρ := ρ) (g := (sh, pt, h)) hk
  have hentv := qws_get (kA := kA) (ρ := ρ) (g := (sh, pt, h)) hkv
  rw [List.map_cons, List.map_cons, List.map_cons, qcv_ref (by omega), qcv_ref (by omega)]
  refine va_astq (ws := qws kA ρ (sh, pt, h)) (r := (RX8, TX8, 4)) C.1 C.2.1 hK hP hD hS kk 4 kv 8 hent rfl hentv rfl (q_in h0 h1 (by omega)) hd fun H1 locs1 hP1 hD1 hS1 => ?_
  have e0 : (fun j : Nat => qrf ρ (qup pt kk i kv kk j)) = va_up (fun j : Nat => qrf ρ (pt kk j)) (Int32.ofInt i).toNatClampNeg (some (ρ kv)) := by
    funext j
    rw [q_nat h0 (by omega)]
    unfold va_up qup
    by_cases hj : j = i.toNat
    · rw [if_pos hj, if_pos ⟨rfl, by omega⟩]
      unfold qrf
      rw [if_neg (by omega)]
    · rw [if_neg hj, if_neg (by omega)]
  have e1 := qws_set (kA := kA) (ρ := ρ) (pt := pt) (pt' := qup pt kk i kv) (h := h) (h' := h) hk (e := .inl (kA 4, n.toNat, .inr (.inr (.inr (.inr (va_up (fun j : Nat => qrf ρ (pt kk j)) (Int32.ofInt i).toNatClampNeg (some (ρ kv)))))))) (by rw [← e0]; rfl) (fun j hj => qup_ne (q_cast_ne hj)) (fun _ _ => rfl)
  rw [e1] at hP1 hD1
  exact k p e R s m args below meth c B0 D kA ρ H1 locs1 cells slots ls C F M ⟨hK, hP1, hD1, hS1, hB, hRo, hNs, qWT_upP hWT o0⟩ okL okS hl
theorem ev_alen {a n : Int} {kd : Nat} (nx : Nat) (hnx : pc + 1 = nx) (hd : decode y.2.1 pc = .ok (.arraylength, 1)) (hs : qsh sh a = some (kd, n)) (hkd : kd ≤ 4) (k : Ev X d rc rs y nx L ((0, n) :: S) (sh, pt, h) Q) : Ev X d rc rs y pc L ((2, a) :: S) (sh, pt, h) Q := by
  subst hnx
  intro p e R s m args below meth c B0 D kA ρ H locs cells slots ls C F M Wd okL okS hl
  obtain ⟨kk, rfl, hk⟩ := qsh_spec hs
  obtain ⟨o2, okS⟩ := List.forall_mem_cons.mp okS
  obtain ⟨hK, hP, hD, hS, hB, hRo, hNs, hWT⟩ := id Wd
  obtain ⟨w1, w2, w3⟩ := hWT kk _ hk
  have hn : 0 ≤ n ∧ n ≤ 100000 := w1
  have hent := qws_get (kA := kA) (ρ := ρ) (g := (sh, pt, h)) hk
  rw [List.map_cons, qcv_ref (by omega)]
  have k1 := k p e R s m args below meth c B0 D kA ρ H locs cells slots ls C F M Wd okL (q_cons (show qI n from ⟨by omega, by omega⟩) okS) hl
  have e1 : Int32.ofNat n.toNat = Int32.ofInt n := q_ofNat hn.1
  match kd, hkd with
  | 0, _ => exact va_alen (ws := qws kA ρ (sh, pt, h)) C.1 C.2.1 hK hP kk 0 hent rfl e1 hd k1
  | 1, _ => exact va_alen (ws := qws kA ρ (sh, pt, h)) C.1 C.2.1 hK hP kk 1 hent rfl e1 hd k1
  | 2, _ => exact va_alen (ws := qws kA ρ (sh, pt, h)) C.1 C.2.1 hK hP kk 2 hent rfl e1 hd k1
  | 3, _ => exact va_alen (ws := qws kA ρ (sh, pt, h)) C.1 C.2.1 hK hP kk 3 hent rfl e1 hd k1
  | 4, _ => exact va_alen (ws := qws kA ρ (sh, pt, h)) C.1 C.2.1 hK hP kk 4 hent rfl e1 hd k1
theorem ev_iaload_ro {a i n : Int} {f : Int → Int} (nx : Nat) (hnx : pc + 1 = nx) (hd : decode y.2.1 pc = .ok (.iaload, 1)) (hr : qro X a = some (0, n, f)) (h0 : 0 ≤ i) (h1 : i < n) (k : Ev X d rc rs y nx L ((0, f i) :: S) (sh, pt, h) Q) : Ev X d rc rs y pc L ((0, i) :: (2, a) :: S) (sh, pt, h) Q := by
  subst hnx
  intro p e R s m args below meth c B0 D kA ρ H locs cells slots ls C F M Wd okL okS hl
  obtain ⟨o1, okS⟩ := List.forall_mem_cons.mp okS
  obtain ⟨o2, okS⟩ := List.forall_mem_cons.mp okS
  obtain ⟨hK, hP, hD, hS, hB, hRo, hNs, hWT⟩ := id Wd
  obtain ⟨z1, z2, z3, z4, z5⟩ := hRo.1 a 0 n f hr
  have ha : a ≠ -1 := by
    rintro rfl
    simp [qro] at hr
  rw [List.map_cons, List.map_cons, qcv_ref ha]
  have k1 := k p e R s m args below meth c B0 D kA ρ H locs cells slots ls C F M Wd okL (q_cons (z2 i) okS) hl
  refine va_ti (v := .int (Int32.ofInt (f i))) C.1 C.2.1 z1 hS (q_in h0 h1 (by omega)) ?_ hd k1
  rw [q_idx h0 (by omega)]
  rfl
theorem ev_laload_ro {a i n : Int} {f : Int → Int} (nx : Nat) (hnx : pc + 1 = nx) (hd : decode y.2.1 pc = .ok (.laload, 1)) (hr : qro X a = some (1, n, f)) (h0 : 0 ≤ i) (h1 : i < n) (k : Ev X d rc rs y nx L ((1, f i) :: S) (sh, pt, h) Q) : Ev X d rc rs y pc L ((0, i) :: (2, a) :: S) (sh, pt, h) Q := by
  subst hnx
  intro p e R s m args below meth c B0 D kA ρ H locs cells slots ls C F M Wd okL okS hl
  obtain ⟨o1, okS⟩ := List.forall_mem_cons.mp okS
  obtain ⟨o2, okS⟩ := List.forall_mem_cons.mp okS
  obtain ⟨hK, hP, hD, hS, hB, hRo, hNs, hWT⟩ := id Wd
  obtain ⟨z1, z2, z3, z4, z5⟩ := hRo.1 a 1 n f hr
  have ha : a ≠ -1 := by
    rintro rfl
    simp [qro] at hr
  rw [List.map_cons, List.map_cons, qcv_ref ha]
  have k1 := k p e R s m args below meth c B0 D kA ρ H locs cells slots ls C F M Wd okL (q_cons (z2 i) okS) hl
  refine va_tl (v := .long (Int64.ofInt (f i))) C.1 C.2.1 z1 hS (q_in h0 h1 (by omega)) ?_ hd k1
  rw [q_idx h0 (by omega)]
  rfl
theorem ev_alen_ro {a n : Int} {t : Nat} {f : Int → Int} (nx : Nat) (hnx : pc + 1 = nx) (hd : decode y.2.1 pc = .ok (.arraylength, 1)) (hr : qro X a = some (t, n, f)) (k : Ev X d rc rs y nx L ((0, n) :: S) (sh, pt, h) Q) : Ev X d rc rs y pc L ((2, a) :: S) (sh, pt, h) Q := by
  subst hnx
  intro p e R s m args below meth c B0 D kA ρ H locs cells slots ls C F M Wd okL okS hl
  obtain ⟨o2, okS⟩ := List.forall_mem_cons.mp okS
  obtain ⟨hK, hP, hD, hS, hB, hRo, hNs, hWT⟩ := id Wd
  obtain ⟨z1, z2, z3, z4, z5⟩ := hRo.1 a t n f hr
  have ha : a ≠ -1 := by
    rintro rfl
    simp [qro] at hr
  rw [List.map_cons, qcv_ref ha]
  have k1 := k p e R s m args below meth c B0 D kA ρ H locs cells slots ls C F M Wd okL (q_cons (show qI n from ⟨by omega, by omega⟩) okS) hl
  exact va_tlen (v := Int32.ofInt n) C.1 C.2.1 z1 hS (q_ofNat z4) hd k1
theorem ev_getS {idx : Nat} {K n dd : String} {v : Int} (nx : Nat) (hnx : pc + 3 = nx) (hd : decode y.2.1 pc = .ok (.getstatic idx, 3)) (hw : Cond.fieldLink y.1.cls idx K n dd ∈ qw) (hq : (K, n, dd, v) ∈ qss) (hv : v < -1) (k : Ev X d rc rs y nx L ((2, v) :: S) (sh, pt, h) Q) : Ev X d rc rs y pc L S (sh, pt, h) Q := by
  subst hnx
  intro p e R s m args below meth c B0 D kA ρ H locs cells slots ls C F M Wd okL okS hl
  obtain ⟨hK, hP, hD, hS, hB, hRo, hNs, hWT⟩ := id Wd
  have k1 := k p e R s m args below meth c B0 D kA ρ H locs cells slots ls C F M Wd okL (q_cons (show v < (sh.length : Int) from by omega) okS) hl
  rw [List.map_cons, qcv_ref (by omega)] at k1
  exact va_gets C.1 C.2.1 (hRo.2 _ hq) hS C.2.2.2.2.1 (C.2.2.2.2.2.1 _ hw) (fun x hx => hx) hd k1
end
