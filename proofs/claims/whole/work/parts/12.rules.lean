def qiand (a b : Int) : Int := (Int32.ofInt a &&& Int32.ofInt b).toInt
def qior (a b : Int) : Int := (Int32.ofInt a ||| Int32.ofInt b).toInt
def qixor (a b : Int) : Int := (Int32.ofInt a ^^^ Int32.ofInt b).toInt
def qishl (a b : Int) : Int := (Int32.ofInt a <<< (Int32.ofInt b &&& 31)).toInt
def qishr (a b : Int) : Int := (Int32.ofInt a >>> (Int32.ofInt b &&& 31)).toInt
def qiushr (a b : Int) : Int := ((Int32.ofInt a).toUInt32 >>> ((Int32.ofInt b).toUInt32 &&& Int32.toUInt32 31)).toInt32.toInt
def qland (a b : Int) : Int := (Int64.ofInt a &&& Int64.ofInt b).toInt
def qlor (a b : Int) : Int := (Int64.ofInt a ||| Int64.ofInt b).toInt
def qlxor (a b : Int) : Int := (Int64.ofInt a ^^^ Int64.ofInt b).toInt
def qlshl (a b : Int) : Int := (Int64.ofInt a <<< ((Int32.ofInt b).toInt64 &&& 63)).toInt
def qlshr (a b : Int) : Int := (Int64.ofInt a >>> ((Int32.ofInt b).toInt64 &&& 63)).toInt
def qlushr (a b : Int) : Int := ((Int64.ofInt a).toUInt64 >>> ((Int32.ofInt b).toInt64.toUInt64 &&& Int64.toUInt64 63)).toInt64.toInt
def ql2i (a : Int) : Int := (Int64.ofInt a).toInt32.toInt
def qi2b (a : Int) : Int := (Int32.ofInt a).toInt8.toInt32.toInt
def qi2s (a : Int) : Int := (Int32.ofInt a).toInt16.toInt32.toInt
def qcmp (a b : Int) : Int := if b < a then 1 else if a = b then 0 else -1
theorem q_i2l {a : Int} (h : qI a) : (Int32.ofInt a).toInt64 = Int64.ofInt a := by
  rw [← Int64.toInt_inj, Int32.toInt_toInt64, q_toI h, q_toL ⟨by omega, by omega⟩]
theorem q_irem {a b : Int} (ha : qI a) (hb : qI b) : Int32.ofInt a - Int32.ofInt a / Int32.ofInt b * Int32.ofInt b = Int32.ofInt (a.tmod b) := by
  rw [Int.tmod_def, Int32.ofInt_sub, Int32.ofInt_mul, Int32.ofInt_tdiv ha.1 ha.2 hb.1 hb.2, Int32.mul_comm]
theorem q_lrem {a b : Int} (ha : qL a) (hb : qL b) : Int64.ofInt a - Int64.ofInt a / Int64.ofInt b * Int64.ofInt b = Int64.ofInt (a.tmod b) := by
  rw [Int.tmod_def, Int64.ofInt_sub, Int64.ofInt_mul, Int64.ofInt_tdiv ha.1 ha.2 hb.1 hb.2, Int64.mul_comm]
theorem q_tmod {a b lo hi : Int} (h1 : lo ≤ a) (h2 : a ≤ hi) (h3 : lo ≤ 0) (h4 : 0 ≤ hi) : lo ≤ a.tmod b ∧ a.tmod b ≤ hi := by
  rcases Int.le_total 0 a with h | h
  · have e1 := Int.tmod_nonneg b h
    have e2 : a.tmod b ≤ a := by
      have e3 : (a.natAbs % b.natAbs : Nat) ≤ a.natAbs := Nat.mod_le _ _
      have e4 : (a.tmod b).natAbs = a.natAbs % b.natAbs := Int.natAbs_tmod a b
      omega
    omega
  · have e3 : (a.natAbs % b.natAbs : Nat) ≤ a.natAbs := Nat.mod_le _ _
    have e4 : (a.tmod b).natAbs = a.natAbs % b.natAbs := Int.natAbs_tmod a b
    have e5 : a.tmod b ≤ 0 := by
      have := Int.tmod_nonneg b (show 0 ≤ -a by omega)
      rw [Int.neg_tmod] at this
      omega
    omega
theorem q_lcmp {a b : Int} (ha : qL a) (hb : qL b) : lg_cmp (Int64.ofInt a) (Int64.ofInt b) = Int32.ofInt (qcmp a b) := by
  unfold lg_cmp qcmp
  simp only [GT.gt, q_ltL hb ha, q_eqL ha hb]
  split
  · rfl
  · split <;> rfl
theorem q_cat1 {ρ : Int → Nat} {v : qV} (h : v.1 ≠ 1) : (qcv ρ v).category = 1 := by
  rcases lv_cat (qcv ρ v) with q | q
  · exact q
  · exact absurd (qcat.mp q) h
theorem q_cons {n : Nat} {v : qV} {S : List qV} (h1 : qok n v) (h2 : ∀ w ∈ S, qok n w) : ∀ w ∈ v :: S, qok n w := List.forall_mem_cons.mpr ⟨h1, h2⟩

theorem ev_iadd {X : qX} {d rc rs : Nat} {y : qMT} {pc : Nat} {L S : List qV} {g : qG} {Q : Option qV → qG → Prop} {a b : Int} (nx : Nat) (hnx : pc + 1 = nx) (hd : decode y.2.1 pc = .ok (.iadd, 1)) (ho : qI (a + b))
    (k : Ev X d rc rs y nx L ((0, a + b) :: S) g Q) : Ev X d rc rs y pc L ((0, b) :: (0, a) :: S) g Q := by
  subst hnx
  intro p e R s m args below meth c B0 D kA ρ H locs cells slots ls C F M Wd okL okS hl
  obtain ⟨o1, okS⟩ := List.forall_mem_cons.mp okS
  obtain ⟨o2, okS⟩ := List.forall_mem_cons.mp okS
  have k1 := k p e R s m args below meth c B0 D kA ρ H locs cells slots ls C F M Wd okL (q_cons (ho) okS) hl
  refine lv_iadd (x := Int32.ofInt a) (y := Int32.ofInt b) (rest := S.map (qcv ρ)) C.1 C.2.1 hd ?_
  rw [← Int32.ofInt_add]
  exact k1

theorem ev_isub {X : qX} {d rc rs : Nat} {y : qMT} {pc : Nat} {L S : List qV} {g : qG} {Q : Option qV → qG → Prop} {a b : Int} (nx : Nat) (hnx : pc + 1 = nx) (hd : decode y.2.1 pc = .ok (.isub, 1)) (ho : qI (a - b))
    (k : Ev X d rc rs y nx L ((0, a - b) :: S) g Q) : Ev X d rc rs y pc L ((0, b) :: (0, a) :: S) g Q := by
  subst hnx
  intro p e R s m args below meth c B0 D kA ρ H locs cells slots ls C F M Wd okL okS hl
  obtain ⟨o1, okS⟩ := List.forall_mem_cons.mp okS
  obtain ⟨o2, okS⟩ := List.forall_mem_cons.mp okS
  have k1 := k p e R s m args below meth c B0 D kA ρ H locs cells slots ls C F M Wd okL (q_cons (ho) okS) hl
  refine lv_isub (x := Int32.ofInt a) (y := Int32.ofInt b) (rest := S.map (qcv ρ)) C.1 C.2.1 hd ?_
  rw [← Int32.ofInt_sub]
  exact k1

theorem ev_imul {X : qX} {d rc rs : Nat} {y : qMT} {pc : Nat} {L S : List qV} {g : qG} {Q : Option qV → qG → Prop} {a b : Int} (nx : Nat) (hnx : pc + 1 = nx) (hd : decode y.2.1 pc = .ok (.imul, 1)) (ho : qI (a * b))
    (k : Ev X d rc rs y nx L ((0, a * b) :: S) g Q) : Ev X d rc rs y pc L ((0, b) :: (0, a) :: S) g Q := by
  subst hnx
  intro p e R s m args below meth c B0 D kA ρ H locs cells slots ls C F M Wd okL okS hl
  obtain ⟨o1, okS⟩ := List.forall_mem_cons.mp okS
  obtain ⟨o2, okS⟩ := List.forall_mem_cons.mp okS
  have k1 := k p e R s m args below meth c B0 D kA ρ H locs cells slots ls C F M Wd okL (q_cons (ho) okS) hl
  refine lv_imul (x := Int32.ofInt a) (y := Int32.ofInt b) (rest := S.map (qcv ρ)) C.1 C.2.1 hd ?_
  rw [← Int32.ofInt_mul]
  exact k1

theorem ev_ladd {X : qX} {d rc rs : Nat} {y : qMT} {pc : Nat} {L S : List qV} {g : qG} {Q : Option qV → qG → Prop} {a b : Int} (nx : Nat) (hnx : pc + 1 = nx) (hd : decode y.2.1 pc = .ok (.ladd, 1)) (ho : qL (a + b))
    (k : Ev X d rc rs y nx L ((1, a + b) :: S) g Q) : Ev X d rc rs y pc L ((1, b) :: (1, a) :: S) g Q := by
  subst hnx
  intro p e R s m args below meth c B0 D kA ρ H locs cells slots ls C F M Wd okL okS hl
  obtain ⟨o1, okS⟩ := List.forall_mem_cons.mp okS
  obtain ⟨o2, okS⟩ := List.forall_mem_cons.mp okS
  have k1 := k p e R s m args below meth c B0 D kA ρ H locs cells slots ls C F M Wd okL (q_cons (ho) okS) hl
  refine lv_ladd (x := Int64.ofInt a) (y := Int64.ofInt b) (rest := S.map (qcv ρ)) C.1 C.2.1 hd ?_
  rw [← Int64.ofInt_add]
  exact k1

theorem ev_lsub {X : qX} {d rc rs : Nat} {y : qMT} {pc : Nat} {L S : List qV} {g : qG} {Q : Option qV → qG → Prop} {a b : Int} (nx : Nat) (hnx : pc + 1 = nx) (hd : decode y.2.1 pc = .ok (.lsub, 1)) (ho : qL (a - b))
    (k : Ev X d rc rs y nx L ((1, a - b) :: S) g Q) : Ev X d rc rs y pc L ((1, b) :: (1, a) :: S) g Q := by
  subst hnx
  intro p e R s m args below meth c B0 D kA ρ H locs cells slots ls C F M Wd okL okS hl
  obtain ⟨o1, okS⟩ := List.forall_mem_cons.mp okS
  obtain ⟨o2, okS⟩ := List.forall_mem_cons.mp okS
  have k1 := k p e R s m args below meth c B0 D kA ρ H locs cells slots ls C F M Wd okL (q_cons (ho) okS) hl
  refine lv_lsub (x := Int64.ofInt a) (y := Int64.ofInt b) (rest := S.map (qcv ρ)) C.1 C.2.1 hd ?_
  rw [← Int64.ofInt_sub]
  exact k1

theorem ev_lmul {X : qX} {d rc rs : Nat} {y : qMT} {pc : Nat} {L S : List qV} {g : qG} {Q : Option qV → qG → Prop} {a b : Int} (nx : Nat) (hnx : pc + 1 = nx) (hd : decode y.2.1 pc = .ok (.lmul, 1)) (ho : qL (a * b))
    (k : Ev X d rc rs y nx L ((1, a * b) :: S) g Q) : Ev X d rc rs y pc L ((1, b) :: (1, a) :: S) g Q := by
  subst hnx
  intro p e R s m args below meth c B0 D kA ρ H locs cells slots ls C F M Wd okL okS hl
  obtain ⟨o1, okS⟩ := List.forall_mem_cons.mp okS
  obtain ⟨o2, okS⟩ := List.forall_mem_cons.mp okS
  have k1 := k p e R s m args below meth c B0 D kA ρ H locs cells slots ls C F M Wd okL (q_cons (ho) okS) hl
  refine lv_lmul (x := Int64.ofInt a) (y := Int64.ofInt b) (rest := S.map (qcv ρ)) C.1 C.2.1 hd ?_
  rw [← Int64.ofInt_mul]
  exact k1

theorem ev_iand {X : qX} {d rc rs : Nat} {y : qMT} {pc : Nat} {L S : List qV} {g : qG} {Q : Option qV → qG → Prop} {a b : Int} (nx : Nat) (hnx : pc + 1 = nx) (hd : decode y.2.1 pc = .ok (.iand, 1)) 
    (k : Ev X d rc rs y nx L ((0, qiand a b) :: S) g Q) : Ev X d rc rs y pc L ((0, b) :: (0, a) :: S) g Q := by
  subst hnx
  intro p e R s m args below meth c B0 D kA ρ H locs cells slots ls C F M Wd okL okS hl
  obtain ⟨o1, okS⟩ := List.forall_mem_cons.mp okS
  obtain ⟨o2, okS⟩ := List.forall_mem_cons.mp okS
  have k1 := k p e R s m args below meth c B0 D kA ρ H locs cells slots ls C F M Wd okL (q_cons (q_inI _) okS) hl
  refine lv_iand (x := Int32.ofInt a) (y := Int32.ofInt b) (rest := S.map (qcv ρ)) C.1 C.2.1 hd ?_
  have e1 := Int32.ofInt_toInt (Int32.ofInt a &&& Int32.ofInt b)
  rw [← e1]
  exact k1

theorem ev_ior {X : qX} {d rc rs : Nat} {y : qMT} {pc : Nat} {L S : List qV} {g : qG} {Q : Option qV → qG → Prop} {a b : Int} (nx : Nat) (hnx : pc + 1 = nx) (hd : decode y.2.1 pc = .ok (.ior, 1)) 
    (k : Ev X d rc rs y nx L ((0, qior a b) :: S) g Q) : Ev X d rc rs y pc L ((0, b) :: (0, a) :: S) g Q := by
  subst hnx
  intro p e R s m args below meth c B0 D kA ρ H locs cells slots ls C F M Wd okL okS hl
  obtain ⟨o1, okS⟩ := List.forall_mem_cons.mp okS
  obtain ⟨o2, okS⟩ := List.forall_mem_cons.mp okS
  have k1 := k p e R s m args below meth c B0 D kA ρ H locs cells slots ls C F M Wd okL (q_cons (q_inI _) okS) hl
  refine lv_ior (x := Int32.ofInt a) (y := Int32.ofInt b) (rest := S.map (qcv ρ)) C.1 C.2.1 hd ?_
  have e1 := Int32.ofInt_toInt (Int32.ofInt a ||| Int32.ofInt b)
  rw [← e1]
  exact k1

theorem ev_ixor {X : qX} {d rc rs : Nat} {y : qMT} {pc : Nat} {L S : List qV} {g : qG} {Q : Option qV → qG → Prop} {a b : Int} (nx : Nat) (hnx : pc + 1 = nx) (hd : decode y.2.1 pc = .ok (.ixor, 1)) 
    (k : Ev X d rc rs y nx L ((0, qixor a b) :: S) g Q) : Ev X d rc rs y pc L ((0, b) :: (0, a) :: S) g Q := by
  subst hnx
  intro p e R s m args below meth c B0 D kA ρ H locs cells slots ls C F M Wd okL okS hl
  obtain ⟨o1, okS⟩ := List.forall_mem_cons.mp okS
  obtain ⟨o2, okS⟩ := List.forall_mem_cons.mp okS
  have k1 := k p e R s m args below meth c B0 D kA ρ H locs cells slots ls C F M Wd okL (q_cons (q_inI _) okS) hl
  refine lv_ixor (x := Int32.ofInt a) (y := Int32.ofInt b) (rest := S.map (qcv ρ)) C.1 C.2.1 hd ?_
  have e1 := Int32.ofInt_toInt (Int32.ofInt a ^^^ Int32.ofInt b)
  rw [← e1]
  exact k1

theorem ev_ishl {X : qX} {d rc rs : Nat} {y : qMT} {pc : Nat} {L S : List qV} {g : qG} {Q : Option qV → qG → Prop} {a b : Int} (nx : Nat) (hnx : pc + 1 = nx) (hd : decode y.2.1 pc = .ok (.ishl, 1)) 
    (k : Ev X d rc rs y nx L ((0, qishl a b) :: S) g Q) : Ev X d rc rs y pc L ((0, b) :: (0, a) :: S) g Q := by
  subst hnx
  intro p e R s m args below meth c B0 D kA ρ H locs cells slots ls C F M Wd okL okS hl
  obtain ⟨o1, okS⟩ := List.forall_mem_cons.mp okS
  obtain ⟨o2, okS⟩ := List.forall_mem_cons.mp okS
  have k1 := k p e R s m args below meth c B0 D kA ρ H locs cells slots ls C F M Wd okL (q_cons (q_inI _) okS) hl
  refine lv_ishl (x := Int32.ofInt a) (y := Int32.ofInt b) (rest := S.map (qcv ρ)) C.1 C.2.1 hd ?_
  have e1 := Int32.ofInt_toInt (Int32.ofInt a <<< (Int32.ofInt b &&& 31))
  rw [← e1]
  exact k1

theorem ev_ishr {X : qX} {d rc rs : Nat} {y : qMT} {pc : Nat} {L S : List qV} {g : qG} {Q : Option qV → qG → Prop} {a b : Int} (nx : Nat) (hnx : pc + 1 = nx) (hd : decode y.2.1 pc = .ok (.ishr, 1)) 
    (k : Ev X d rc rs y nx L ((0, qishr a b) :: S) g Q) : Ev X d rc rs y pc L ((0, b) :: (0, a) :: S) g Q := by
  subst hnx
  intro p e R s m args below meth c B0 D kA ρ H locs cells slots ls C F M Wd okL okS hl
  obtain ⟨o1, okS⟩ := List.forall_mem_cons.mp okS
  obtain ⟨o2, okS⟩ := List.forall_mem_cons.mp okS
  have k1 := k p e R s m args below meth c B0 D kA ρ H locs cells slots ls C F M Wd okL (q_cons (q_inI _) okS) hl
  refine lv_ishr (x := Int32.ofInt a) (y := Int32.ofInt b) (rest := S.map (qcv ρ)) C.1 C.2.1 hd ?_
  have e1 := Int32.ofInt_toInt (Int32.ofInt a >>> (Int32.ofInt b &&& 31))
  rw [← e1]
  exact k1

theorem ev_iushr {X : qX} {d rc rs : Nat} {y : qMT} {pc : Nat} {L S : List qV} {g : qG} {Q : Option qV → qG → Prop} {a b : Int} (nx : Nat) (hnx : pc + 1 = nx) (hd : decode y.2.1 pc = .ok (.iushr, 1)) 
    (k : Ev X d rc rs y nx L ((0, qiushr a b) :: S) g Q) : Ev X d rc rs y pc L ((0, b) :: (0, a) :: S) g Q := by
  subst hnx
  intro p e R s m args below meth c B0 D kA ρ H locs cells slots ls C F M Wd okL okS hl
  obtain ⟨o1, okS⟩ := List.forall_mem_cons.mp okS
  obtain ⟨o2, okS⟩ := List.forall_mem_cons.mp okS
  have k1 := k p e R s m args below meth c B0 D kA ρ H locs cells slots ls C F M Wd okL (q_cons (q_inI _) okS) hl
  refine lv_iushr (x := Int32.ofInt a) (y := Int32.ofInt b) (v := Int32.ofInt (qiushr a b)) (rest := S.map (qcv ρ)) C.1 C.2.1 hd (Int32.ofInt_toInt _).symm ?_
  exact k1

theorem ev_land {X : qX} {d rc rs : Nat} {y : qMT} {pc : Nat} {L S : List qV} {g : qG} {Q : Option qV → qG → Prop} {a b : Int} (nx : Nat) (hnx : pc + 1 = nx) (hd : decode y.2.1 pc = .ok (.land, 1)) 
    (k : Ev X d rc rs y nx L ((1, qland a b) :: S) g Q) : Ev X d rc rs y pc L ((1, b) :: (1, a) :: S) g Q := by
  subst hnx
  intro p e R s m args below meth c B0 D kA ρ H locs cells slots ls C F M Wd okL okS hl
  obtain ⟨o1, okS⟩ := List.forall_mem_cons.mp okS
  obtain ⟨o2, okS⟩ := List.forall_mem_cons.mp okS
  have k1 := k p e R s m args below meth c B0 D kA ρ H locs cells slots ls C F M Wd okL (q_cons (q_inL _) okS) hl
  refine lv_land (x := Int64.ofInt a) (y := Int64.ofInt b) (rest := S.map (qcv ρ)) C.1 C.2.1 hd ?_
  have e1 := Int64.ofInt_toInt (Int64.ofInt a &&& Int64.ofInt b)
  rw [← e1]
  exact k1

theorem ev_lor {X : qX} {d rc rs : Nat} {y : qMT} {pc : Nat} {L S : List qV} {g : qG} {Q : Option qV → qG → Prop} {a b : Int} (nx : Nat) (hnx : pc + 1 = nx) (hd : decode y.2.1 pc = .ok (.lor, 1)) 
    (k : Ev X d rc rs y nx L ((1, qlor a b) :: S) g Q) : Ev X d rc rs y pc L ((1, b) :: (1, a) :: S) g Q := by
  subst hnx
  intro p e R s m args below meth c B0 D kA ρ H locs cells slots ls C F M Wd okL okS hl
  obtain ⟨o1, okS⟩ := List.forall_mem_cons.mp okS
  obtain ⟨o2, okS⟩ := List.forall_mem_cons.mp okS
  have k1 := k p e R s m args below meth c B0 D kA ρ H locs cells slots ls C F M Wd okL (q_cons (q_inL _) okS) hl
  refine lv_lor (x := Int64.ofInt a) (y := Int64.ofInt b) (rest := S.map (qcv ρ)) C.1 C.2.1 hd ?_
  have e1 := Int64.ofInt_toInt (Int64.ofInt a ||| Int64.ofInt b)
  rw [← e1]
  exact k1

theorem ev_lxor {X : qX} {d rc rs : Nat} {y : qMT} {pc : Nat} {L S : List qV} {g : qG} {Q : Option qV → qG → Prop} {a b : Int} (nx : Nat) (hnx : pc + 1 = nx) (hd : decode y.2.1 pc = .ok (.lxor, 1)) 
    (k : Ev X d rc rs y nx L ((1, qlxor a b) :: S) g Q) : Ev X d rc rs y pc L ((1, b) :: (1, a) :: S) g Q := by
  subst hnx
  intro p e R s m args below meth c B0 D kA ρ H locs cells slots ls C F M Wd okL okS hl
  obtain ⟨o1, okS⟩ := List.forall_mem_cons.mp okS
  obtain ⟨o2, okS⟩ := List.forall_mem_cons.mp okS
  have k1 := k p e R s m args below meth c B0 D kA ρ H locs cells slots ls C F M Wd okL (q_cons (q_inL _) okS) hl
  refine lv_lxor (x := Int64.ofInt a) (y := Int64.ofInt b) (rest := S.map (qcv ρ)) C.1 C.2.1 hd ?_
  have e1 := Int64.ofInt_toInt (Int64.ofInt a ^^^ Int64.ofInt b)
  rw [← e1]
  exact k1

theorem ev_lshl {X : qX} {d rc rs : Nat} {y : qMT} {pc : Nat} {L S : List qV} {g : qG} {Q : Option qV → qG → Prop} {a b : Int} (nx : Nat) (hnx : pc + 1 = nx) (hd : decode y.2.1 pc = .ok (.lshl, 1)) 
    (k : Ev X d rc rs y nx L ((1, qlshl a b) :: S) g Q) : Ev X d rc rs y pc L ((0, b) :: (1, a) :: S) g Q := by
  subst hnx
  intro p e R s m args below meth c B0 D kA ρ H locs cells slots ls C F M Wd okL okS hl
  obtain ⟨o1, okS⟩ := List.forall_mem_cons.mp okS
  obtain ⟨o2, okS⟩ := List.forall_mem_cons.mp okS
  have k1 := k p e R s m args below meth c B0 D kA ρ H locs cells slots ls C F M Wd okL (q_cons (q_inL _) okS) hl
  refine lv_lshl (x := Int64.ofInt a) (y := Int32.ofInt b) (v := Int64.ofInt (qlshl a b)) (rest := S.map (qcv ρ)) C.1 C.2.1 hd (Int64.ofInt_toInt _).symm ?_
  exact k1

theorem ev_lshr {X : qX} {d rc rs : Nat} {y : qMT} {pc : Nat} {L S : List qV} {g : qG} {Q : Option qV → qG → Prop} {a b : Int} (nx : Nat) (hnx : pc + 1 = nx) (hd : decode y.2.1 pc = .ok (.lshr, 1)) 
    (k : Ev X d rc rs y nx L ((1, qlshr a b) :: S) g Q) : Ev X d rc rs y pc L ((0, b) :: (1, a) :: S) g Q := by
  subst hnx
  intro p e R s m args below meth c B0 D kA ρ H locs cells slots ls C F M Wd okL okS hl
  obtain ⟨o1, okS⟩ := List.forall_mem_cons.mp okS
  obtain ⟨o2, okS⟩ := List.forall_mem_cons.mp okS
  have k1 := k p e R s m args below meth c B0 D kA ρ H locs cells slots ls C F M Wd okL (q_cons (q_inL _) okS) hl
  refine lv_lshr (x := Int64.ofInt a) (y := Int32.ofInt b) (v := Int64.ofInt (qlshr a b)) (rest := S.map (qcv ρ)) C.1 C.2.1 hd (Int64.ofInt_toInt _).symm ?_
  exact k1

theorem ev_lushr {X : qX} {d rc rs : Nat} {y : qMT} {pc : Nat} {L S : List qV} {g : qG} {Q : Option qV → qG → Prop} {a b : Int} (nx : Nat) (hnx : pc + 1 = nx) (hd : decode y.2.1 pc = .ok (.lushr, 1)) 
    (k : Ev X d rc rs y nx L ((1, qlushr a b) :: S) g Q) : Ev X d rc rs y pc L ((0, b) :: (1, a) :: S) g Q := by
  subst hnx
  intro p e R s m args below meth c B0 D kA ρ H locs cells slots ls C F M Wd okL okS hl
  obtain ⟨o1, okS⟩ := List.forall_mem_cons.mp okS
  obtain ⟨o2, okS⟩ := List.forall_mem_cons.mp okS
  have k1 := k p e R s m args below meth c B0 D kA ρ H locs cells slots ls C F M Wd okL (q_cons (q_inL _) okS) hl
  refine lv_lushr (x := Int64.ofInt a) (y := Int32.ofInt b) (v := Int64.ofInt (qlushr a b)) (rest := S.map (qcv ρ)) C.1 C.2.1 hd (Int64.ofInt_toInt _).symm ?_
  exact k1

theorem ev_ineg {X : qX} {d rc rs : Nat} {y : qMT} {pc : Nat} {L S : List qV} {g : qG} {Q : Option qV → qG → Prop} {a : Int} (nx : Nat) (hnx : pc + 1 = nx) (hd : decode y.2.1 pc = .ok (.ineg, 1)) (ho : qI (-a))
    (k : Ev X d rc rs y nx L ((0, -a) :: S) g Q) : Ev X d rc rs y pc L ((0, a) :: S) g Q := by
  subst hnx
  intro p e R s m args below meth c B0 D kA ρ H locs cells slots ls C F M Wd okL okS hl
  obtain ⟨o1, okS⟩ := List.forall_mem_cons.mp okS
  have k1 := k p e R s m args below meth c B0 D kA ρ H locs cells slots ls C F M Wd okL (q_cons (ho) okS) hl
  refine lv_ineg (x := Int32.ofInt a) (rest := S.map (qcv ρ)) C.1 C.2.1 hd ?_
  rw [← Int32.ofInt_neg]
  exact k1

theorem ev_idiv {X : qX} {d rc rs : Nat} {y : qMT} {pc : Nat} {L S : List qV} {g : qG} {Q : Option qV → qG → Prop} {a b : Int} (nx : Nat) (hnx : pc + 1 = nx) (hd : decode y.2.1 pc = .ok (.idiv, 1)) (hz : b ≠ 0) (ho : qI (a.tdiv b))
    (k : Ev X d rc rs y nx L ((0, a.tdiv b) :: S) g Q) : Ev X d rc rs y pc L ((0, b) :: (0, a) :: S) g Q := by
  subst hnx
  intro p e R s m args below meth c B0 D kA ρ H locs cells slots ls C F M Wd okL okS hl
  obtain ⟨o1, okS⟩ := List.forall_mem_cons.mp okS
  obtain ⟨o2, okS⟩ := List.forall_mem_cons.mp okS
  have k1 := k p e R s m args below meth c B0 D kA ρ H locs cells slots ls C F M Wd okL (q_cons (ho) okS) hl
  refine lv_idiv (x := Int32.ofInt a) (y := Int32.ofInt b) (rest := S.map (qcv ρ)) C.1 C.2.1 hd (fun q => hz ((q_eq o1 q_I0).mp q)) ?_
  rw [← Int32.ofInt_tdiv o2.1 o2.2 o1.1 o1.2]
  exact k1

theorem ev_irem {X : qX} {d rc rs : Nat} {y : qMT} {pc : Nat} {L S : List qV} {g : qG} {Q : Option qV → qG → Prop} {a b : Int} (nx : Nat) (hnx : pc + 1 = nx) (hd : decode y.2.1 pc = .ok (.irem, 1)) (hz : b ≠ 0)
    (k : Ev X d rc rs y nx L ((0, a.tmod b) :: S) g Q) : Ev X d rc rs y pc L ((0, b) :: (0, a) :: S) g Q := by
  subst hnx
  intro p e R s m args below meth c B0 D kA ρ H locs cells slots ls C F M Wd okL okS hl
  obtain ⟨o1, okS⟩ := List.forall_mem_cons.mp okS
  obtain ⟨o2, okS⟩ := List.forall_mem_cons.mp okS
  have k1 := k p e R s m args below meth c B0 D kA ρ H locs cells slots ls C F M Wd okL (q_cons (q_tmod o2.1 o2.2 (by decide) (by decide)) okS) hl
  refine lv_irem (x := Int32.ofInt a) (y := Int32.ofInt b) (rest := S.map (qcv ρ)) C.1 C.2.1 hd (fun q => hz ((q_eq o1 q_I0).mp q)) ?_
  rw [q_irem o2 o1]
  exact k1

theorem ev_ldiv {X : qX} {d rc rs : Nat} {y : qMT} {pc : Nat} {L S : List qV} {g : qG} {Q : Option qV → qG → Prop} {a b : Int} (nx : Nat) (hnx : pc + 1 = nx) (hd : decode y.2.1 pc = .ok (.ldiv, 1)) (hz : b ≠ 0) (ho : qL (a.tdiv b))
    (k : Ev X d rc rs y nx L ((1, a.tdiv b) :: S) g Q) : Ev X d rc rs y pc L ((1, b) :: (1, a) :: S) g Q := by
  subst hnx
  intro p e R s m args below meth c B0 D kA ρ H locs cells slots ls C F M Wd okL okS hl
  obtain ⟨o1, okS⟩ := List.forall_mem_cons.mp okS
  obtain ⟨o2, okS⟩ := List.forall_mem_cons.mp okS
  have k1 := k p e R s m args below meth c B0 D kA ρ H locs cells slots ls C F M Wd okL (q_cons (ho) okS) hl
  refine lv_ldiv (x := Int64.ofInt a) (y := Int64.ofInt b) (rest := S.map (qcv ρ)) C.1 C.2.1 hd (fun q => hz ((q_eqL o1 (by decide)).mp q)) ?_
  rw [← Int64.ofInt_tdiv o2.1 o2.2 o1.1 o1.2]
  exact k1

theorem ev_lrem {X : qX} {d rc rs : Nat} {y : qMT} {pc : Nat} {L S : List qV} {g : qG} {Q : Option qV → qG → Prop} {a b : Int} (nx : Nat) (hnx : pc + 1 = nx) (hd : decode y.2.1 pc = .ok (.lrem, 1)) (hz : b ≠ 0)
    (k : Ev X d rc rs y nx L ((1, a.tmod b) :: S) g Q) : Ev X d rc rs y pc L ((1, b) :: (1, a) :: S) g Q := by
  subst hnx
  intro p e R s m args below meth c B0 D kA ρ H locs cells slots ls C F M Wd okL okS hl
  obtain ⟨o1, okS⟩ := List.forall_mem_cons.mp okS
  obtain ⟨o2, okS⟩ := List.forall_mem_cons.mp okS
  have k1 := k p e R s m args below meth c B0 D kA ρ H locs cells slots ls C F M Wd okL (q_cons (q_tmod o2.1 o2.2 (by decide) (by decide)) okS) hl
  refine lv_lrem (x := Int64.ofInt a) (y := Int64.ofInt b) (rest := S.map (qcv ρ)) C.1 C.2.1 hd (fun q => hz ((q_eqL o1 (by decide)).mp q)) ?_
  rw [q_lrem o2 o1]
  exact k1

theorem ev_i2l {X : qX} {d rc rs : Nat} {y : qMT} {pc : Nat} {L S : List qV} {g : qG} {Q : Option qV → qG → Prop} {a : Int} (nx : Nat) (hnx : pc + 1 = nx) (hd : decode y.2.1 pc = .ok (.i2l, 1)) 
    (k : Ev X d rc rs y nx L ((1, a) :: S) g Q) : Ev X d rc rs y pc L ((0, a) :: S) g Q := by
  subst hnx
  intro p e R s m args below meth c B0 D kA ρ H locs cells slots ls C F M Wd okL okS hl
  obtain ⟨o1, okS⟩ := List.forall_mem_cons.mp okS
  have k1 := k p e R s m args below meth c B0 D kA ρ H locs cells slots ls C F M Wd okL (q_cons ((show qL a from ⟨by have := o1.1; omega, by have := o1.2; omega⟩)) okS) hl
  refine lv_i2l (x := Int32.ofInt a) (v := Int64.ofInt a) (rest := S.map (qcv ρ)) C.1 C.2.1 hd (q_i2l o1) ?_
  exact k1

theorem ev_l2i {X : qX} {d rc rs : Nat} {y : qMT} {pc : Nat} {L S : List qV} {g : qG} {Q : Option qV → qG → Prop} {a : Int} (nx : Nat) (hnx : pc + 1 = nx) (hd : decode y.2.1 pc = .ok (.l2i, 1)) 
    (k : Ev X d rc rs y nx L ((0, ql2i a) :: S) g Q) : Ev X d rc rs y pc L ((1, a) :: S) g Q := by
  subst hnx
  intro p e R s m args below meth c B0 D kA ρ H locs cells slots ls C F M Wd okL okS hl
  obtain ⟨o1, okS⟩ := List.forall_mem_cons.mp okS
  have k1 := k p e R s m args below meth c B0 D kA ρ H locs cells slots ls C F M Wd okL (q_cons (q_inI _) okS) hl
  refine lv_l2i (x := Int64.ofInt a) (v := Int32.ofInt (ql2i a)) (rest := S.map (qcv ρ)) C.1 C.2.1 hd (Int32.ofInt_toInt _).symm ?_
  exact k1

theorem ev_i2b {X : qX} {d rc rs : Nat} {y : qMT} {pc : Nat} {L S : List qV} {g : qG} {Q : Option qV → qG → Prop} {a : Int} (nx : Nat) (hnx : pc + 1 = nx) (hd : decode y.2.1 pc = .ok (.i2b, 1)) 
    (k : Ev X d rc rs y nx L ((0, qi2b a) :: S) g Q) : Ev X d rc rs y pc L ((0, a) :: S) g Q := by
  subst hnx
  intro p e R s m args below meth c B0 D kA ρ H locs cells slots ls C F M Wd okL okS hl
  obtain ⟨o1, okS⟩ := List.forall_mem_cons.mp okS
  have k1 := k p e R s m args below meth c B0 D kA ρ H locs cells slots ls C F M Wd okL (q_cons (q_inI _) okS) hl
  refine lv_i2b (x := Int32.ofInt a) (v := Int32.ofInt (qi2b a)) (rest := S.map (qcv ρ)) C.1 C.2.1 hd (Int32.ofInt_toInt _).symm ?_
  exact k1

theorem ev_i2s {X : qX} {d rc rs : Nat} {y : qMT} {pc : Nat} {L S : List qV} {g : qG} {Q : Option qV → qG → Prop} {a : Int} (nx : Nat) (hnx : pc + 1 = nx) (hd : decode y.2.1 pc = .ok (.i2s, 1)) 
    (k : Ev X d rc rs y nx L ((0, qi2s a) :: S) g Q) : Ev X d rc rs y pc L ((0, a) :: S) g Q := by
  subst hnx
  intro p e R s m args below meth c B0 D kA ρ H locs cells slots ls C F M Wd okL okS hl
  obtain ⟨o1, okS⟩ := List.forall_mem_cons.mp okS
  have k1 := k p e R s m args below meth c B0 D kA ρ H locs cells slots ls C F M Wd okL (q_cons (q_inI _) okS) hl
  refine lv_i2s (x := Int32.ofInt a) (v := Int32.ofInt (qi2s a)) (rest := S.map (qcv ρ)) C.1 C.2.1 hd (Int32.ofInt_toInt _).symm ?_
  exact k1

theorem ev_lcmp {X : qX} {d rc rs : Nat} {y : qMT} {pc : Nat} {L S : List qV} {g : qG} {Q : Option qV → qG → Prop} {a b : Int} (nx : Nat) (hnx : pc + 1 = nx) (hd : decode y.2.1 pc = .ok (.lcmp, 1)) 
    (k : Ev X d rc rs y nx L ((0, qcmp a b) :: S) g Q) : Ev X d rc rs y pc L ((1, b) :: (1, a) :: S) g Q := by
  subst hnx
  intro p e R s m args below meth c B0 D kA ρ H locs cells slots ls C F M Wd okL okS hl
  obtain ⟨o1, okS⟩ := List.forall_mem_cons.mp okS
  obtain ⟨o2, okS⟩ := List.forall_mem_cons.mp okS
  have k1 := k p e R s m args below meth c B0 D kA ρ H locs cells slots ls C F M Wd okL (q_cons ((show qI (qcmp a b) from by unfold qcmp; split <;> (try split) <;> decide)) okS) hl
  refine W.lcmp (x := Int64.ofInt a) (y := Int64.ofInt b) (rest := S.map (qcv ρ)) C.1 C.2.1 hd ?_
  rw [q_lcmp o2 o1]
  exact k1

theorem ev_iconst {X : qX} {d rc rs : Nat} {y : qMT} {pc : Nat} {L S : List qV} {g : qG} {Q : Option qV → qG → Prop} {n : Int} (nx : Nat) (hnx : pc + 1 = nx) (hd : decode y.2.1 pc = .ok (.iconst n, 1)) (ho : qI n)
    (k : Ev X d rc rs y nx L ((0, n) :: S) g Q) : Ev X d rc rs y pc L (S) g Q := by
  subst hnx
  intro p e R s m args below meth c B0 D kA ρ H locs cells slots ls C F M Wd okL okS hl
  have k1 := k p e R s m args below meth c B0 D kA ρ H locs cells slots ls C F M Wd okL (q_cons (ho) okS) hl
  exact lv_iconst (v := Int32.ofInt n) (rest := S.map (qcv ρ)) C.1 C.2.1 hd rfl k1

theorem ev_bipush {X : qX} {d rc rs : Nat} {y : qMT} {pc : Nat} {L S : List qV} {g : qG} {Q : Option qV → qG → Prop} {n : Int} (nx : Nat) (hnx : pc + 2 = nx) (hd : decode y.2.1 pc = .ok (.bipush n, 2)) (hv : (Int8.ofInt n).toInt32 = Int32.ofInt n) (ho : qI n)
    (k : Ev X d rc rs y nx L ((0, n) :: S) g Q) : Ev X d rc rs y pc L (S) g Q := by
  subst hnx
  intro p e R s m args below meth c B0 D kA ρ H locs cells slots ls C F M Wd okL okS hl
  have k1 := k p e R s m args below meth c B0 D kA ρ H locs cells slots ls C F M Wd okL (q_cons (ho) okS) hl
  exact lv_bipush (v := Int32.ofInt n) (rest := S.map (qcv ρ)) C.1 C.2.1 hd hv k1

theorem ev_sipush {X : qX} {d rc rs : Nat} {y : qMT} {pc : Nat} {L S : List qV} {g : qG} {Q : Option qV → qG → Prop} {n : Int} (nx : Nat) (hnx : pc + 3 = nx) (hd : decode y.2.1 pc = .ok (.sipush n, 3)) (hv : (Int16.ofInt n).toInt32 = Int32.ofInt n) (ho : qI n)
    (k : Ev X d rc rs y nx L ((0, n) :: S) g Q) : Ev X d rc rs y pc L (S) g Q := by
  subst hnx
  intro p e R s m args below meth c B0 D kA ρ H locs cells slots ls C F M Wd okL okS hl
  have k1 := k p e R s m args below meth c B0 D kA ρ H locs cells slots ls C F M Wd okL (q_cons (ho) okS) hl
  exact lv_sipush (v := Int32.ofInt n) (rest := S.map (qcv ρ)) C.1 C.2.1 hd hv k1

theorem ev_lconst {X : qX} {d rc rs : Nat} {y : qMT} {pc : Nat} {L S : List qV} {g : qG} {Q : Option qV → qG → Prop} {n : Fin 2} {v : Int} (nx : Nat) (hnx : pc + 1 = nx) (hd : decode y.2.1 pc = .ok (.lconst n, 1)) (hv : Int64.ofNat (n : Nat) = Int64.ofInt v) (ho : qL v)
    (k : Ev X d rc rs y nx L ((1, v) :: S) g Q) : Ev X d rc rs y pc L (S) g Q := by
  subst hnx
  intro p e R s m args below meth c B0 D kA ρ H locs cells slots ls C F M Wd okL okS hl
  have k1 := k p e R s m args below meth c B0 D kA ρ H locs cells slots ls C F M Wd okL (q_cons (ho) okS) hl
  exact lv_lconst (v := Int64.ofInt v) (rest := S.map (qcv ρ)) C.1 C.2.1 hd hv k1

theorem ev_ldc2 {X : qX} {d rc rs : Nat} {y : qMT} {pc : Nat} {L S : List qV} {g : qG} {Q : Option qV → qG → Prop} {i : Nat} {v : Int} (nx : Nat) (hnx : pc + 3 = nx) (hd : decode y.2.1 pc = .ok (.ldc2_w i, 3)) (hw : Cond.constantLong y.1.cls i (Int64.ofInt v) ∈ qw) (ho : qL v)
    (k : Ev X d rc rs y nx L ((1, v) :: S) g Q) : Ev X d rc rs y pc L (S) g Q := by
  subst hnx
  intro p e R s m args below meth c B0 D kA ρ H locs cells slots ls C F M Wd okL okS hl
  have k1 := k p e R s m args below meth c B0 D kA ρ H locs cells slots ls C F M Wd okL (q_cons (ho) okS) hl
  exact lv_ldc2 (rest := S.map (qcv ρ)) C.1 C.2.1 C.2.2.2.2.1 (C.2.2.2.2.2.1 _ hw) hd k1

theorem ev_dup {X : qX} {d rc rs : Nat} {y : qMT} {pc : Nat} {L S : List qV} {g : qG} {Q : Option qV → qG → Prop} {v : qV} (nx : Nat) (hnx : pc + 1 = nx) (hd : decode y.2.1 pc = .ok (.dup, 1)) (hv : v.1 ≠ 1)
    (k : Ev X d rc rs y nx L (v :: v :: S) g Q) : Ev X d rc rs y pc L (v :: S) g Q := by
  subst hnx
  intro p e R s m args below meth c B0 D kA ρ H locs cells slots ls C F M Wd okL okS hl
  obtain ⟨o1, okS⟩ := List.forall_mem_cons.mp okS
  have k1 := k p e R s m args below meth c B0 D kA ρ H locs cells slots ls C F M Wd okL (q_cons (o1) (q_cons (o1) okS)) hl
  exact lv_dup (rest := S.map (qcv ρ)) C.1 C.2.1 hd (q_cat1 hv) k1

theorem ev_pop {X : qX} {d rc rs : Nat} {y : qMT} {pc : Nat} {L S : List qV} {g : qG} {Q : Option qV → qG → Prop} {v : qV} (nx : Nat) (hnx : pc + 1 = nx) (hd : decode y.2.1 pc = .ok (.pop, 1)) (hv : v.1 ≠ 1)
    (k : Ev X d rc rs y nx L (S) g Q) : Ev X d rc rs y pc L (v :: S) g Q := by
  subst hnx
  intro p e R s m args below meth c B0 D kA ρ H locs cells slots ls C F M Wd okL okS hl
  obtain ⟨o1, okS⟩ := List.forall_mem_cons.mp okS
  have k1 := k p e R s m args below meth c B0 D kA ρ H locs cells slots ls C F M Wd okL okS hl
  exact lv_pop (rest := S.map (qcv ρ)) C.1 C.2.1 hd (q_cat1 hv) k1

theorem ev_dup2 {X : qX} {d rc rs : Nat} {y : qMT} {pc : Nat} {L S : List qV} {g : qG} {Q : Option qV → qG → Prop} {v w : qV} (nx : Nat) (hnx : pc + 1 = nx) (hd : decode y.2.1 pc = .ok (.dup2, 1)) (hv : v.1 ≠ 1) (hw : w.1 ≠ 1)
    (k : Ev X d rc rs y nx L (v :: w :: v :: w :: S) g Q) : Ev X d rc rs y pc L (v :: w :: S) g Q := by
  subst hnx
  intro p e R s m args below meth c B0 D kA ρ H locs cells slots ls C F M Wd okL okS hl
  obtain ⟨o1, okS⟩ := List.forall_mem_cons.mp okS
  obtain ⟨o2, okS⟩ := List.forall_mem_cons.mp okS
  have k1 := k p e R s m args below meth c B0 D kA ρ H locs cells slots ls C F M Wd okL (q_cons (o1) (q_cons (o2) (q_cons (o1) (q_cons (o2) okS)))) hl
  exact lv_dup2_11 (rest := S.map (qcv ρ)) C.1 C.2.1 hd (q_cat1 hv) (q_cat1 hw) k1

theorem ev_aconst_null {X : qX} {d rc rs : Nat} {y : qMT} {pc : Nat} {L S : List qV} {g : qG} {Q : Option qV → qG → Prop}  (nx : Nat) (hnx : pc + 1 = nx) (hd : decode y.2.1 pc = .ok (.aconst_null, 1)) 
    (k : Ev X d rc rs y nx L ((2, -1) :: S) g Q) : Ev X d rc rs y pc L (S) g Q := by
  subst hnx
  intro p e R s m args below meth c B0 D kA ρ H locs cells slots ls C F M Wd okL okS hl
  have k1 := k p e R s m args below meth c B0 D kA ρ H locs cells slots ls C F M Wd okL (q_cons ((show (-1 : Int) < (g.1.length : Int) from by omega)) okS) hl
  exact lv_null (rest := S.map (qcv ρ)) C.1 C.2.1 hd k1

theorem ev_iload_n {X : qX} {d rc rs : Nat} {y : qMT} {pc : Nat} {L S : List qV} {g : qG} {Q : Option qV → qG → Prop} {k1 : Fin 4} {i : Nat} {x : Int} (nx : Nat) (hnx : pc + 1 = nx) (hd : decode y.2.1 pc = .ok (.iload_n k1, 1)) (hi : (k1 : Nat) = i) (hL : L[i]? = some (0, x))
    (k : Ev X d rc rs y nx L ((0, x) :: S) g Q) : Ev X d rc rs y pc L (S) g Q := by
  subst hnx
  intro p e R s m args below meth c B0 D kA ρ H locs cells slots ls C F M Wd okL okS hl
  have k2 := k p e R s m args below meth c B0 D kA ρ H locs cells slots ls C F M Wd okL (q_cons (okL _ (List.mem_of_getElem? hL)) okS) hl
  exact lv_iload_n (rest := S.map (qcv ρ)) C.1 C.2.1 hd hi (qlc_at hl hL (show (0 : Nat) ≠ 8 by decide)) k2

theorem ev_iload {X : qX} {d rc rs : Nat} {y : qMT} {pc : Nat} {L S : List qV} {g : qG} {Q : Option qV → qG → Prop} {i : Nat} {x : Int} (nx : Nat) (hnx : pc + 2 = nx) (hd : decode y.2.1 pc = .ok (.iload i, 2)) (hL : L[i]? = some (0, x))
    (k : Ev X d rc rs y nx L ((0, x) :: S) g Q) : Ev X d rc rs y pc L (S) g Q := by
  subst hnx
  intro p e R s m args below meth c B0 D kA ρ H locs cells slots ls C F M Wd okL okS hl
  have k1 := k p e R s m args below meth c B0 D kA ρ H locs cells slots ls C F M Wd okL (q_cons (okL _ (List.mem_of_getElem? hL)) okS) hl
  exact lv_iload (rest := S.map (qcv ρ)) C.1 C.2.1 hd (qlc_at hl hL (show (0 : Nat) ≠ 8 by decide)) k1

theorem ev_lload_n {X : qX} {d rc rs : Nat} {y : qMT} {pc : Nat} {L S : List qV} {g : qG} {Q : Option qV → qG → Prop} {k1 : Fin 4} {i : Nat} {x : Int} (nx : Nat) (hnx : pc + 1 = nx) (hd : decode y.2.1 pc = .ok (.lload_n k1, 1)) (hi : (k1 : Nat) = i) (hL : L[i]? = some (1, x))
    (k : Ev X d rc rs y nx L ((1, x) :: S) g Q) : Ev X d rc rs y pc L (S) g Q := by
  subst hnx
  intro p e R s m args below meth c B0 D kA ρ H locs cells slots ls C F M Wd okL okS hl
  have k2 := k p e R s m args below meth c B0 D kA ρ H locs cells slots ls C F M Wd okL (q_cons (okL _ (List.mem_of_getElem? hL)) okS) hl
  exact lv_lload_n (rest := S.map (qcv ρ)) C.1 C.2.1 hd hi (qlc_at hl hL (show (1 : Nat) ≠ 8 by decide)) k2

theorem ev_lload {X : qX} {d rc rs : Nat} {y : qMT} {pc : Nat} {L S : List qV} {g : qG} {Q : Option qV → qG → Prop} {i : Nat} {x : Int} (nx : Nat) (hnx : pc + 2 = nx) (hd : decode y.2.1 pc = .ok (.lload i, 2)) (hL : L[i]? = some (1, x))
    (k : Ev X d rc rs y nx L ((1, x) :: S) g Q) : Ev X d rc rs y pc L (S) g Q := by
  subst hnx
  intro p e R s m args below meth c B0 D kA ρ H locs cells slots ls C F M Wd okL okS hl
  have k1 := k p e R s m args below meth c B0 D kA ρ H locs cells slots ls C F M Wd okL (q_cons (okL _ (List.mem_of_getElem? hL)) okS) hl
  exact lv_lload (rest := S.map (qcv ρ)) C.1 C.2.1 hd (qlc_at hl hL (show (1 : Nat) ≠ 8 by decide)) k1

theorem ev_aload_n {X : qX} {d rc rs : Nat} {y : qMT} {pc : Nat} {L S : List qV} {g : qG} {Q : Option qV → qG → Prop} {k1 : Fin 4} {i : Nat} {x : Int} (nx : Nat) (hnx : pc + 1 = nx) (hd : decode y.2.1 pc = .ok (.aload_n k1, 1)) (hi : (k1 : Nat) = i) (hL : L[i]? = some (2, x))
    (k : Ev X d rc rs y nx L ((2, x) :: S) g Q) : Ev X d rc rs y pc L (S) g Q := by
  subst hnx
  intro p e R s m args below meth c B0 D kA ρ H locs cells slots ls C F M Wd okL okS hl
  have k2 := k p e R s m args below meth c B0 D kA ρ H locs cells slots ls C F M Wd okL (q_cons (okL _ (List.mem_of_getElem? hL)) okS) hl
  have hq := qlc_at hl hL (show (2 : Nat) ≠ 8 by decide)
  by_cases hx : x = -1
  · have e1 : qcv ρ (2, x) = .null := by simp [qcv, qrf, hx, va_rf]
    rw [e1] at hq
    rw [List.map_cons, e1] at k2
    exact lv_aload_nN (rest := S.map (qcv ρ)) C.1 C.2.1 hd hi hq k2
  · have e1 : qcv ρ (2, x) = .ref (ρ x) := by simp [qcv, qrf, hx, va_rf]
    rw [e1] at hq
    rw [List.map_cons, e1] at k2
    exact lv_aload_n (rest := S.map (qcv ρ)) C.1 C.2.1 hd hi hq k2

theorem ev_aload {X : qX} {d rc rs : Nat} {y : qMT} {pc : Nat} {L S : List qV} {g : qG} {Q : Option qV → qG → Prop} {i : Nat} {x : Int} (nx : Nat) (hnx : pc + 2 = nx) (hd : decode y.2.1 pc = .ok (.aload i, 2)) (hL : L[i]? = some (2, x))
    (k : Ev X d rc rs y nx L ((2, x) :: S) g Q) : Ev X d rc rs y pc L (S) g Q := by
  subst hnx
  intro p e R s m args below meth c B0 D kA ρ H locs cells slots ls C F M Wd okL okS hl
  have k1 := k p e R s m args below meth c B0 D kA ρ H locs cells slots ls C F M Wd okL (q_cons (okL _ (List.mem_of_getElem? hL)) okS) hl
  have hq := qlc_at hl hL (show (2 : Nat) ≠ 8 by decide)
  by_cases hx : x = -1
  · have e1 : qcv ρ (2, x) = .null := by simp [qcv, qrf, hx, va_rf]
    rw [e1] at hq
    rw [List.map_cons, e1] at k1
    exact lv_aloadN (rest := S.map (qcv ρ)) C.1 C.2.1 hd hq k1
  · have e1 : qcv ρ (2, x) = .ref (ρ x) := by simp [qcv, qrf, hx, va_rf]
    rw [e1] at hq
    rw [List.map_cons, e1] at k1
    exact lv_aload (rest := S.map (qcv ρ)) C.1 C.2.1 hd hq k1

theorem ev_istore_n {X : qX} {d rc rs : Nat} {y : qMT} {pc : Nat} {L S : List qV} {g : qG} {Q : Option qV → qG → Prop} {k1 : Fin 4} {i : Nat} {x : Int} {L1 : List qV} (nx : Nat) (hnx : pc + 1 = nx) (hd : decode y.2.1 pc = .ok (.istore_n k1, 1)) (hi : (k1 : Nat) = i) (hn : i < y.2.2.1) (hL : qst1 L i (0, x) = L1)
    (k : Ev X d rc rs y nx L1 S g Q) : Ev X d rc rs y pc L ((0, x) :: S) g Q := by
  subst hnx
  intro p e R s m args below meth c B0 D kA ρ H locs cells slots ls C F M Wd okL okS hl
  obtain ⟨o1, okS⟩ := List.forall_mem_cons.mp okS
  subst hL
  exact lv_istore_n (rest := S.map (qcv ρ)) C.1 C.2.1 hd hi hl hn rfl (fun ls1 hl1 => k p e R s m args below meth c B0 D kA ρ H locs cells slots ls1 C F M Wd (qst1_ok okL o1) okS (qst1_lv (v := (0, x)) hl1))

theorem ev_lstore_n {X : qX} {d rc rs : Nat} {y : qMT} {pc : Nat} {L S : List qV} {g : qG} {Q : Option qV → qG → Prop} {k1 : Fin 4} {i : Nat} {x : Int} {L1 : List qV} (nx : Nat) (hnx : pc + 1 = nx) (hd : decode y.2.1 pc = .ok (.lstore_n k1, 1)) (hi : (k1 : Nat) = i) (hn : i + 1 < y.2.2.1) (hL : qst2 L i (1, x) = L1)
    (k : Ev X d rc rs y nx L1 S g Q) : Ev X d rc rs y pc L ((1, x) :: S) g Q := by
  subst hnx
  intro p e R s m args below meth c B0 D kA ρ H locs cells slots ls C F M Wd okL okS hl
  obtain ⟨o1, okS⟩ := List.forall_mem_cons.mp okS
  subst hL
  exact lv_lstore_n (rest := S.map (qcv ρ)) C.1 C.2.1 hd hi hl hn rfl (fun ls1 hl1 => k p e R s m args below meth c B0 D kA ρ H locs cells slots ls1 C F M Wd (qst2_ok okL o1) okS (qst2_lv (v := (1, x)) hl1))

theorem ev_astore_n {X : qX} {d rc rs : Nat} {y : qMT} {pc : Nat} {L S : List qV} {g : qG} {Q : Option qV → qG → Prop} {k1 : Fin 4} {i : Nat} {x : Int} {L1 : List qV} (nx : Nat) (hnx : pc + 1 = nx) (hd : decode y.2.1 pc = .ok (.astore_n k1, 1)) (hi : (k1 : Nat) = i) (hn : i < y.2.2.1) (hL : qst1 L i (2, x) = L1)
    (k : Ev X d rc rs y nx L1 S g Q) : Ev X d rc rs y pc L ((2, x) :: S) g Q := by
  subst hnx
  intro p e R s m args below meth c B0 D kA ρ H locs cells slots ls C F M Wd okL okS hl
  obtain ⟨o1, okS⟩ := List.forall_mem_cons.mp okS
  subst hL
  by_cases hx : x = -1
  · have e1 : qcv ρ (2, x) = .null := by simp [qcv, qrf, hx, va_rf]
    rw [List.map_cons, e1]
    exact lv_astore_nN (rest := S.map (qcv ρ)) C.1 C.2.1 hd hi hl hn rfl (fun ls1 hl1 => k p e R s m args below meth c B0 D kA ρ H locs cells slots ls1 C F M Wd (qst1_ok okL o1) okS (qst1_lv (v := (2, x)) (by rw [e1]; exact hl1)))
  · have e1 : qcv ρ (2, x) = .ref (ρ x) := by simp [qcv, qrf, hx, va_rf]
    rw [List.map_cons, e1]
    exact lv_astore_n (rest := S.map (qcv ρ)) C.1 C.2.1 hd hi hl hn rfl (fun ls1 hl1 => k p e R s m args below meth c B0 D kA ρ H locs cells slots ls1 C F M Wd (qst1_ok okL o1) okS (qst1_lv (v := (2, x)) (by rw [e1]; exact hl1)))

theorem ev_istore {X : qX} {d rc rs : Nat} {y : qMT} {pc : Nat} {L S : List qV} {g : qG} {Q : Option qV → qG → Prop} {i : Nat} {x : Int} {L1 : List qV} (nx : Nat) (hnx : pc + 2 = nx) (hd : decode y.2.1 pc = .ok (.istore i, 2)) (hn : i < y.2.2.1) (hL : qst1 L i (0, x) = L1)
    (k : Ev X d rc rs y nx L1 S g Q) : Ev X d rc rs y pc L ((0, x) :: S) g Q := by
  subst hnx
  intro p e R s m args below meth c B0 D kA ρ H locs cells slots ls C F M Wd okL okS hl
  obtain ⟨o1, okS⟩ := List.forall_mem_cons.mp okS
  subst hL
  exact lv_istore (rest := S.map (qcv ρ)) C.1 C.2.1 hd hl hn rfl (fun ls1 hl1 => k p e R s m args below meth c B0 D kA ρ H locs cells slots ls1 C F M Wd (qst1_ok okL o1) okS (qst1_lv (v := (0, x)) hl1))

theorem ev_lstore {X : qX} {d rc rs : Nat} {y : qMT} {pc : Nat} {L S : List qV} {g : qG} {Q : Option qV → qG → Prop} {i : Nat} {x : Int} {L1 : List qV} (nx : Nat) (hnx : pc + 2 = nx) (hd : decode y.2.1 pc = .ok (.lstore i, 2)) (hn : i + 1 < y.2.2.1) (hL : qst2 L i (1, x) = L1)
    (k : Ev X d rc rs y nx L1 S g Q) : Ev X d rc rs y pc L ((1, x) :: S) g Q := by
  subst hnx
  intro p e R s m args below meth c B0 D kA ρ H locs cells slots ls C F M Wd okL okS hl
  obtain ⟨o1, okS⟩ := List.forall_mem_cons.mp okS
  subst hL
  exact lv_lstore (rest := S.map (qcv ρ)) C.1 C.2.1 hd hl hn rfl (fun ls1 hl1 => k p e R s m args below meth c B0 D kA ρ H locs cells slots ls1 C F M Wd (qst2_ok okL o1) okS (qst2_lv (v := (1, x)) hl1))

theorem ev_astore {X : qX} {d rc rs : Nat} {y : qMT} {pc : Nat} {L S : List qV} {g : qG} {Q : Option qV → qG → Prop} {i : Nat} {x : Int} {L1 : List qV} (nx : Nat) (hnx : pc + 2 = nx) (hd : decode y.2.1 pc = .ok (.astore i, 2)) (hn : i < y.2.2.1) (hL : qst1 L i (2, x) = L1)
    (k : Ev X d rc rs y nx L1 S g Q) : Ev X d rc rs y pc L ((2, x) :: S) g Q := by
  subst hnx
  intro p e R s m args below meth c B0 D kA ρ H locs cells slots ls C F M Wd okL okS hl
  obtain ⟨o1, okS⟩ := List.forall_mem_cons.mp okS
  subst hL
  by_cases hx : x = -1
  · have e1 : qcv ρ (2, x) = .null := by simp [qcv, qrf, hx, va_rf]
    rw [List.map_cons, e1]
    exact lv_astoreN (rest := S.map (qcv ρ)) C.1 C.2.1 hd hl hn rfl (fun ls1 hl1 => k p e R s m args below meth c B0 D kA ρ H locs cells slots ls1 C F M Wd (qst1_ok okL o1) okS (qst1_lv (v := (2, x)) (by rw [e1]; exact hl1)))
  · have e1 : qcv ρ (2, x) = .ref (ρ x) := by simp [qcv, qrf, hx, va_rf]
    rw [List.map_cons, e1]
    exact lv_astore (rest := S.map (qcv ρ)) C.1 C.2.1 hd hl hn rfl (fun ls1 hl1 => k p e R s m args below meth c B0 D kA ρ H locs cells slots ls1 C F M Wd (qst1_ok okL o1) okS (qst1_lv (v := (2, x)) (by rw [e1]; exact hl1)))

theorem ev_iinc {X : qX} {d rc rs : Nat} {y : qMT} {pc : Nat} {L S : List qV} {g : qG} {Q : Option qV → qG → Prop} {i : Nat} {n x : Int} {L1 : List qV} (nx : Nat) (hnx : pc + 3 = nx) (hd : decode y.2.1 pc = .ok (.iinc i n, 3)) (hk : L[i]? = some (0, x)) (ho : qI (x + n)) (hn : i < y.2.2.1) (hL : qst1 L i (0, x + n) = L1)
    (k : Ev X d rc rs y nx L1 S g Q) : Ev X d rc rs y pc L S g Q := by
  subst hnx
  intro p e R s m args below meth c B0 D kA ρ H locs cells slots ls C F M Wd okL okS hl
  subst hL
  have hm : (i, qcv ρ (0, x)) ∈ qlc ρ 0 L := qlc_mem.mpr ⟨i, (0, x), hk, (show (0 : Nat) ≠ 8 by decide), by omega, rfl⟩
  obtain ⟨j, hj⟩ := List.getElem?_of_mem hm
  exact lv_iinc (v := Int32.ofInt (x + n)) (rest := S.map (qcv ρ)) C.1 C.2.1 hd hl (k := j) hj (Int32.ofInt_add x n).symm hn rfl (fun ls1 hl1 => k p e R s m args below meth c B0 D kA ρ H locs cells slots ls1 C F M Wd (qst1_ok okL ho) okS (qst1_lv (v := (0, x + n)) hl1))

theorem ev_if_eq {X : qX} {d rc rs : Nat} {y : qMT} {pc : Nat} {L S : List qV} {g : qG} {Q : Option qV → qG → Prop} {a : Int} {off : Int} {tgt : Nat} (nx : Nat) (hnx : pc + 3 = nx) (hd : decode y.2.1 pc = .ok (.ifCond .eq off, 3)) (ht : (pc : Int) + off = (tgt : Int))
    (kt : a = 0 → Ev X d rc rs y tgt L S g Q) (kf : ¬ a = 0 → Ev X d rc rs y nx L S g Q) : Ev X d rc rs y pc L ((0, a) :: S) g Q := by
  subst hnx
  intro p e R s m args below meth c B0 D kA ρ H locs cells slots ls C F M Wd okL okS hl
  obtain ⟨o1, okS⟩ := List.forall_mem_cons.mp okS
  exact lv_if_eq (rest := S.map (qcv ρ)) C.1 C.2.1 hd ht (fun q => kt ((q_eq o1 q_I0).mp q) p e R s m args below meth c B0 D kA ρ H locs cells slots ls C F M Wd okL okS hl) (fun q => kf (fun z => q ((q_eq o1 q_I0).mpr z)) p e R s m args below meth c B0 D kA ρ H locs cells slots ls C F M Wd okL okS hl)

theorem ev_icmp_eq {X : qX} {d rc rs : Nat} {y : qMT} {pc : Nat} {L S : List qV} {g : qG} {Q : Option qV → qG → Prop} {a b : Int} {off : Int} {tgt : Nat} (nx : Nat) (hnx : pc + 3 = nx) (hd : decode y.2.1 pc = .ok (.if_icmp .eq off, 3)) (ht : (pc : Int) + off = (tgt : Int))
    (kt : a = b → Ev X d rc rs y tgt L S g Q) (kf : ¬ a = b → Ev X d rc rs y nx L S g Q) : Ev X d rc rs y pc L ((0, b) :: (0, a) :: S) g Q := by
  subst hnx
  intro p e R s m args below meth c B0 D kA ρ H locs cells slots ls C F M Wd okL okS hl
  obtain ⟨o1, okS⟩ := List.forall_mem_cons.mp okS
  obtain ⟨o2, okS⟩ := List.forall_mem_cons.mp okS
  exact lv_icmp_eq (rest := S.map (qcv ρ)) C.1 C.2.1 hd ht (fun q => kt ((q_eq o2 o1).mp q) p e R s m args below meth c B0 D kA ρ H locs cells slots ls C F M Wd okL okS hl) (fun q => kf (fun z => q ((q_eq o2 o1).mpr z)) p e R s m args below meth c B0 D kA ρ H locs cells slots ls C F M Wd okL okS hl)

theorem ev_if_ne {X : qX} {d rc rs : Nat} {y : qMT} {pc : Nat} {L S : List qV} {g : qG} {Q : Option qV → qG → Prop} {a : Int} {off : Int} {tgt : Nat} (nx : Nat) (hnx : pc + 3 = nx) (hd : decode y.2.1 pc = .ok (.ifCond .ne off, 3)) (ht : (pc : Int) + off = (tgt : Int))
    (kt : ¬ a = 0 → Ev X d rc rs y tgt L S g Q) (kf : a = 0 → Ev X d rc rs y nx L S g Q) : Ev X d rc rs y pc L ((0, a) :: S) g Q := by
  subst hnx
  intro p e R s m args below meth c B0 D kA ρ H locs cells slots ls C F M Wd okL okS hl
  obtain ⟨o1, okS⟩ := List.forall_mem_cons.mp okS
  exact lv_if_ne (rest := S.map (qcv ρ)) C.1 C.2.1 hd ht (fun q => kt (fun z => q ((q_eq o1 q_I0).mpr z)) p e R s m args below meth c B0 D kA ρ H locs cells slots ls C F M Wd okL okS hl) (fun q => kf ((q_eq o1 q_I0).mp q) p e R s m args below meth c B0 D kA ρ H locs cells slots ls C F M Wd okL okS hl)

theorem ev_icmp_ne {X : qX} {d rc rs : Nat} {y : qMT} {pc : Nat} {L S : List qV} {g : qG} {Q : Option qV → qG → Prop} {a b : Int} {off : Int} {tgt : Nat} (nx : Nat) (hnx : pc + 3 = nx) (hd : decode y.2.1 pc = .ok (.if_icmp .ne off, 3)) (ht : (pc : Int) + off = (tgt : Int))
    (kt : ¬ a = b → Ev X d rc rs y tgt L S g Q) (kf : a = b → Ev X d rc rs y nx L S g Q) : Ev X d rc rs y pc L ((0, b) :: (0, a) :: S) g Q := by
  subst hnx
  intro p e R s m args below meth c B0 D kA ρ H locs cells slots ls C F M Wd okL okS hl
  obtain ⟨o1, okS⟩ := List.forall_mem_cons.mp okS
  obtain ⟨o2, okS⟩ := List.forall_mem_cons.mp okS
  exact lv_icmp_ne (rest := S.map (qcv ρ)) C.1 C.2.1 hd ht (fun q => kt (fun z => q ((q_eq o2 o1).mpr z)) p e R s m args below meth c B0 D kA ρ H locs cells slots ls C F M Wd okL okS hl) (fun q => kf ((q_eq o2 o1).mp q) p e R s m args below meth c B0 D kA ρ H locs cells slots ls C F M Wd okL okS hl)

theorem ev_if_lt {X : qX} {d rc rs : Nat} {y : qMT} {pc : Nat} {L S : List qV} {g : qG} {Q : Option qV → qG → Prop} {a : Int} {off : Int} {tgt : Nat} (nx : Nat) (hnx : pc + 3 = nx) (hd : decode y.2.1 pc = .ok (.ifCond .lt off, 3)) (ht : (pc : Int) + off = (tgt : Int))
    (kt : a < 0 → Ev X d rc rs y tgt L S g Q) (kf : 0 ≤ a → Ev X d rc rs y nx L S g Q) : Ev X d rc rs y pc L ((0, a) :: S) g Q := by
  subst hnx
  intro p e R s m args below meth c B0 D kA ρ H locs cells slots ls C F M Wd okL okS hl
  obtain ⟨o1, okS⟩ := List.forall_mem_cons.mp okS
  exact lv_if_lt (rest := S.map (qcv ρ)) C.1 C.2.1 hd ht (fun q => kt ((q_lt o1 q_I0).mp q) p e R s m args below meth c B0 D kA ρ H locs cells slots ls C F M Wd okL okS hl) (fun q => kf (Int.not_lt.mp (fun z => q ((q_lt o1 q_I0).mpr z))) p e R s m args below meth c B0 D kA ρ H locs cells slots ls C F M Wd okL okS hl)

theorem ev_icmp_lt {X : qX} {d rc rs : Nat} {y : qMT} {pc : Nat} {L S : List qV} {g : qG} {Q : Option qV → qG → Prop} {a b : Int} {off : Int} {tgt : Nat} (nx : Nat) (hnx : pc + 3 = nx) (hd : decode y.2.1 pc = .ok (.if_icmp .lt off, 3)) (ht : (pc : Int) + off = (tgt : Int))
    (kt : a < b → Ev X d rc rs y tgt L S g Q) (kf : b ≤ a → Ev X d rc rs y nx L S g Q) : Ev X d rc rs y pc L ((0, b) :: (0, a) :: S) g Q := by
  subst hnx
  intro p e R s m args below meth c B0 D kA ρ H locs cells slots ls C F M Wd okL okS hl
  obtain ⟨o1, okS⟩ := List.forall_mem_cons.mp okS
  obtain ⟨o2, okS⟩ := List.forall_mem_cons.mp okS
  exact lv_icmp_lt (rest := S.map (qcv ρ)) C.1 C.2.1 hd ht (fun q => kt ((q_lt o2 o1).mp q) p e R s m args below meth c B0 D kA ρ H locs cells slots ls C F M Wd okL okS hl) (fun q => kf (Int.not_lt.mp (fun z => q ((q_lt o2 o1).mpr z))) p e R s m args below meth c B0 D kA ρ H locs cells slots ls C F M Wd okL okS hl)

theorem ev_if_ge {X : qX} {d rc rs : Nat} {y : qMT} {pc : Nat} {L S : List qV} {g : qG} {Q : Option qV → qG → Prop} {a : Int} {off : Int} {tgt : Nat} (nx : Nat) (hnx : pc + 3 = nx) (hd : decode y.2.1 pc = .ok (.ifCond .ge off, 3)) (ht : (pc : Int) + off = (tgt : Int))
    (kt : 0 ≤ a → Ev X d rc rs y tgt L S g Q) (kf : a < 0 → Ev X d rc rs y nx L S g Q) : Ev X d rc rs y pc L ((0, a) :: S) g Q := by
  subst hnx
  intro p e R s m args below meth c B0 D kA ρ H locs cells slots ls C F M Wd okL okS hl
  obtain ⟨o1, okS⟩ := List.forall_mem_cons.mp okS
  exact lv_if_ge (rest := S.map (qcv ρ)) C.1 C.2.1 hd ht (fun q => kt ((q_le q_I0 o1).mp q) p e R s m args below meth c B0 D kA ρ H locs cells slots ls C F M Wd okL okS hl) (fun q => kf (Int.not_le.mp (fun z => q ((q_le q_I0 o1).mpr z))) p e R s m args below meth c B0 D kA ρ H locs cells slots ls C F M Wd okL okS hl)

theorem ev_icmp_ge {X : qX} {d rc rs : Nat} {y : qMT} {pc : Nat} {L S : List qV} {g : qG} {Q : Option qV → qG → Prop} {a b : Int} {off : Int} {tgt : Nat} (nx : Nat) (hnx : pc + 3 = nx) (hd : decode y.2.1 pc = .ok (.if_icmp .ge off, 3)) (ht : (pc : Int) + off = (tgt : Int))
    (kt : b ≤ a → Ev X d rc rs y tgt L S g Q) (kf : a < b → Ev X d rc rs y nx L S g Q) : Ev X d rc rs y pc L ((0, b) :: (0, a) :: S) g Q := by
  subst hnx
  intro p e R s m args below meth c B0 D kA ρ H locs cells slots ls C F M Wd okL okS hl
  obtain ⟨o1, okS⟩ := List.forall_mem_cons.mp okS
  obtain ⟨o2, okS⟩ := List.forall_mem_cons.mp okS
  exact lv_icmp_ge (rest := S.map (qcv ρ)) C.1 C.2.1 hd ht (fun q => kt ((q_le o1 o2).mp q) p e R s m args below meth c B0 D kA ρ H locs cells slots ls C F M Wd okL okS hl) (fun q => kf (Int.not_le.mp (fun z => q ((q_le o1 o2).mpr z))) p e R s m args below meth c B0 D kA ρ H locs cells slots ls C F M Wd okL okS hl)

theorem ev_if_gt {X : qX} {d rc rs : Nat} {y : qMT} {pc : Nat} {L S : List qV} {g : qG} {Q : Option qV → qG → Prop} {a : Int} {off : Int} {tgt : Nat} (nx : Nat) (hnx : pc + 3 = nx) (hd : decode y.2.1 pc = .ok (.ifCond .gt off, 3)) (ht : (pc : Int) + off = (tgt : Int))
    (kt : 0 < a → Ev X d rc rs y tgt L S g Q) (kf : a ≤ 0 → Ev X d rc rs y nx L S g Q) : Ev X d rc rs y pc L ((0, a) :: S) g Q := by
  subst hnx
  intro p e R s m args below meth c B0 D kA ρ H locs cells slots ls C F M Wd okL okS hl
  obtain ⟨o1, okS⟩ := List.forall_mem_cons.mp okS
  exact lv_if_gt (rest := S.map (qcv ρ)) C.1 C.2.1 hd ht (fun q => kt ((q_lt q_I0 o1).mp q) p e R s m args below meth c B0 D kA ρ H locs cells slots ls C F M Wd okL okS hl) (fun q => kf (Int.not_lt.mp (fun z => q ((q_lt q_I0 o1).mpr z))) p e R s m args below meth c B0 D kA ρ H locs cells slots ls C F M Wd okL okS hl)

theorem ev_icmp_gt {X : qX} {d rc rs : Nat} {y : qMT} {pc : Nat} {L S : List qV} {g : qG} {Q : Option qV → qG → Prop} {a b : Int} {off : Int} {tgt : Nat} (nx : Nat) (hnx : pc + 3 = nx) (hd : decode y.2.1 pc = .ok (.if_icmp .gt off, 3)) (ht : (pc : Int) + off = (tgt : Int))
    (kt : b < a → Ev X d rc rs y tgt L S g Q) (kf : a ≤ b → Ev X d rc rs y nx L S g Q) : Ev X d rc rs y pc L ((0, b) :: (0, a) :: S) g Q := by
  subst hnx
  intro p e R s m args below meth c B0 D kA ρ H locs cells slots ls C F M Wd okL okS hl
  obtain ⟨o1, okS⟩ := List.forall_mem_cons.mp okS
  obtain ⟨o2, okS⟩ := List.forall_mem_cons.mp okS
  exact lv_icmp_gt (rest := S.map (qcv ρ)) C.1 C.2.1 hd ht (fun q => kt ((q_lt o1 o2).mp q) p e R s m args below meth c B0 D kA ρ H locs cells slots ls C F M Wd okL okS hl) (fun q => kf (Int.not_lt.mp (fun z => q ((q_lt o1 o2).mpr z))) p e R s m args below meth c B0 D kA ρ H locs cells slots ls C F M Wd okL okS hl)

theorem ev_if_le {X : qX} {d rc rs : Nat} {y : qMT} {pc : Nat} {L S : List qV} {g : qG} {Q : Option qV → qG → Prop} {a : Int} {off : Int} {tgt : Nat} (nx : Nat) (hnx : pc + 3 = nx) (hd : decode y.2.1 pc = .ok (.ifCond .le off, 3)) (ht : (pc : Int) + off = (tgt : Int))
    (kt : a ≤ 0 → Ev X d rc rs y tgt L S g Q) (kf : 0 < a → Ev X d rc rs y nx L S g Q) : Ev X d rc rs y pc L ((0, a) :: S) g Q := by
  subst hnx
  intro p e R s m args below meth c B0 D kA ρ H locs cells slots ls C F M Wd okL okS hl
  obtain ⟨o1, okS⟩ := List.forall_mem_cons.mp okS
  exact lv_if_le (rest := S.map (qcv ρ)) C.1 C.2.1 hd ht (fun q => kt ((q_le o1 q_I0).mp q) p e R s m args below meth c B0 D kA ρ H locs cells slots ls C F M Wd okL okS hl) (fun q => kf (Int.not_le.mp (fun z => q ((q_le o1 q_I0).mpr z))) p e R s m args below meth c B0 D kA ρ H locs cells slots ls C F M Wd okL okS hl)

theorem ev_icmp_le {X : qX} {d rc rs : Nat} {y : qMT} {pc : Nat} {L S : List qV} {g : qG} {Q : Option qV → qG → Prop} {a b : Int} {off : Int} {tgt : Nat} (nx : Nat) (hnx : pc + 3 = nx) (hd : decode y.2.1 pc = .ok (.if_icmp .le off, 3)) (ht : (pc : Int) + off = (tgt : Int))
    (kt : a ≤ b → Ev X d rc rs y tgt L S g Q) (kf : b < a → Ev X d rc rs y nx L S g Q) : Ev X d rc rs y pc L ((0, b) :: (0, a) :: S) g Q := by
  subst hnx
  intro p e R s m args below meth c B0 D kA ρ H locs cells slots ls C F M Wd okL okS hl
  obtain ⟨o1, okS⟩ := List.forall_mem_cons.mp okS
  obtain ⟨o2, okS⟩ := List.forall_mem_cons.mp okS
  exact lv_icmp_le (rest := S.map (qcv ρ)) C.1 C.2.1 hd ht (fun q => kt ((q_le o2 o1).mp q) p e R s m args below meth c B0 D kA ρ H locs cells slots ls C F M Wd okL okS hl) (fun q => kf (Int.not_le.mp (fun z => q ((q_le o2 o1).mpr z))) p e R s m args below meth c B0 D kA ρ H locs cells slots ls C F M Wd okL okS hl)

theorem qcmp_eq {a b : Int} : qcmp a b = 0 ↔ a = b := by unfold qcmp; split <;> (try split) <;> omega
theorem qcmp_lt {a b : Int} : qcmp a b < 0 ↔ a < b := by unfold qcmp; split <;> (try split) <;> omega
theorem qcmp_le {a b : Int} : qcmp a b ≤ 0 ↔ a ≤ b := by unfold qcmp; split <;> (try split) <;> omega
theorem qcmp_gt {a b : Int} : 0 < qcmp a b ↔ b < a := by unfold qcmp; split <;> (try split) <;> omega
theorem qcmp_ge {a b : Int} : 0 ≤ qcmp a b ↔ b ≤ a := by unfold qcmp; split <;> (try split) <;> omega

theorem ev_lc_eq {X : qX} {d rc rs : Nat} {y : qMT} {pc : Nat} {L S : List qV} {g : qG} {Q : Option qV → qG → Prop} {a b : Int} {off : Int} {tgt : Nat} (nx : Nat) (hnx : pc + 1 + 3 = nx) (hd : decode y.2.1 pc = .ok (.lcmp, 1)) (hd2 : decode y.2.1 (pc + 1) = .ok (.ifCond .eq off, 3)) (ht : ((pc + 1 : Nat) : Int) + off = (tgt : Int))
    (kt : a = b → Ev X d rc rs y tgt L S g Q) (kf : ¬ a = b → Ev X d rc rs y nx L S g Q) : Ev X d rc rs y pc L ((1, b) :: (1, a) :: S) g Q := by
  subst hnx
  exact ev_lcmp _ rfl hd (ev_if_eq _ rfl hd2 ht (fun q => kt (qcmp_eq.mp q)) (fun q => kf (fun z => q (qcmp_eq.mpr z))))
theorem ev_lc_ne {X : qX} {d rc rs : Nat} {y : qMT} {pc : Nat} {L S : List qV} {g : qG} {Q : Option qV → qG → Prop} {a b : Int} {off : Int} {tgt : Nat} (nx : Nat) (hnx : pc + 1 + 3 = nx) (hd : decode y.2.1 pc = .ok (.lcmp, 1)) (hd2 : decode y.2.1 (pc + 1) = .ok (.ifCond .ne off, 3)) (ht : ((pc + 1 : Nat) : Int) + off = (tgt : Int))
    (kt : ¬ a = b → Ev X d rc rs y tgt L S g Q) (kf : a = b → Ev X d rc rs y nx L S g Q) : Ev X d rc rs y pc L ((1, b) :: (1, a) :: S) g Q := by
  subst hnx
  exact ev_lcmp _ rfl hd (ev_if_ne _ rfl hd2 ht (fun q => kt (fun z => q (qcmp_eq.mpr z))) (fun q => kf (qcmp_eq.mp q)))
theorem ev_lc_lt {X : qX} {d rc rs : Nat} {y : qMT} {pc : Nat} {L S : List qV} {g : qG} {Q : Option qV → qG → Prop} {a b : Int} {off : Int} {tgt : Nat} (nx : Nat) (hnx : pc + 1 + 3 = nx) (hd : decode y.2.1 pc = .ok (.lcmp, 1)) (hd2 : decode y.2.1 (pc + 1) = .ok (.ifCond .lt off, 3)) (ht : ((pc + 1 : Nat) : Int) + off = (tgt : Int))
    (kt : a < b → Ev X d rc rs y tgt L S g Q) (kf : b ≤ a → Ev X d rc rs y nx L S g Q) : Ev X d rc rs y pc L ((1, b) :: (1, a) :: S) g Q := by
  subst hnx
  exact ev_lcmp _ rfl hd (ev_if_lt _ rfl hd2 ht (fun q => kt (qcmp_lt.mp q)) (fun q => kf (qcmp_ge.mp q)))
theorem ev_lc_ge {X : qX} {d rc rs : Nat} {y : qMT} {pc : Nat} {L S : List qV} {g : qG} {Q : Option qV → qG → Prop} {a b : Int} {off : Int} {tgt : Nat} (nx : Nat) (hnx : pc + 1 + 3 = nx) (hd : decode y.2.1 pc = .ok (.lcmp, 1)) (hd2 : decode y.2.1 (pc + 1) = .ok (.ifCond .ge off, 3)) (ht : ((pc + 1 : Nat) : Int) + off = (tgt : Int))
    (kt : b ≤ a → Ev X d rc rs y tgt L S g Q) (kf : a < b → Ev X d rc rs y nx L S g Q) : Ev X d rc rs y pc L ((1, b) :: (1, a) :: S) g Q := by
  subst hnx
  exact ev_lcmp _ rfl hd (ev_if_ge _ rfl hd2 ht (fun q => kt (qcmp_ge.mp q)) (fun q => kf (qcmp_lt.mp q)))
theorem ev_lc_gt {X : qX} {d rc rs : Nat} {y : qMT} {pc : Nat} {L S : List qV} {g : qG} {Q : Option qV → qG → Prop} {a b : Int} {off : Int} {tgt : Nat} (nx : Nat) (hnx : pc + 1 + 3 = nx) (hd : decode y.2.1 pc = .ok (.lcmp, 1)) (hd2 : decode y.2.1 (pc + 1) = .ok (.ifCond .gt off, 3)) (ht : ((pc + 1 : Nat) : Int) + off = (tgt : Int))
    (kt : b < a → Ev X d rc rs y tgt L S g Q) (kf : a ≤ b → Ev X d rc rs y nx L S g Q) : Ev X d rc rs y pc L ((1, b) :: (1, a) :: S) g Q := by
  subst hnx
  exact ev_lcmp _ rfl hd (ev_if_gt _ rfl hd2 ht (fun q => kt (qcmp_gt.mp q)) (fun q => kf (qcmp_le.mp q)))
theorem ev_lc_le {X : qX} {d rc rs : Nat} {y : qMT} {pc : Nat} {L S : List qV} {g : qG} {Q : Option qV → qG → Prop} {a b : Int} {off : Int} {tgt : Nat} (nx : Nat) (hnx : pc + 1 + 3 = nx) (hd : decode y.2.1 pc = .ok (.lcmp, 1)) (hd2 : decode y.2.1 (pc + 1) = .ok (.ifCond .le off, 3)) (ht : ((pc + 1 : Nat) : Int) + off = (tgt : Int))
    (kt : a ≤ b → Ev X d rc rs y tgt L S g Q) (kf : b < a → Ev X d rc rs y nx L S g Q) : Ev X d rc rs y pc L ((1, b) :: (1, a) :: S) g Q := by
  subst hnx
  exact ev_lcmp _ rfl hd (ev_if_le _ rfl hd2 ht (fun q => kt (qcmp_le.mp q)) (fun q => kf (qcmp_gt.mp q)))
theorem ev_goto {X : qX} {d rc rs : Nat} {y : qMT} {pc : Nat} {L S : List qV} {g : qG} {Q : Option qV → qG → Prop} {off : Int} {tgt : Nat} (hd : decode y.2.1 pc = .ok (.goto off, 3)) (ht : (pc : Int) + off = (tgt : Int)) (k : Ev X d rc rs y tgt L S g Q) : Ev X d rc rs y pc L S g Q := by
  intro p e R s m args below meth c B0 D kA ρ H locs cells slots ls C F M Wd okL okS hl
  exact lv_goto (rest := S.map (qcv ρ)) C.1 C.2.1 hd ht (k p e R s m args below meth c B0 D kA ρ H locs cells slots ls C F M Wd okL okS hl)

theorem ev_ifnull {X : qX} {d rc rs : Nat} {y : qMT} {pc : Nat} {L S : List qV} {g : qG} {Q : Option qV → qG → Prop} {a : Int} {off : Int} {tgt : Nat} (nx : Nat) (hnx : pc + 3 = nx) (hd : decode y.2.1 pc = .ok (.ifnull off, 3)) (ht : (pc : Int) + off = (tgt : Int))
    (kt : a = -1 → Ev X d rc rs y tgt L S g Q) (kf : ¬ a = -1 → Ev X d rc rs y nx L S g Q) : Ev X d rc rs y pc L ((2, a) :: S) g Q := by
  subst hnx
  intro p e R s m args below meth c B0 D kA ρ H locs cells slots ls C F M Wd okL okS hl
  obtain ⟨o1, okS⟩ := List.forall_mem_cons.mp okS
  by_cases hx : a = -1
  · have e1 : qcv ρ (2, a) = .null := by simp [qcv, qrf, hx, va_rf]
    rw [List.map_cons, e1]
    exact lv_ifnullN (rest := S.map (qcv ρ)) C.1 C.2.1 hd ht (kt hx p e R s m args below meth c B0 D kA ρ H locs cells slots ls C F M Wd okL okS hl)
  · have e1 : qcv ρ (2, a) = .ref (ρ a) := by simp [qcv, qrf, hx, va_rf]
    rw [List.map_cons, e1]
    exact lv_ifnull (rest := S.map (qcv ρ)) C.1 C.2.1 hd (kf hx p e R s m args below meth c B0 D kA ρ H locs cells slots ls C F M Wd okL okS hl)

theorem ev_ifnonnull {X : qX} {d rc rs : Nat} {y : qMT} {pc : Nat} {L S : List qV} {g : qG} {Q : Option qV → qG → Prop} {a : Int} {off : Int} {tgt : Nat} (nx : Nat) (hnx : pc + 3 = nx) (hd : decode y.2.1 pc = .ok (.ifnonnull off, 3)) (ht : (pc : Int) + off = (tgt : Int))
    (kt : ¬ a = -1 → Ev X d rc rs y tgt L S g Q) (kf : a = -1 → Ev X d rc rs y nx L S g Q) : Ev X d rc rs y pc L ((2, a) :: S) g Q := by
  subst hnx
  intro p e R s m args below meth c B0 D kA ρ H locs cells slots ls C F M Wd okL okS hl
  obtain ⟨o1, okS⟩ := List.forall_mem_cons.mp okS
  by_cases hx : a = -1
  · have e1 : qcv ρ (2, a) = .null := by simp [qcv, qrf, hx, va_rf]
    rw [List.map_cons, e1]
    exact lv_ifnonnullN (rest := S.map (qcv ρ)) C.1 C.2.1 hd (kf hx p e R s m args below meth c B0 D kA ρ H locs cells slots ls C F M Wd okL okS hl)
  · have e1 : qcv ρ (2, a) = .ref (ρ a) := by simp [qcv, qrf, hx, va_rf]
    rw [List.map_cons, e1]
    exact lv_ifnonnull (rest := S.map (qcv ρ)) C.1 C.2.1 hd ht (kt hx p e R s m args below meth c B0 D kA ρ H locs cells slots ls C F M Wd okL okS hl)

theorem ev_tableIn {X : qX} {d rc rs : Nat} {y : qMT} {pc : Nat} {L S : List qV} {g : qG} {Q : Option qV → qG → Prop} {a : Int} {dflt lo hi : Int} {offs : Array Int} {len : Nat} {off : Int} {tgt : Nat} (hd : decode y.2.1 pc = .ok (.tableswitch dflt lo hi offs, len)) (h1 : lo ≤ a) (h2 : a ≤ hi) (ho : offs[(a - lo).toNat]? = some off) (ht : (pc : Int) + off = (tgt : Int))
    (k : Ev X d rc rs y tgt L S g Q) : Ev X d rc rs y pc L ((0, a) :: S) g Q := by
  intro p e R s m args below meth c B0 D kA ρ H locs cells slots ls C F M Wd okL okS hl
  obtain ⟨o1, okS⟩ := List.forall_mem_cons.mp okS
  exact lv_tableIn (x := Int32.ofInt a) (rest := S.map (qcv ρ)) C.1 C.2.1 hd (by rw [q_toI o1]; omega) (by rw [q_toI o1]; omega) (by rw [q_toI o1]; exact ho) ht (k p e R s m args below meth c B0 D kA ρ H locs cells slots ls C F M Wd okL okS hl)

theorem ev_tableOut {X : qX} {d rc rs : Nat} {y : qMT} {pc : Nat} {L S : List qV} {g : qG} {Q : Option qV → qG → Prop} {a : Int} {dflt lo hi : Int} {offs : Array Int} {len : Nat} {tgt : Nat} (hd : decode y.2.1 pc = .ok (.tableswitch dflt lo hi offs, len)) (h1 : a < lo ∨ hi < a) (ht : (pc : Int) + dflt = (tgt : Int))
    (k : Ev X d rc rs y tgt L S g Q) : Ev X d rc rs y pc L ((0, a) :: S) g Q := by
  intro p e R s m args below meth c B0 D kA ρ H locs cells slots ls C F M Wd okL okS hl
  obtain ⟨o1, okS⟩ := List.forall_mem_cons.mp okS
  exact lv_tableOut (x := Int32.ofInt a) (rest := S.map (qcv ρ)) C.1 C.2.1 hd (by rw [q_toI o1]; exact h1) ht (k p e R s m args below meth c B0 D kA ρ H locs cells slots ls C F M Wd okL okS hl)

theorem ev_lookup {X : qX} {d rc rs : Nat} {y : qMT} {pc : Nat} {L S : List qV} {g : qG} {Q : Option qV → qG → Prop} {a : Int} {dflt : Int} {ps : Array (Int × Int)} {len : Nat} {off : Int} {tgt : Nat} (hd : decode y.2.1 pc = .ok (.lookupswitch dflt ps, len)) (hp : (ps.toList.zip (ps.toList.drop 1)).all (fun (a, next) => a.1 < next.1) = true) (ho : Op.lookupswitch.offset ps.toList dflt a = off) (ht : (pc : Int) + off = (tgt : Int))
    (k : Ev X d rc rs y tgt L S g Q) : Ev X d rc rs y pc L ((0, a) :: S) g Q := by
  intro p e R s m args below meth c B0 D kA ρ H locs cells slots ls C F M Wd okL okS hl
  obtain ⟨o1, okS⟩ := List.forall_mem_cons.mp okS
  exact lv_lookup (x := Int32.ofInt a) (rest := S.map (qcv ρ)) C.1 C.2.1 hd hp (by rw [q_toI o1]; exact ho) ht (k p e R s m args below meth c B0 D kA ρ H locs cells slots ls C F M Wd okL okS hl)
