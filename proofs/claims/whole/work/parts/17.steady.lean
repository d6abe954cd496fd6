/-! runs that make no cell and move no pointer -/
def qRI (sh : qS) (pt : qM) (K : Int → qM → Prop) : Option qV → qG → Prop := fun r g => ∃ (v : Int) (h : qM), r = some (0, v) ∧ g = (sh, pt, h) ∧ K v h
def qRL (sh : qS) (pt : qM) (K : Int → qM → Prop) : Option qV → qG → Prop := fun r g => ∃ (v : Int) (h : qM), r = some (1, v) ∧ g = (sh, pt, h) ∧ K v h
def qRV (sh : qS) (pt : qM) (K : qM → Prop) : Option qV → qG → Prop := fun r g => ∃ (h : qM), r = none ∧ g = (sh, pt, h) ∧ K h
def EvI (X : qX) (d : Nat) (y : qMT) (pc : Nat) (L S : List qV) (sh : qS) (pt h : qM) (K : Int → qM → Prop) : Prop := Ev X d 0 0 y pc L S (sh, pt, h) (qRI sh pt K)
def EvL (X : qX) (d : Nat) (y : qMT) (pc : Nat) (L S : List qV) (sh : qS) (pt h : qM) (K : Int → qM → Prop) : Prop := Ev X d 0 0 y pc L S (sh, pt, h) (qRL sh pt K)
def EvV (X : qX) (d : Nat) (y : qMT) (pc : Nat) (L S : List qV) (sh : qS) (pt h : qM) (K : qM → Prop) : Prop := Ev X d 0 0 y pc L S (sh, pt, h) (qRV sh pt K)
def RunI (X : qX) (d : Nat) (y : qMT) (args : List qV) (sh : qS) (pt h : qM) (K : Int → qM → Prop) : Prop := EvI X d y 0 (qent y.2.2.1 args) [] sh pt h K
def RunL (X : qX) (d : Nat) (y : qMT) (args : List qV) (sh : qS) (pt h : qM) (K : Int → qM → Prop) : Prop := EvL X d y 0 (qent y.2.2.1 args) [] sh pt h K
def RunV (X : qX) (d : Nat) (y : qMT) (args : List qV) (sh : qS) (pt h : qM) (K : qM → Prop) : Prop := EvV X d y 0 (qent y.2.2.1 args) [] sh pt h K
theorem RunI.mono {X : qX} {d : Nat} {y : qMT} {args : List qV} {sh : qS} {pt h : qM} {K K1 : Int → qM → Prop} (hk : ∀ v h, K1 v h → K v h) (k : RunI X d y args sh pt h K1) : RunI X d y args sh pt h K := Ev.mono (fun _ _ ⟨v, h, h1, h2, h3⟩ => ⟨v, h, h1, h2, hk v h h3⟩) k
theorem RunL.mono {X : qX} {d : Nat} {y : qMT} {args : List qV} {sh : qS} {pt h : qM} {K K1 : Int → qM → Prop} (hk : ∀ v h, K1 v h → K v h) (k : RunL X d y args sh pt h K1) : RunL X d y args sh pt h K := Ev.mono (fun _ _ ⟨v, h, h1, h2, h3⟩ => ⟨v, h, h1, h2, hk v h h3⟩) k
theorem RunV.mono {X : qX} {d : Nat} {y : qMT} {args : List qV} {sh : qS} {pt h : qM} {K K1 : qM → Prop} (hk : ∀ h, K1 h → K h) (k : RunV X d y args sh pt h K1) : RunV X d y args sh pt h K := Ev.mono (fun _ _ ⟨h, h1, h2, h3⟩ => ⟨h, h1, h2, hk h h3⟩) k
theorem RunI.deep {X : qX} {d d1 : Nat} {y : qMT} {args : List qV} {sh : qS} {pt h : qM} {K : Int → qM → Prop} (hd : d1 ≤ d) (k : RunI X d1 y args sh pt h K) : RunI X d y args sh pt h K := Ev.deep hd k
theorem RunL.deep {X : qX} {d d1 : Nat} {y : qMT} {args : List qV} {sh : qS} {pt h : qM} {K : Int → qM → Prop} (hd : d1 ≤ d) (k : RunL X d1 y args sh pt h K) : RunL X d y args sh pt h K := Ev.deep hd k
theorem RunV.deep {X : qX} {d d1 : Nat} {y : qMT} {args : List qV} {sh : qS} {pt h : qM} {K : qM → Prop} (hd : d1 ≤ d) (k : RunV X d1 y args sh pt h K) : RunV X d y args sh pt h K := Ev.deep hd k
theorem q01 : (0 : Nat) ≠ 1 := by decide
theorem q21 : (2 : Nat) ≠ 1 := by decide
section
variable {X : qX} {d rc rs : Nat} {y : qMT} {pc : Nat} {L S : List qV} {sh : qS} {pt h : qM} {Q : Option qV → qG → Prop} {yc : qMT} {dc : Nat}
theorem ev_cVI {idx ci n : Nat} {b N : Int} {As rest : List qV} {K : Int → qM → Prop} (nx : Nat) (hnx : pc + 3 = nx) (hd : decode y.2.1 pc = .ok (.invokevirtual idx, 3)) (hk : Cond.methodLink y.1.cls idx yc.1 ∈ qw) (hM : qMV n ci yc) (hs : qsh sh b = some (ci + 5, N)) (hS : S = As.reverse ++ (2, b) :: rest) (hn : As.length = n) (hsl : (qsl ((2, b) :: As)).length ≤ yc.2.2.1) (hw : qwd rest ≤ 8) (hdp : dc + 1 ≤ d)
    (hrun : RunI X dc yc ((2, b) :: As) sh pt h K) (k : ∀ v h1, K v h1 → Ev X d rc rs y nx L ((0, v) :: rest) (sh, pt, h1) Q) : Ev X d rc rs y pc L S (sh, pt, h) Q := by
  subst hnx
  exact ev_callV (rc := rc) (rs := rs) (mc := 0) (ms := 0) _ rfl hd hk hM hs hS hn hsl hw hdp hrun (fun _ _ ⟨v, h1, e1, e2, e3⟩ => by subst e1; subst e2; exact k v h1 e3)
theorem ev_cVL {idx ci n : Nat} {b N : Int} {As rest : List qV} {K : Int → qM → Prop} (nx : Nat) (hnx : pc + 3 = nx) (hd : decode y.2.1 pc = .ok (.invokevirtual idx, 3)) (hk : Cond.methodLink y.1.cls idx yc.1 ∈ qw) (hM : qMV n ci yc) (hs : qsh sh b = some (ci + 5, N)) (hS : S = As.reverse ++ (2, b) :: rest) (hn : As.length = n) (hsl : (qsl ((2, b) :: As)).length ≤ yc.2.2.1) (hw : qwd rest ≤ 8) (hdp : dc + 1 ≤ d)
    (hrun : RunL X dc yc ((2, b) :: As) sh pt h K) (k : ∀ v h1, K v h1 → Ev X d rc rs y nx L ((1, v) :: rest) (sh, pt, h1) Q) : Ev X d rc rs y pc L S (sh, pt, h) Q := by
  subst hnx
  exact ev_callV (rc := rc) (rs := rs) (mc := 0) (ms := 0) _ rfl hd hk hM hs hS hn hsl hw hdp hrun (fun _ _ ⟨v, h1, e1, e2, e3⟩ => by subst e1; subst e2; exact k v h1 e3)
theorem ev_cVV {idx ci n : Nat} {b N : Int} {As rest : List qV} {K : qM → Prop} (nx : Nat) (hnx : pc + 3 = nx) (hd : decode y.2.1 pc = .ok (.invokevirtual idx, 3)) (hk : Cond.methodLink y.1.cls idx yc.1 ∈ qw) (hM : qMV n ci yc) (hs : qsh sh b = some (ci + 5, N)) (hS : S = As.reverse ++ (2, b) :: rest) (hn : As.length = n) (hsl : (qsl ((2, b) :: As)).length ≤ yc.2.2.1) (hw : qwd rest ≤ 8) (hdp : dc + 1 ≤ d)
    (hrun : RunV X dc yc ((2, b) :: As) sh pt h K) (k : ∀ h1, K h1 → Ev X d rc rs y nx L rest (sh, pt, h1) Q) : Ev X d rc rs y pc L S (sh, pt, h) Q := by
  subst hnx
  exact ev_callV (rc := rc) (rs := rs) (mc := 0) (ms := 0) _ rfl hd hk hM hs hS hn hsl hw hdp hrun (fun _ _ ⟨h1, e1, e2, e3⟩ => by subst e1; subst e2; exact k h1 e3)
theorem ev_cSI {idx n : Nat} {As rest : List qV} {K : Int → qM → Prop} (nx : Nat) (hnx : pc + 3 = nx) (hd : decode y.2.1 pc = .ok (.invokestatic idx, 3)) (hk : Cond.methodLink y.1.cls idx yc.1 ∈ qw) (hM : qMS n yc) (hS : S = As.reverse ++ rest) (hn : As.length = n) (hsl : (qsl As).length ≤ yc.2.2.1) (hw : qwd rest ≤ 8) (hdp : dc + 1 ≤ d)
    (hrun : RunI X dc yc As sh pt h K) (k : ∀ v h1, K v h1 → Ev X d rc rs y nx L ((0, v) :: rest) (sh, pt, h1) Q) : Ev X d rc rs y pc L S (sh, pt, h) Q := by
  subst hnx
  exact ev_callS (rc := rc) (rs := rs) (mc := 0) (ms := 0) _ rfl hd hk hM hS hn hsl hw hdp hrun (fun _ _ ⟨v, h1, e1, e2, e3⟩ => by subst e1; subst e2; exact k v h1 e3)
theorem ev_cSL {idx n : Nat} {As rest : List qV} {K : Int → qM → Prop} (nx : Nat) (hnx : pc + 3 = nx) (hd : decode y.2.1 pc = .ok (.invokestatic idx, 3)) (hk : Cond.methodLink y.1.cls idx yc.1 ∈ qw) (hM : qMS n yc) (hS : S = As.reverse ++ rest) (hn : As.length = n) (hsl : (qsl As).length ≤ yc.2.2.1) (hw : qwd rest ≤ 8) (hdp : dc + 1 ≤ d)
    (hrun : RunL X dc yc As sh pt h K) (k : ∀ v h1, K v h1 → Ev X d rc rs y nx L ((1, v) :: rest) (sh, pt, h1) Q) : Ev X d rc rs y pc L S (sh, pt, h) Q := by
  subst hnx
  exact ev_callS (rc := rc) (rs := rs) (mc := 0) (ms := 0) _ rfl hd hk hM hS hn hsl hw hdp hrun (fun _ _ ⟨v, h1, e1, e2, e3⟩ => by subst e1; subst e2; exact k v h1 e3)
theorem ev_cSV {idx n : Nat} {As rest : List qV} {K : qM → Prop} (nx : Nat) (hnx : pc + 3 = nx) (hd : decode y.2.1 pc = .ok (.invokestatic idx, 3)) (hk : Cond.methodLink y.1.cls idx yc.1 ∈ qw) (hM : qMS n yc) (hS : S = As.reverse ++ rest) (hn : As.length = n) (hsl : (qsl As).length ≤ yc.2.2.1) (hw : qwd rest ≤ 8) (hdp : dc + 1 ≤ d)
    (hrun : RunV X dc yc As sh pt h K) (k : ∀ h1, K h1 → Ev X d rc rs y nx L rest (sh, pt, h1) Q) : Ev X d rc rs y pc L S (sh, pt, h) Q := by
  subst hnx
  exact ev_callS (rc := rc) (rs := rs) (mc := 0) (ms := 0) _ rfl hd hk hM hS hn hsl hw hdp hrun (fun _ _ ⟨h1, e1, e2, e3⟩ => by subst e1; subst e2; exact k h1 e3)
theorem ev_retI {v : Int} {K : Int → qM → Prop} (hd : decode y.2.1 pc = .ok (.ireturn, 1)) (hr : y.2.2.2 = some .int) (hq : K v h) : Ev X d rc rs y pc L [(0, v)] (sh, pt, h) (qRI sh pt K) := ev_ireturn hd (Or.inl hr) ⟨v, h, rfl, rfl, hq⟩
theorem ev_retZ {v : Int} {K : Int → qM → Prop} (hd : decode y.2.1 pc = .ok (.ireturn, 1)) (hr : y.2.2.2 = some .boolean) (h0 : 0 ≤ v ∧ v ≤ 1) (hq : K v h) : Ev X d rc rs y pc L [(0, v)] (sh, pt, h) (qRI sh pt K) := ev_ireturn hd (Or.inr ⟨hr, h0⟩) ⟨v, h, rfl, rfl, hq⟩
theorem ev_retL {v : Int} {K : Int → qM → Prop} (hd : decode y.2.1 pc = .ok (.lreturn, 1)) (hr : y.2.2.2 = some .long) (hq : K v h) : Ev X d rc rs y pc L [(1, v)] (sh, pt, h) (qRL sh pt K) := ev_lreturn hd hr ⟨v, h, rfl, rfl, hq⟩
theorem ev_retV {K : qM → Prop} (hd : decode y.2.1 pc = .ok (.return_, 1)) (hr : y.2.2.2 = none) (hq : K h) : Ev X d rc rs y pc L [] (sh, pt, h) (qRV sh pt K) := ev_return hd hr ⟨h, rfl, rfl, hq⟩
theorem ev_idivP {a b : Int} {g : qG} (nx : Nat) (hnx : pc + 1 = nx) (hd : decode y.2.1 pc = .ok (.idiv, 1)) (h0 : 0 ≤ a ∧ 0 < b) (k : Ev X d rc rs y nx L ((0, a / b) :: S) g Q) : Ev X d rc rs y pc L ((0, b) :: (0, a) :: S) g Q := by
  subst hnx
  intro p e R s m args below meth c B0 D kA ρ H locs cells slots ls C F M Wd okL okS hl
  have o2 : qI a := okS (0, a) (List.mem_cons_of_mem _ List.mem_cons_self)
  have e1 : a.tdiv b = a / b := Int.tdiv_eq_ediv_of_nonneg h0.1
  have e2 : a / b ≤ a := Int.ediv_le_self b h0.1
  have e3 : 0 ≤ a / b := Int.ediv_nonneg h0.1 (by omega)
  refine ev_idiv _ rfl hd (by omega) ?_ ?_ p e R s m args below meth c B0 D kA ρ H locs cells slots ls C F M Wd okL okS hl
  · rw [e1]
    exact ⟨by omega, by omega⟩
  · rw [e1]
    exact k
theorem ev_iremP {a b : Int} {g : qG} (nx : Nat) (hnx : pc + 1 = nx) (hd : decode y.2.1 pc = .ok (.irem, 1)) (h0 : 0 ≤ a ∧ 0 < b) (k : Ev X d rc rs y nx L ((0, a % b) :: S) g Q) : Ev X d rc rs y pc L ((0, b) :: (0, a) :: S) g Q := by
  subst hnx
  have e1 : a.tmod b = a % b := Int.tmod_eq_emod_of_nonneg h0.1
  refine ev_irem _ rfl hd (by omega) ?_
  rw [e1]
  exact k
theorem ev_ldivP {a b : Int} {g : qG} (nx : Nat) (hnx : pc + 1 = nx) (hd : decode y.2.1 pc = .ok (.ldiv, 1)) (h0 : 0 ≤ a ∧ 0 < b) (k : Ev X d rc rs y nx L ((1, a / b) :: S) g Q) : Ev X d rc rs y pc L ((1, b) :: (1, a) :: S) g Q := by
  subst hnx
  intro p e R s m args below meth c B0 D kA ρ H locs cells slots ls C F M Wd okL okS hl
  have o2 : qL a := okS (1, a) (List.mem_cons_of_mem _ List.mem_cons_self)
  have e1 : a.tdiv b = a / b := Int.tdiv_eq_ediv_of_nonneg h0.1
  have e2 : a / b ≤ a := Int.ediv_le_self b h0.1
  have e3 : 0 ≤ a / b := Int.ediv_nonneg h0.1 (by omega)
  refine ev_ldiv _ rfl hd (by omega) ?_ ?_ p e R s m args below meth c B0 D kA ρ H locs cells slots ls C F M Wd okL okS hl
  · rw [e1]
    exact ⟨by omega, by omega⟩
  · rw [e1]
    exact k
theorem ev_lremP {a b : Int} {g : qG} (nx : Nat) (hnx : pc + 1 = nx) (hd : decode y.2.1 pc = .ok (.lrem, 1)) (h0 : 0 ≤ a ∧ 0 < b) (k : Ev X d rc rs y nx L ((1, a % b) :: S) g Q) : Ev X d rc rs y pc L ((1, b) :: (1, a) :: S) g Q := by
  subst hnx
  have e1 : a.tmod b = a % b := Int.tmod_eq_emod_of_nonneg h0.1
  refine ev_lrem _ rfl hd (by omega) ?_
  rw [e1]
  exact k
end
