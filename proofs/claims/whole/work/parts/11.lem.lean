theorem qsh_spec {sh : qS} {a : Int} {c : Nat × Int} (h : qsh sh a = some c) : ∃ k : Nat, a = (k : Int) ∧ sh[k]? = some c := by
  cases a with
  | ofNat k => exact ⟨k, rfl, h⟩
  | negSucc k => cases h
theorem q_nat {i : Int} (h0 : 0 ≤ i) (h1 : i ≤ 2147483647) : (Int32.ofInt i).toNatClampNeg = i.toNat := Int32.toNatClampNeg_ofInt_of_le (by omega) (by omega)
theorem q_toI {i : Int} (h : qI i) : (Int32.ofInt i).toInt = i := Int32.toInt_ofInt_of_le (by have := h.1; omega) (by have := h.2; omega)
theorem q_toL {i : Int} (h : qL i) : (Int64.ofInt i).toInt = i := Int64.toInt_ofInt_of_le (by have := h.1; omega) (by have := h.2; omega)
theorem q_lt {a b : Int} (ha : qI a) (hb : qI b) : Int32.ofInt a < Int32.ofInt b ↔ a < b := by rw [Int32.lt_iff_toInt_lt, q_toI ha, q_toI hb]
theorem q_le {a b : Int} (ha : qI a) (hb : qI b) : Int32.ofInt a ≤ Int32.ofInt b ↔ a ≤ b := by rw [Int32.le_iff_toInt_le, q_toI ha, q_toI hb]
theorem q_eq {a b : Int} (ha : qI a) (hb : qI b) : Int32.ofInt a = Int32.ofInt b ↔ a = b := by rw [← Int32.toInt_inj, q_toI ha, q_toI hb]
theorem q_ltL {a b : Int} (ha : qL a) (hb : qL b) : Int64.ofInt a < Int64.ofInt b ↔ a < b := by rw [Int64.lt_iff_toInt_lt, q_toL ha, q_toL hb]
theorem q_eqL {a b : Int} (ha : qL a) (hb : qL b) : Int64.ofInt a = Int64.ofInt b ↔ a = b := by rw [← Int64.toInt_inj, q_toL ha, q_toL hb]
theorem q_I0 : qI 0 := by decide
theorem q_inI (x : Int32) : qI x.toInt := ⟨by have := x.le_toInt; omega, by have := x.toInt_lt; omega⟩
theorem q_inL (x : Int64) : qL x.toInt := ⟨by have := x.le_toInt; omega, by have := x.toInt_lt; omega⟩
theorem q_in {i n : Int} (h0 : 0 ≤ i) (h1 : i < n) (h2 : n ≤ 2147483647) : vp_in (Int32.ofInt i) n.toNat := by
  unfold vp_in
  rw [q_nat h0 (by omega)]
  rintro (h | h)
  · have h3 : Int32.ofInt i < Int32.ofInt 0 := h
    rw [q_lt ⟨by omega, by omega⟩ q_I0] at h3
    omega
  · omega
theorem qws_get {kA : Nat → ClassId} {ρ : Int → Nat} {g : qG} {k : Nat} {c : Nat × Int} (h : g.1[k]? = some c) : (qws kA ρ g)[k]? = some (ρ k, qen kA ρ (g.2.1 k) (g.2.2 k) c) := by
  unfold qws
  rw [List.getElem?_mapIdx, h]
  rfl
theorem qws_set {kA : Nat → ClassId} {ρ : Int → Nat} {sh : qS} {pt h pt' h' : qM} {k : Nat} {c : Nat × Int} {e : va_E} (hc : sh[k]? = some c) (he : qen kA ρ (pt' k) (h' k) c = e) (hp : ∀ j : Nat, j ≠ k → pt' j = pt j) (hh : ∀ j : Nat, j ≠ k → h' j = h j) : (qws kA ρ (sh, pt, h)).set k (ρ k, e) = qws kA ρ (sh, pt', h') := by
  apply List.ext_getElem?
  intro j
  rw [List.getElem?_set]
  unfold qws
  simp only [List.getElem?_mapIdx, List.length_mapIdx]
  by_cases hj : k = j
  · subst hj
    have hl : k < sh.length := (List.getElem?_eq_some_iff.mp hc).1
    rw [if_pos rfl, if_pos hl, hc, Option.map_some, he]
  · rw [if_neg hj, hp j (fun q => hj q.symm), hh j (fun q => hj q.symm)]
theorem qup_ne {h : qM} {a i v : Int} {b : Int} (hb : b ≠ a) : qup h a i v b = h b := by
  funext j
  simp [qup, hb]
theorem qup_row {h : qM} {a i v : Int} : qup h a i v a = fun j => if j = i then v else h a j := by
  funext j
  simp [qup]
theorem q_cast_ne {j k : Nat} (h : j ≠ k) : (j : Int) ≠ (k : Int) := fun q => h (Int.ofNat.inj q)
theorem q_upd {f : Int → Int} {i v : Int} (h0 : 0 ≤ i) (h1 : i ≤ 2147483647) : (fun j : Nat => Int32.ofInt ((fun j : Int => if j = i then v else f j) j)) = upd (fun j : Nat => Int32.ofInt (f j)) (Int32.ofInt i).toNatClampNeg (Int32.ofInt v) := by
  funext j
  rw [q_nat h0 h1]
  unfold upd
  by_cases h : j = i.toNat
  · rw [if_pos h]
    simp only
    rw [if_pos (by omega)]
  · rw [if_neg h]
    simp only
    rw [if_neg (by omega)]
theorem q_updL {f : Int → Int} {i v : Int} (h0 : 0 ≤ i) (h1 : i ≤ 2147483647) : (fun j : Nat => Int64.ofInt ((fun j : Int => if j = i then v else f j) j)) = vp_updL (fun j : Nat => Int64.ofInt (f j)) (Int32.ofInt i).toNatClampNeg (Int64.ofInt v) := by
  funext j
  rw [q_nat h0 h1]
  unfold vp_updL
  by_cases h : j = i.toNat
  · rw [if_pos h]
    simp only
    rw [if_pos (by omega)]
  · rw [if_neg h]
    simp only
    rw [if_neg (by omega)]
theorem qok_mono {n n' : Nat} {v : qV} (h : n ≤ n') (k : qok n v) : qok n' v := by
  obtain ⟨t, x⟩ := v
  match t, k with
  | 0, k => exact k
  | 1, k => exact k
  | t + 2, k =>
    have k1 : x < (n : Int) := k
    show x < (n' : Int)
    omega
theorem qcv_ext {n : Nat} {v : qV} {ρ ρ' : Int → Nat} (h : qok n v) (hρ : ∀ k : Int, k < n → ρ' k = ρ k) : qcv ρ' v = qcv ρ v := by
  obtain ⟨t, x⟩ := v
  match t, h with
  | 0, _ => rfl
  | 1, _ => rfl
  | t + 2, h =>
    have k1 : x < (n : Int) := h
    show va_rf (qrf ρ' x) = va_rf (qrf ρ x)
    unfold qrf
    rw [hρ x k1]
theorem qlc_mem {ρ : Int → Nat} {L : List qV} {n i : Nat} {x : Value} : (i, x) ∈ qlc ρ n L ↔ ∃ (j : Nat) (v : qV), L[j]? = some v ∧ v.1 ≠ 8 ∧ i = n + j ∧ x = qcv ρ v := by
  induction L generalizing n with
  | nil => simp [qlc]
  | cons a t ih =>
    unfold qlc
    by_cases ha : a.1 = 8
    · rw [if_pos ha, ih]
      constructor
      · rintro ⟨j, v, h1, h2, h3, h4⟩
        exact ⟨j + 1, v, by simpa using h1, h2, by omega, h4⟩
      · rintro ⟨j, v, h1, h2, h3, h4⟩
        cases j with
        | zero =>
          simp at h1
          subst h1
          exact absurd ha h2
        | succ j => exact ⟨j, v, by simpa using h1, h2, by omega, h4⟩
    · rw [if_neg ha, List.mem_cons, ih]
      constructor
      · rintro (h | ⟨j, v, h1, h2, h3, h4⟩)
        · cases h
          exact ⟨0, a, by simp, ha, rfl, rfl⟩
        · exact ⟨j + 1, v, by simpa using h1, h2, by omega, h4⟩
      · rintro ⟨j, v, h1, h2, h3, h4⟩
        cases j with
        | zero =>
          simp at h1
          subst h1
          exact Or.inl (by rw [h3, h4]; rfl)
        | succ j => exact Or.inr ⟨j, v, by simpa using h1, h2, by omega, h4⟩
theorem lv_less {ls : Array Slot} {n : Nat} {l l' : List (Nat × Value)} (h : lv_has ls n l) (hs : ∀ q ∈ l', q ∈ l) : lv_has ls n l' := ⟨h.1, h.2.1, fun q hq => h.2.2 q (hs q hq)⟩
theorem qlc_at {ρ : Int → Nat} {L : List qV} {ls : Array Slot} {n k : Nat} {v : qV} (h : lv_has ls n (qlc ρ 0 L)) (hk : L[k]? = some v) (hv : v.1 ≠ 8) : ls[k]? = some (.val (qcv ρ v)) :=
  h.2.2 (k, qcv ρ v) (qlc_mem.mpr ⟨k, v, hk, hv, by omega, rfl⟩)
theorem qlc_ext {n : Nat} {ρ ρ' : Int → Nat} {L : List qV} (h : ∀ v ∈ L, qok n v) (hρ : ∀ k : Int, k < n → ρ' k = ρ k) : ∀ i, qlc ρ' i L = qlc ρ i L := by
  induction L with
  | nil => intro i; rfl
  | cons a t ih =>
    intro i
    unfold qlc
    rw [ih (fun v hv => h v (List.mem_cons_of_mem _ hv)), qcv_ext (h a List.mem_cons_self) hρ]
theorem qmap_ext {n : Nat} {ρ ρ' : Int → Nat} {S : List qV} (h : ∀ v ∈ S, qok n v) (hρ : ∀ k : Int, k < n → ρ' k = ρ k) : S.map (qcv ρ') = S.map (qcv ρ) := List.map_congr_left fun v hv => qcv_ext (h v hv) hρ
theorem qcat {ρ : Int → Nat} {v : qV} : (qcv ρ v).category = 2 ↔ v.1 = 1 := by
  obtain ⟨t, x⟩ := v
  unfold qcv
  split
  · simp_all [Value.category]
  · simp_all [Value.category]
  · rename_i h0 h1
    constructor
    · intro h
      unfold va_rf at h
      split at h <;> simp [Value.category] at h
    · intro h
      exact absurd h h1
/-- storing into a place: of one word, of two -/
def qst1 (L : List qV) (k : Nat) (v : qV) : List qV := match k with
  | 0 => L.set 0 v
  | j + 1 => match L[j]? with
    | some (1, _) => (L.set j (8, -1)).set (j + 1) v
    | _ => L.set (j + 1) v
def qst2 (L : List qV) (k : Nat) (v : qV) : List qV := (qst1 L k v).set (k + 1) (8, -1)
theorem qst1_get {L : List qV} {k : Nat} {v w : qV} {j : Nat} (h : (qst1 L k v)[j]? = some w) (hw : w.1 ≠ 8) : (j = k ∧ w = v) ∨ (j ≠ k ∧ L[j]? = some w ∧ ¬ (j + 1 = k ∧ w.1 = 1)) := by
  unfold qst1 at h
  split at h
  · rw [List.getElem?_set] at h
    by_cases hj : j = 0
    · subst hj
      left
      split at h
      · split at h
        · exact ⟨rfl, (Option.some.inj h).symm⟩
        · cases h
      · rename_i hn; exact absurd rfl hn
    · right
      rw [if_neg (fun q => hj q.symm)] at h
      exact ⟨hj, h, by omega⟩
  · rename_i i
    by_cases hj : j = i + 1
    · left
      subst hj
      split at h
      · rw [List.getElem?_set] at h
        simp only [if_true] at h
        split at h
        · exact ⟨rfl, (Option.some.inj h).symm⟩
        · cases h
      · rw [List.getElem?_set] at h
        simp only [if_true] at h
        split at h
        · exact ⟨rfl, (Option.some.inj h).symm⟩
        · cases h
    · right
      split at h
      · rename_i x hx
        rw [List.getElem?_set, if_neg (fun q => hj q.symm), List.getElem?_set] at h
        by_cases hi : i = j
        · subst hi
          simp only [if_true] at h
          split at h
          · cases h
            exact absurd rfl hw
          · cases h
        · rw [if_neg hi] at h
          exact ⟨hj, h, by omega⟩
      · rename_i hx
        rw [List.getElem?_set, if_neg (fun q => hj q.symm)] at h
        refine ⟨hj, h, fun q => ?_⟩
        obtain ⟨q1, q2⟩ := q
        have e : j = i := by omega
        subst e
        obtain ⟨t, z⟩ := w
        simp only at q2
        subst q2
        exact hx z h
theorem qst1_lv {ρ : Int → Nat} {L : List qV} {ls : Array Slot} {n k : Nat} {v : qV} (h : lv_has ls n ((k, qcv ρ v) :: (qlc ρ 0 L).filter (fun q => !(q.1 == k) && !(q.1 + 1 == k && q.2.category == 2)))) : lv_has ls n (qlc ρ 0 (qst1 L k v)) := by
  refine lv_less h fun q hq => ?_
  obtain ⟨i, x⟩ := q
  obtain ⟨j, w, h1, h2, h3, h4⟩ := qlc_mem.mp hq
  rw [Nat.zero_add] at h3
  subst h3; subst h4
  rcases qst1_get h1 h2 with ⟨e1, e2⟩ | ⟨e1, e2, e3⟩
  · subst e1; subst e2
    exact List.mem_cons_self
  · refine List.mem_cons_of_mem _ (List.mem_filter.mpr ⟨qlc_mem.mpr ⟨i, w, e2, h2, by omega, rfl⟩, ?_⟩)
    have e4 : ¬ (i + 1 = k ∧ (qcv ρ w).category = 2) := fun q => e3 ⟨q.1, qcat.mp q.2⟩
    simp only [Bool.and_eq_true, Bool.not_eq_true', beq_eq_false_iff_ne, Bool.and_eq_false_imp, beq_iff_eq]
    exact ⟨e1, fun q => by simpa using fun z => e4 ⟨q, z⟩⟩
theorem qst2_lv {ρ : Int → Nat} {L : List qV} {ls : Array Slot} {n k : Nat} {v : qV} (h : lv_has ls n ((k, qcv ρ v) :: (qlc ρ 0 L).filter (fun q => !(q.1 == k) && (!(q.1 == k + 1) && !(q.1 + 1 == k && q.2.category == 2))))) : lv_has ls n (qlc ρ 0 (qst2 L k v)) := by
  refine lv_less h fun q hq => ?_
  obtain ⟨i, x⟩ := q
  obtain ⟨j, w, h1, h2, h3, h4⟩ := qlc_mem.mp hq
  rw [Nat.zero_add] at h3
  subst h3; subst h4
  unfold qst2 at h1
  rw [List.getElem?_set] at h1
  by_cases hk : k + 1 = i
  · rw [if_pos hk] at h1
    split at h1
    · cases h1
      exact absurd rfl h2
    · cases h1
  · rw [if_neg hk] at h1
    rcases qst1_get h1 h2 with ⟨e1, e2⟩ | ⟨e1, e2, e3⟩
    · subst e1; subst e2
      exact List.mem_cons_self
    · refine List.mem_cons_of_mem _ (List.mem_filter.mpr ⟨qlc_mem.mpr ⟨i, w, e2, h2, by omega, rfl⟩, ?_⟩)
      have e4 : ¬ (i + 1 = k ∧ (qcv ρ w).category = 2) := fun q => e3 ⟨q.1, qcat.mp q.2⟩
      simp only [Bool.and_eq_true, Bool.not_eq_true', beq_eq_false_iff_ne, Bool.and_eq_false_imp, beq_iff_eq]
      exact ⟨e1, fun q => hk q.symm, fun q => by simpa using fun z => e4 ⟨q, z⟩⟩
theorem qst1_ok {L : List qV} {k n : Nat} {v : qV} (h : ∀ w ∈ L, qok n w) (hv : qok n v) : ∀ w ∈ qst1 L k v, qok n w := by
  have h8 : qok n (8, -1) := by show (-1 : Int) < (n : Int); omega
  intro w hw
  unfold qst1 at hw
  split at hw
  · rcases List.mem_or_eq_of_mem_set hw with q | q
    · exact h w q
    · rw [q]; exact hv
  · split at hw
    · rcases List.mem_or_eq_of_mem_set hw with q | q
      · rcases List.mem_or_eq_of_mem_set q with q | q
        · exact h w q
        · rw [q]; exact h8
      · rw [q]; exact hv
    · rcases List.mem_or_eq_of_mem_set hw with q | q
      · exact h w q
      · rw [q]; exact hv
theorem qst2_ok {L : List qV} {k n : Nat} {v : qV} (h : ∀ w ∈ L, qok n w) (hv : qok n v) : ∀ w ∈ qst2 L k v, qok n w := by
  intro w hw
  unfold qst2 at hw
  rcases List.mem_or_eq_of_mem_set hw with q | q
  · exact qst1_ok h hv w q
  · rw [q]; show (-1 : Int) < (n : Int); omega
/-- fewer known locals -/
def qdrop (ks : List Nat) (L : List qV) : List qV := ks.foldl (fun L k => L.set k (8, -1)) L
theorem qdrop_get {ks : List Nat} : ∀ {L : List qV} {j : Nat} {w : qV}, (qdrop ks L)[j]? = some w → w.1 ≠ 8 → L[j]? = some w := by
  induction ks with
  | nil => intro L j w h _; exact h
  | cons k t ih =>
    intro L j w h hw
    have h1 := ih (L := L.set k (8, -1)) h hw
    rw [List.getElem?_set] at h1
    split at h1
    · split at h1
      · cases h1
        exact absurd rfl hw
      · cases h1
    · exact h1
theorem qdrop_ok {ks : List Nat} {n : Nat} : ∀ {L : List qV}, (∀ w ∈ L, qok n w) → ∀ w ∈ qdrop ks L, qok n w := by
  induction ks with
  | nil => intro L h; exact h
  | cons k t ih =>
    intro L h
    refine ih (L := L.set k (8, -1)) fun w hw => ?_
    rcases List.mem_or_eq_of_mem_set hw with q | q
    · exact h w q
    · rw [q]; show (-1 : Int) < (n : Int); omega
section
variable {p : Program} {l : Launch} {e : Env} {R : Room} {s : State} {m : MethodId} {args : Array Value} {below : List Frame} {meth : Method} {c : Code} {H : Heap} {locs : List Loc} {cells slots : Nat}
theorem W_mono {Z Z' : State → Prop} {g : JFrame} (h : ∀ t, Z t → Z' t) (w : W p l e R s m args below meth c H locs cells slots Z g) : W p l e R s m args below meth c H locs cells slots Z' g := fun T hT X => by
  obtain ⟨t, a, b⟩ := w T hT X
  exact ⟨t, a, h t b⟩
end
theorem MQ_mono {below : List Frame} {Qc Qc' : Array Value → State → Outcome → State → Prop} {a : Array Value} {s : State} {mc ms : Nat} {free : Addr → Prop} (h : ∀ o t, Qc a s o t → Qc' a s o t) : ∀ t, MQ below Qc a s mc ms free t → MQ below Qc' a s mc ms free t := fun t ⟨o, h1, h2, h3, h4⟩ => ⟨o, h1, h2, h _ _ h3, h4⟩
theorem qQ_mono {B0 : Nat} {D : va_G} {kA : Nat → ClassId} {ρ ρ1 : Int → Nat} {n n1 : Nat} {Q Q1 : Option qV → qG → Prop} (hn : n ≤ n1) (hρ : ∀ k : Int, k < n → ρ1 k = ρ k) (hQ : ∀ r g, Q1 r g → Q r g) {a : Array Value} {s : State} (o : Outcome) (t : State) (h : qQ B0 D kA ρ1 n1 Q1 a s o t) : qQ B0 D kA ρ n Q a s o t := by
  obtain ⟨r, g', ρ', h1, h2, h3, h4, h5⟩ := h
  exact ⟨r, g', ρ', hQ r g' h1, h2, fun k hk => (h3 k (by omega)).trans (hρ k hk), Nat.le_trans hn h4, h5⟩
theorem Ev.mono {X : qX} {d rc rs : Nat} {y : qMT} {pc : Nat} {L S : List qV} {g : qG} {Q Q1 : Option qV → qG → Prop} (hQ : ∀ r g, Q1 r g → Q r g) (k : Ev X d rc rs y pc L S g Q1) : Ev X d rc rs y pc L S g Q := by
  intro p e R s m args below meth c B0 D kA ρ H locs cells slots ls C F M Wd okL okS hl
  exact W_mono (MQ_mono fun o t => qQ_mono (Nat.le_refl _) (fun _ _ => rfl) hQ o t) (k p e R s m args below meth c B0 D kA ρ H locs cells slots ls C F M Wd okL okS hl)
theorem Ev.deep {X : qX} {d d1 rc rs : Nat} {y : qMT} {pc : Nat} {L S : List qV} {g : qG} {Q : Option qV → qG → Prop} (hd : d1 ≤ d) (k : Ev X d1 rc rs y pc L S g Q) : Ev X d rc rs y pc L S g Q := by
  intro p e R s m args below meth c B0 D kA ρ H locs cells slots ls C F M Wd okL okS hl
  exact k p e R s m args below meth c B0 D kA ρ H locs cells slots ls C ⟨by omega, by omega⟩ M Wd okL okS hl
theorem Ev.drop {X : qX} {d rc rs : Nat} {y : qMT} {pc : Nat} {L L' S : List qV} {g : qG} {Q : Option qV → qG → Prop} (ks : List Nat) (hL : qdrop ks L = L') (k : Ev X d rc rs y pc L' S g Q) : Ev X d rc rs y pc L S g Q := by
  intro p e R s m args below meth c B0 D kA ρ H locs cells slots ls C F M Wd okL okS hl
  subst hL
  refine k p e R s m args below meth c B0 D kA ρ H locs cells slots ls C F M Wd (qdrop_ok okL) okS (lv_less hl fun q hq => ?_)
  obtain ⟨i, x⟩ := q
  obtain ⟨j, w, h1, h2, h3, h4⟩ := qlc_mem.mp hq
  exact qlc_mem.mpr ⟨j, w, qdrop_get h1 h2, h2, h3, h4⟩
