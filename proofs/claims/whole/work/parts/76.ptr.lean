/-! the rows of PATH are made; path() of the class; what orders() and run() change of pointers -/
theorem qsh_app {sh l : qS} {a : Int} {c : Nat × Int} (h : qsh sh a = some c) : qsh (sh ++ l) a = some c := by
  unfold qsh at h ⊢
  split at h
  · rw [List.getElem?_append_left (List.getElem?_eq_some_iff.mp h).1]
    exact h
  · exact absurd h (by simp)
theorem qsh_end {sh : qS} {c : Nat × Int} : qsh (sh ++ [c]) sh.length = some c := by
  show (sh ++ [c])[sh.length]? = some c
  simp
def ShP (sh : qS) (pt : qM) : Prop := (sh.length = 136 ∧ pt 28 3 = -1 ∧ pt 28 4 = -1 ∧ pt 28 1 = -1) ∨ Sw sh pt
/-- pointers that may move -/
def mvb (a i : Int) : Prop := (a = 28 ∧ (i = 1 ∨ i = 3 ∨ i = 4)) ∨ (a = 0 ∧ (i = 8 ∨ i = 9 ∨ i = 10 ∨ i = 11))
theorem ptT_ok : ∀ q ∈ qptT, (q.1 < 136 ∧ ¬ ((q.1 = 28 ∧ (q.2.1 = 1 ∨ q.2.1 = 3 ∨ q.2.1 = 4)) ∨ (q.1 = 0 ∧ (q.2.1 = 8 ∨ q.2.1 = 9 ∨ q.2.1 = 10 ∨ q.2.1 = 11)))) := by decide +kernel
theorem St_to {sh sh' : qS} {pt pt' : qM} (h : St sh pt) (hs : ∀ (a : Int) (c : Nat × Int), qsh sh a = some c → qsh sh' a = some c) (hp : ∀ a i : Int, a < 136 → ¬ mvb a i → pt' a i = pt a i) : St sh' pt' := by
  refine ⟨fun q m => hs _ _ (h.1 q m), fun q m => ?_⟩
  have w := ptT_ok q m
  rw [hp _ _ w.1 w.2]
  exact h.2 q m
section
variable {X : qX} {d rc rs : Nat} {sh : qS} {pt h : qM} {Q : Option qV → qG → Prop}
theorem x_makeRows (hst : St sh pt) (sp : ShP sh pt) (k : ∀ sh' pt' h', St sh' pt' → Sw sh' pt' → (∀ a i : Int, a < 136 → h' a i = h a i) → (∀ a i : Int, a < 136 → ¬ (a = 28 ∧ (i = 1 ∨ i = 3 ∨ i = 4)) → pt' a i = pt a i) → (Sw sh pt → h' = h) → Q none (sh', pt', h')) : Run X (d + 1) (rc + 1 + 1 + 1) (rs + (19200 : Int).toNat + (19200 : Int).toNat + (19200 : Int).toNat) mX9_makeRows [(2, 28)] (sh, pt, h) Q := by
  show Ev X (d + 1) _ _ mX9_makeRows 0 [(2, 28)] [] (sh, pt, h) Q
  rcases sp with ⟨l, p3, p4, p1⟩ | sw
  · refine c_X9_makeRows hst ⟨fun _ => ?_, fun q => absurd p3 q⟩
    refine ev_aload_n 22 rfl dX9_makeRows_21 rfl rfl ?_
    refine ev_sipush 25 rfl dX9_makeRows_22 (by decide) (by decide) ?_
    refine ev_newarr (kd := 2) (by decide) 27 rfl dX9_makeRows_25 (by decide) (by decide) ?_
    have s1 : qsh (sh ++ [(2, 19200)]) 28 = some (14, 6) := qsh_app (s_28 hst)
    refine ev_putR (ki := 3) 30 rfl dX9_makeRows_27 lf_9_25 (Or.inl rfl) s1 (by decide) rfl ?_
    refine ev_aload_n 31 rfl dX9_makeRows_30 rfl rfl ?_
    refine ev_sipush 34 rfl dX9_makeRows_31 (by decide) (by decide) ?_
    refine ev_newarr (kd := 0) (by decide) 36 rfl dX9_makeRows_34 (by decide) (by decide) ?_
    refine ev_putR (ki := 4) 39 rfl dX9_makeRows_36 lf_9_28 (Or.inl rfl) (qsh_app s1) (by decide) rfl ?_
    refine ev_aload_n 40 rfl dX9_makeRows_39 rfl rfl ?_
    refine ev_sipush 43 rfl dX9_makeRows_40 (by decide) (by decide) ?_
    refine ev_newarr (kd := 2) (by decide) 45 rfl dX9_makeRows_43 (by decide) (by decide) ?_
    refine ev_putR (ki := 1) 48 rfl dX9_makeRows_45 lf_9_17 (Or.inl rfl) (qsh_app (qsh_app s1)) (by decide) rfl ?_
    refine ev_return dX9_makeRows_48 rfl ?_
    have e1 : ((sh.length : Nat) : Int) = 136 := by omega
    have e2 : (((sh ++ [(2, 19200)]).length : Nat) : Int) = 137 := by rw [List.length_append]; show ((sh.length + 1 : Nat) : Int) = 137; omega
    have e3 : (((sh ++ [(2, 19200)] ++ [(0, 19200)]).length : Nat) : Int) = 138 := by rw [List.length_append, List.length_append]; show ((sh.length + 1 + 1 : Nat) : Int) = 138; omega
    have q1 := qsh_end (sh := sh) (c := (2, 19200))
    have q2 := qsh_end (sh := sh ++ [(2, 19200)]) (c := (0, 19200))
    have q3 := qsh_end (sh := sh ++ [(2, 19200)] ++ [(0, 19200)]) (c := (2, 19200))
    rw [e1] at q1
    rw [e2] at q2
    rw [e3] at q3
    rw [e1, e2, e3]
    have pp : ∀ a i : Int, a < 136 → ¬ (a = 28 ∧ (i = 1 ∨ i = 3 ∨ i = 4)) → qup (qfl (qup (qfl (qup (qfl pt 136 (-1)) 28 3 136) 137 (-1)) 28 4 137) 138 (-1)) 28 1 138 a i = pt a i := fun a i x y => by
      dsimp only [qup, qfl]
      rw [if_neg (by omega), if_neg (by omega), if_neg (by omega), if_neg (by omega), if_neg (by omega), if_neg (by omega)]
    refine k _ _ _ (St_to hst (fun a c w => qsh_app (qsh_app (qsh_app w))) (fun a i x y => pp a i x (fun z => y (Or.inl z)))) ⟨?_, qsh_app (qsh_app q1), ?_, qsh_app q2, ?_, q3⟩ (fun a i x => ?_) pp (fun sw => ?_)
    · dsimp only [qup, qfl]
      rw [if_neg (by decide), if_neg (by decide), if_neg (by decide), if_neg (by decide), if_pos (by decide)]
    · dsimp only [qup, qfl]
      rw [if_neg (by decide), if_neg (by decide), if_pos (by decide)]
    · dsimp only [qup]
      rw [if_pos (by decide)]
    · dsimp only [qfl]
      rw [if_neg (by omega), if_neg (by omega), if_neg (by omega)]
    · have := sw.1
      rw [p3] at this
      exact absurd this (by decide)
  · obtain ⟨w1, w2, w3, w4, w5, w6⟩ := id sw
    refine c_X9_makeRows hst ⟨fun q => absurd q (by rw [w1]; decide), fun _ => ⟨fun q => absurd q (by rw [w3]; decide), fun _ => ⟨fun _ => k sh pt h hst sw (fun _ _ _ => rfl) (fun _ _ _ _ => rfl) (fun _ => rfl), fun q => absurd q (by rw [w5]; decide)⟩⟩⟩
end
