/-! the reference goes an order: its loops -/
section
variable {S0 S : qM} {o i j n : Int}
theorem gOne_78 {x : Int} : gOne o i j n S 78 x = S 78 x := by
  unfold gOne pt3
  rw [qup_of (by omega), qup_of (by omega), qup_of (by omega)]
theorem gOne_112 {x : Int} : gOne o i j n S 112 x = S 112 x := by
  unfold gOne pt3
  rw [qup_of (by omega), qup_of (by omega), qup_of (by omega)]
theorem gOne_109 : gOne o i j n S 109 (20 * (S 78 63 + j) + S 112 i) = gE o i j n S := by
  unfold gOne pt3 cT
  rw [qup_of (by omega), qup_at]
theorem gOne_110 : gOne o i j n S 110 (20 * (S 78 63 + j) + S 112 i) = gN o i j n S := by
  unfold gOne pt3 cT
  rw [qup_at]
theorem pt3_of {x e m f a y : Int} (q : ¬ (109 ≤ a ∧ a ≤ 111 ∧ y = x)) : pt3 S x e m f a y = S a y := by
  unfold pt3
  rw [qup_of (by omega), qup_of (by omega), qup_of (by omega)]
theorem pt3_at {x e m f : Int} : pt3 S x e m f 109 x = e ∧ pt3 S x e m f 110 x = m ∧ pt3 S x e m f 111 x = f := by
  unfold pt3
  refine ⟨?_, qup_at, ?_⟩
  · rw [qup_of (by omega), qup_at]
  · rw [qup_of (by omega), qup_of (by omega), qup_at]
theorem fl_of {v a x : Int} (q : ¬ (a = 78 ∧ (x = 67 ∨ x = 68))) : fl v o S a x = S a x := by
  unfold fl
  split
  · rw [qup_of (by omega), qup_of (by omega)]
  · rfl
theorem fl_0 {v : Int} (q : S 78 67 = 0) : fl v o S 78 67 = v ∧ fl v o S 78 68 = S 98 o := by
  unfold fl
  rw [if_pos (by omega)]
  exact ⟨by rw [qup_of (by omega), qup_at], qup_at⟩
theorem fl_n {v : Int} (q : 0 < S 78 67) : fl v o S = S := by
  unfold fl
  rw [if_neg (by omega)]
theorem gI_err {m : Int} (q : 0 < S 78 67) : gI o j n m S 78 67 = S 78 67 ∧ gI o j n m S 78 68 = S 78 68 := by
  unfold gI
  split
  · exact ⟨gOne_78, gOne_78⟩
  · rw [fl_n (by rw [gOne_78]; exact q)]
    exact ⟨gOne_78, gOne_78⟩
theorem gI_of {m a x : Int} (q : ¬ (a = 78 ∧ (x = 67 ∨ x = 68))) (q2 : ¬ (109 ≤ a ∧ a ≤ 111 ∧ x = cT S m j)) : gI o j n m S a x = S a x := by
  unfold gI
  split
  · exact pt3_of q2
  · rw [fl_of q]; exact pt3_of q2
theorem gI_at {m : Int} : gI o j n m S 109 (cT S m j) = gE o m j n S ∧ gI o j n m S 110 (cT S m j) = gN o m j n S ∧ gI o j n m S 111 (cT S m j) = gF o m j S := by
  unfold gI
  split
  · exact pt3_at
  · rw [fl_of (by omega), fl_of (by omega), fl_of (by omega)]; exact pt3_at
theorem gI_0 {m : Int} (q : S 78 67 = 0) : (onG (gE o m j n S) (gN o m j n S) → gI o j n m S 78 67 = 0) ∧ (¬ onG (gE o m j n S) (gN o m j n S) → gI o j n m S 78 67 = 4 ∧ gI o j n m S 78 68 = S 98 o) := by
  unfold gI
  constructor
  · intro z
    rw [if_pos z, gOne_78]
    exact q
  · intro z
    rw [if_neg z]
    have := fl_0 (v := 4) (o := o) (S := gOne o m j n S) (by rw [gOne_78]; exact q)
    rw [this.1, this.2]
    exact ⟨rfl, pt3_of (by omega)⟩
theorem gI_keep (c : OC S0 o) (g : GIV S0 o j i S) (i0 : 0 ≤ i) (i1 : i < S0 78 62) (j0 : 1 ≤ j) (j1 : j ≤ S0 95 o) : GIV S0 o j (i + 1) (gI o j (S0 95 o) i S) := by
  obtain ⟨e1, e2, e3⟩ := GIV_at g
  have gb := gEN_bd c g i0 i1 j0 j1
  have e63 : S 78 63 = S0 78 63 := e1 63 (by decide) (by decide) (by decide)
  have mi := c.1.2 i i0 i1
  have cc := c.2.2.1
  have et : cT S i j = 20 * (S0 78 63 + j) + S0 112 i := by unfold cT; rw [e63, e2]
  have at3 := gI_at (S := S) (o := o) (j := j) (n := S0 95 o) (m := i)
  have of3 := fun a x (q2 : ¬ x = cT S i j) (q : ¬ a = 78) => gI_of (S := S) (o := o) (j := j) (n := S0 95 o) (m := i) (a := a) (x := x) (by omega) (by omega)
  have i0' := gI_0 (S := S) (o := o) (j := j) (n := S0 95 o) (m := i)
  have er := gI_err (S := S) (o := o) (j := j) (n := S0 95 o) (m := i)
  have fr0 := fun a x => gI_of (S := S) (o := o) (j := j) (n := S0 95 o) (m := i) (a := a) (x := x)
  generalize gI o j (S0 95 o) i S = U at *
  rw [et] at at3
  refine ⟨fun a x q => ?_, fun i' t' a0 a1 t0 tt => ?_, fun u0 i' t' a0 a1 t0 tt => ?_, ?_⟩
  · have n1 : ¬ (a = 78 ∧ (x = 67 ∨ x = 68)) := fun z => q (Or.inl ⟨z.1, Or.inr z.2⟩)
    have n2 : ¬ (109 ≤ a ∧ a ≤ 111 ∧ x = cT S i j) := fun z => q (Or.inr ⟨by omega, by omega, i, S0 78 63 + j, i0, i1, by omega⟩)
    rw [fr0 a x n1 n2]
    exact g.1 a x q
  · have mi' := c.1.2 i' a0 a1
    by_cases q : 20 * (S0 78 63 + t') + S0 112 i' = 20 * (S0 78 63 + j) + S0 112 i
    · have tj : t' = j := by omega
      unfold bnd
      rw [q, at3.1, at3.2.1, at3.2.2, tj]
      exact gb
    · have z := g.2.1 i' t' a0 a1 t0 (by
        rcases tt with x | ⟨x, y⟩
        · exact Or.inl x
        · by_cases w : i' = i
          · rw [x, w] at q; exact absurd rfl q
          · exact Or.inr ⟨x, by omega⟩)
      unfold bnd at z ⊢
      rw [of3 109 _ (by omega) (by decide), of3 110 _ (by omega) (by decide), of3 111 _ (by omega) (by decide)]
      exact z
  · have mi' := c.1.2 i' a0 a1
    have s0 : S 78 67 = 0 := by
      rcases g.2.2.2 with x | ⟨x, _⟩
      · exact x
      · have := (er (by omega)).1
        omega
    have og : onG (gE o i j (S0 95 o) S) (gN o i j (S0 95 o) S) := by
      by_cases z : onG (gE o i j (S0 95 o) S) (gN o i j (S0 95 o) S)
      · exact z
      · have := ((i0' s0).2 z).1
        omega
    by_cases q : 20 * (S0 78 63 + t') + S0 112 i' = 20 * (S0 78 63 + j) + S0 112 i
    · unfold gnd
      rw [q, at3.1, at3.2.1, at3.2.2]
      exact ⟨og.1, og.2, gb.2.2⟩
    · have z := g.2.2.1 s0 i' t' a0 a1 t0 (by
        rcases tt with x | ⟨x, y⟩
        · exact Or.inl x
        · by_cases w : i' = i
          · rw [x, w] at q; exact absurd rfl q
          · exact Or.inr ⟨x, by omega⟩)
      unfold gnd at z ⊢
      rw [of3 109 _ (by omega) (by decide), of3 110 _ (by omega) (by decide), of3 111 _ (by omega) (by decide)]
      exact z
  · rcases g.2.2.2 with x | ⟨x, y⟩
    · by_cases z : onG (gE o i j (S0 95 o) S) (gN o i j (S0 95 o) S)
      · exact Or.inl ((i0' x).1 z)
      · have w := (i0' x).2 z
        rw [e3 98 o (by decide) (by decide)] at w
        exact Or.inr w
    · have w := er (by omega)
      exact Or.inr ⟨by omega, by omega⟩
theorem ftS_keep (g : GIV S0 o j i S) : GIV S0 o j i (ftS o S) := by
  have f : ∀ a x, ¬ (a = 78 ∧ x = 65) → ftS o S a x = S a x := fun a x q => by unfold ftS; rw [qup_of q]
  refine ⟨fun a x q => ?_, fun i' t' a0 a1 t0 tt => ?_, fun u0 i' t' a0 a1 t0 tt => ?_, ?_⟩
  · rw [f a x (fun z => q (Or.inl ⟨z.1, Or.inl z.2⟩))]; exact g.1 a x q
  · have z := g.2.1 i' t' a0 a1 t0 tt
    unfold bnd at z ⊢
    rw [f 109 _ (by omega), f 110 _ (by omega), f 111 _ (by omega)]
    exact z
  · rw [f 78 67 (by decide)] at u0
    have z := g.2.2.1 u0 i' t' a0 a1 t0 tt
    unfold gnd at z ⊢
    rw [f 109 _ (by omega), f 110 _ (by omega), f 111 _ (by omega)]
    exact z
  · rw [f 78 67 (by decide), f 78 68 (by decide)]
    exact g.2.2.2
theorem GIV_next (g : GIV S0 o j (S0 78 62) S) : GIV S0 o (j + 1) 0 S := by
  refine ⟨g.1, fun i' t' a0 a1 t0 tt => g.2.1 i' t' a0 a1 t0 (by omega), fun u0 i' t' a0 a1 t0 tt => g.2.2.1 u0 i' t' a0 a1 t0 (by omega), g.2.2.2⟩
theorem gIs_keep (c : OC S0 o) (g : GIV S0 o j 0 S) (j0 : 1 ≤ j) (j1 : j ≤ S0 95 o) : GIV S0 o j (S0 78 62) (fo (gI o j (S0 95 o)) 0 (S0 78 62) S) :=
  fo_inv (fun i U => GIV S0 o j i U) (fun i U a b q => gI_keep c q a b j0 j1) c.1.1.1 g
theorem gJ_keep (c : OC S0 o) (g : GIV S0 o j 0 S) (j0 : 1 ≤ j) (j1 : j ≤ S0 95 o) : GIV S0 o (j + 1) 0 (gJ o (S0 95 o) j S) := by
  have e := (GIV_at g).1 62 (by decide) (by decide) (by decide)
  unfold gJ
  rw [e]
  exact GIV_next (ftS_keep (gIs_keep c g j0 j1))
theorem GIV_start (e : S0 78 67 = 0) : GIV S0 o 1 0 S0 := ⟨Fr.rf, fun i' t' _ _ _ _ => by omega, fun _ i' t' _ _ _ _ => by omega, Or.inl e⟩
theorem gJs_keep (c : OC S0 o) (e : S0 78 67 = 0) : GIV S0 o (S0 95 o + 1) 0 (fo (gJ o (S0 95 o)) 1 (S0 95 o + 1) S0) := by
  have nb := OC_n c
  exact fo_inv (fun j U => GIV S0 o j 0 U) (fun j U a b q => gJ_keep c q a (by omega)) (by omega) (GIV_start e)
/-- once wrong, it stays so -/
theorem gIs_err {w p : Int} {m u : Int} (q : 0 < w) (a : S 78 67 = w ∧ S 78 68 = p) (h : m ≤ u) : (fo (gI o j n) m u S) 78 67 = w ∧ (fo (gI o j n) m u S) 78 68 = p :=
  fo_inv (fun _ (U : qM) => U 78 67 = w ∧ U 78 68 = p) (fun i U _ _ z => by
    have := gI_err (S := U) (o := o) (j := j) (n := n) (m := i) (by omega)
    try dsimp only at z ⊢
    omega) h a
theorem gJs_err {w p : Int} {m u : Int} (q : 0 < w) (a : S 78 67 = w ∧ S 78 68 = p) (s0 : 0 ≤ S 78 62) (h : m ≤ u) : (fo (gJ o n) m u S) 78 67 = w ∧ (fo (gJ o n) m u S) 78 68 = p := by
  have z := fo_inv (f := gJ o n) (i := m) (n := u) (a := S) (fun _ U => (U 78 67 = w ∧ U 78 68 = p) ∧ 0 ≤ U 78 62) (fun i U _ _ z => by
    have y := gIs_err (S := U) (o := o) (j := i) (n := n) (m := 0) (u := U 78 62) q z.1 z.2
    have x : (fo (gI o i n) 0 (U 78 62) U) 78 62 = U 78 62 := fo_inv (fun _ (V : qM) => V 78 62 = U 78 62) (fun k V _ _ e => by
      try dsimp only at e ⊢
      rw [gI_of (by omega) (by omega)]; exact e) z.2 rfl
    try dsimp only
    unfold gJ ftS
    rw [qup_of (by decide), qup_of (by decide), qup_of (by decide), x]
    exact ⟨y, z.2⟩) h ⟨a, s0⟩
  exact z.1
end
section
variable {X : qX} {d : Nat} {sh : qS} {pt h b S S0 : qM} {o i j n : Int}
theorem m_fails {K : qM → Prop} {v : Int} (hst : St sh pt) (o0 : 0 ≤ o ∧ o < 60) (k : K (mrg b (fl v o S))) : RunV X d mX11_fails [(2, 78), (0, v), (0, o)] sh pt (mrg b S) K := by
  unfold fl at k
  refine b_X11_fails hst ?_
  try simp only [mrg_78, mrg_82, mrg_83, mrg_84, mrg_89, mrg_90, mrg_94, mrg_95, mrg_96, mrg_97, mrg_98, mrg_99, mrg_106, mrg_107, mrg_108, mrg_109, mrg_110, mrg_111, mrg_112, mrgu_78, mrgu_106, mrgu_107, mrgu_108, mrgu_109, mrgu_110, mrgu_111, mrgu_112]
  refine ⟨fun q h1 e1 => ⟨o0, fun h2 e2 => ?_⟩, fun q => ?_⟩
  · subst e2
    subst e1
    try simp only [mrg_78, mrg_82, mrg_83, mrg_84, mrg_89, mrg_90, mrg_94, mrg_95, mrg_96, mrg_97, mrg_98, mrg_99, mrg_106, mrg_107, mrg_108, mrg_109, mrg_110, mrg_111, mrg_112, mrgu_78, mrgu_106, mrgu_107, mrgu_108, mrgu_109, mrgu_110, mrgu_111, mrgu_112]
    rw [if_pos q] at k
    rw [qup_of (by omega)]
    exact k
  · rw [if_neg (by omega)] at k
    exact k
theorem m_ftS {K : qM → Prop} (hst : St sh pt) (k : ¬ S 94 o = 3 → K (mrg b (ftS o S))) (q : ¬ S 94 o = 3) : RunV X d mX11_steps_ [(2, 78)] sh pt (mrg b S) K := by
  have kk := k q
  unfold ftS ftv at kk
  rw [if_neg q] at kk
  refine b_X11_steps_ hst ?_
  try simp only [mrg_78, mrg_82, mrg_83, mrg_84, mrg_89, mrg_90, mrg_94, mrg_95, mrg_96, mrg_97, mrg_98, mrg_99, mrg_106, mrg_107, mrg_108, mrg_109, mrg_110, mrg_111, mrg_112, mrgu_78, mrgu_106, mrgu_107, mrgu_108, mrgu_109, mrgu_110, mrgu_111, mrgu_112]
  refine ⟨fun z h1 e1 => ?_, fun z h1 e1 => ?_⟩
  · subst e1
    try simp only [mrg_78, mrg_82, mrg_83, mrg_84, mrg_89, mrg_90, mrg_94, mrg_95, mrg_96, mrg_97, mrg_98, mrg_99, mrg_106, mrg_107, mrg_108, mrg_109, mrg_110, mrg_111, mrg_112, mrgu_78, mrgu_106, mrgu_107, mrgu_108, mrgu_109, mrgu_110, mrgu_111, mrgu_112]
    rw [if_neg z] at kk
    exact kk
  · subst e1
    try simp only [mrg_78, mrg_82, mrg_83, mrg_84, mrg_89, mrg_90, mrg_94, mrg_95, mrg_96, mrg_97, mrg_98, mrg_99, mrg_106, mrg_107, mrg_108, mrg_109, mrg_110, mrg_111, mrg_112, mrgu_78, mrgu_106, mrgu_107, mrgu_108, mrgu_109, mrgu_110, mrgu_111, mrgu_112]
    rw [if_pos z] at kk
    exact kk
theorem m_go73 {K : qM → Prop} {Sf : qM} (hst : St sh pt) (c : OC S0 o) (j0 : 1 ≤ j) (j1 : j ≤ S0 95 o) (kk : GIV S0 o j (S0 78 62) Sf → EvV X (d + 3) mX11_goes 65 [(2, 78), (0, o), (0, S0 95 o), (0, j + 1), (8, -1)] [] sh pt (mrg b (ftS o Sf)) K) (g : GIV S0 o j 0 S) (ef : fo (gI o j (S0 95 o)) 0 (S0 78 62) S = Sf) : EvV X (d + 3) mX11_goes 73 [(2, 78), (0, o), (0, S0 95 o), (0, j), (0, 0)] [] sh pt (mrg b S) K := by
  have nb := OC_n c
  have o0 := c.2.1.1
  have sz := c.1.1
  have cc := c.2.2.1
  refine lp (σ := qM) (J := fun i U => GIV S0 o j i U ∧ fo (gI o j (S0 95 o)) i (S0 78 62) U = Sf) (C := fun i U => EvV X (d + 3) mX11_goes 73 [(2, 78), (0, o), (0, S0 95 o), (0, j), (0, i)] [] sh pt (mrg b U) K) sz.1 ?_ ?_ S ⟨g, ef⟩
  · intro i U i0 i1 ⟨gU, eU⟩ ih
    obtain ⟨e1, e2, e3⟩ := GIV_at gU
    have e62 : U 78 62 = S0 78 62 := e1 62 (by decide) (by decide) (by decide)
    have e63 : U 78 63 = S0 78 63 := e1 63 (by decide) (by decide) (by decide)
    have mi := c.1.2 i i0 i1
    rw [← e2] at mi
    have kp := gI_keep c gU i0 i1 j0 j1
    have st : fo (gI o j (S0 95 o)) (i + 1) (S0 78 62) (gI o j (S0 95 o) i U) = Sf := by rw [← eU, fo_step (n := S0 78 62) i1]
    have nx := ih _ ⟨kp, st⟩
    unfold gI at nx
    refine b_X11_goes_73 hst ?_
    try simp only [mrg_78, mrg_82, mrg_83, mrg_84, mrg_89, mrg_90, mrg_94, mrg_95, mrg_96, mrg_97, mrg_98, mrg_99, mrg_106, mrg_107, mrg_108, mrg_109, mrg_110, mrg_111, mrg_112, mrgu_78, mrgu_106, mrgu_107, mrgu_108, mrgu_109, mrgu_110, mrgu_111, mrgu_112]
    refine ⟨fun q => absurd q (by omega), fun _ => m_goesOne hst c gU i0 i1 j0 j1 ?_⟩
    try simp only [mrg_78, mrg_82, mrg_83, mrg_84, mrg_89, mrg_90, mrg_94, mrg_95, mrg_96, mrg_97, mrg_98, mrg_99, mrg_106, mrg_107, mrg_108, mrg_109, mrg_110, mrg_111, mrg_112, mrgu_78, mrgu_106, mrgu_107, mrgu_108, mrgu_109, mrgu_110, mrgu_111, mrgu_112, gOne_78, gOne_112]
    refine ⟨⟨by omega, by omega⟩, ⟨by omega, by omega⟩, b_X11_cell hst ⟨⟨by omega, by omega⟩, ⟨by omega, by omega⟩, ?_⟩⟩
    try simp only [mrg_78, mrg_82, mrg_83, mrg_84, mrg_89, mrg_90, mrg_94, mrg_95, mrg_96, mrg_97, mrg_98, mrg_99, mrg_106, mrg_107, mrg_108, mrg_109, mrg_110, mrg_111, mrg_112, mrgu_78, mrgu_106, mrgu_107, mrgu_108, mrgu_109, mrgu_110, mrgu_111, mrgu_112, gOne_78, gOne_112]
    refine ⟨⟨by omega, by omega⟩, ⟨by omega, by omega⟩, ⟨by omega, by omega⟩, b_X11_cell hst ⟨⟨by omega, by omega⟩, ⟨by omega, by omega⟩, ?_⟩⟩
    try simp only [mrg_78, mrg_82, mrg_83, mrg_84, mrg_89, mrg_90, mrg_94, mrg_95, mrg_96, mrg_97, mrg_98, mrg_99, mrg_106, mrg_107, mrg_108, mrg_109, mrg_110, mrg_111, mrg_112, mrgu_78, mrgu_106, mrgu_107, mrgu_108, mrgu_109, mrgu_110, mrgu_111, mrgu_112, gOne_109, gOne_110]
    refine ⟨⟨by omega, by omega⟩, m_isSp hst (fun q => ⟨fun _ => ⟨⟨by omega, by omega⟩, ?_⟩, fun z => absurd z (by decide)⟩) (fun q => ⟨fun z => absurd rfl z, fun _ => m_fails hst o0 ⟨⟨by omega, by omega⟩, ?_⟩⟩)⟩
    · rw [if_pos q] at nx
      exact nx
    · rw [if_neg q] at nx
      exact nx
  · intro U ⟨gU, eU⟩
    rw [fo_end (by omega)] at eU
    subst eU
    have e62 : U 78 62 = S0 78 62 := (GIV_at gU).1 62 (by decide) (by decide) (by decide)
    have kf := kk gU
    refine b_X11_goes_73 hst ?_
    try simp only [mrg_78, mrg_82, mrg_83, mrg_84, mrg_89, mrg_90, mrg_94, mrg_95, mrg_96, mrg_97, mrg_98, mrg_99, mrg_106, mrg_107, mrg_108, mrg_109, mrg_110, mrg_111, mrg_112, mrgu_78, mrgu_106, mrgu_107, mrgu_108, mrgu_109, mrgu_110, mrgu_111, mrgu_112]
    refine ⟨fun _ => ⟨o0, fun q => m_ftS hst (fun _ => ⟨⟨by omega, by omega⟩, kf⟩) q, fun q h3 e3 => ⟨⟨by omega, by omega⟩, ?_⟩⟩, fun q => absurd q (by omega)⟩
    unfold ftS at kf
    rw [if_pos q] at kf
    subst e3
    try simp only [mrg_78, mrg_82, mrg_83, mrg_84, mrg_89, mrg_90, mrg_94, mrg_95, mrg_96, mrg_97, mrg_98, mrg_99, mrg_106, mrg_107, mrg_108, mrg_109, mrg_110, mrg_111, mrg_112, mrgu_78, mrgu_106, mrgu_107, mrgu_108, mrgu_109, mrgu_110, mrgu_111, mrgu_112]
    exact kf
theorem m_go65 {K : qM → Prop} {Sf : qM} (hst : St sh pt) (c : OC S0 o) (e0 : S0 78 67 = 0) (ef : fo (gJ o (S0 95 o)) 1 (S0 95 o + 1) S0 = Sf) (kk : GIV S0 o (S0 95 o + 1) 0 Sf → EvV X (d + 3) mX11_goes 65 [(2, 78), (0, o), (0, S0 95 o), (0, S0 95 o + 1), (8, -1)] [] sh pt (mrg b Sf) K) : EvV X (d + 3) mX11_goes 65 [(2, 78), (0, o), (0, S0 95 o), (0, 1), (8, -1)] [] sh pt (mrg b S0) K := by
  have nb := OC_n c
  refine lp (σ := qM) (i := 1) (n := S0 95 o + 1) (J := fun j U => GIV S0 o j 0 U ∧ fo (gJ o (S0 95 o)) j (S0 95 o + 1) U = Sf) (C := fun j U => EvV X (d + 3) mX11_goes 65 [(2, 78), (0, o), (0, S0 95 o), (0, j), (8, -1)] [] sh pt (mrg b U) K) (by omega) ?_ ?_ S0 ⟨GIV_start e0, ef⟩
  · intro j U j0 j1 ⟨gU, eU⟩ ih
    have e62 : U 78 62 = S0 78 62 := (GIV_at gU).1 62 (by decide) (by decide) (by decide)
    refine b_X11_goes_65 hst ⟨fun q => absurd q (by omega), fun _ => m_go73 (Sf := fo (gI o j (S0 95 o)) 0 (S0 78 62) U) hst c j0 (by omega) (fun g1 => ?_) gU rfl⟩
    refine ih _ ⟨GIV_next (ftS_keep g1), ?_⟩
    rw [← eU, fo_step (n := S0 95 o + 1) j1]
    unfold gJ
    rw [e62]
  · intro U ⟨gU, eU⟩
    rw [fo_end (by omega)] at eU
    subst eU
    exact kk gU
end
