/-! the reference: an order whole; the orders of a line -/
section
variable {X : qX} {d : Nat} {sh : qS} {pt h b S S0 S1 : qM} {W o i j n : Int}
theorem m_go192 {K : qM → Prop} {Sf : qM} (hst : St sh pt) (bb : bdB S1) (c0 : 0 ≤ S1 78 63 ∧ 0 ≤ n ∧ S1 78 63 + n ≤ 150) (o0 : 0 ≤ o ∧ o < 60) (b6 : S1 96 o = -1 ∨ S1 96 o = 1) (t0 : TIV S1 (S1 78 63 + n) S1) (ef : fo (tnI (8 + 2 * S1 96 o) (S1 78 63 + n)) 0 (S1 78 62) S1 = Sf) (k : K (mrg b (qup Sf 78 63 (S1 78 63 + n)))) : EvV X (d + 3) mX11_goes 192 [(2, 78), (0, o), (0, n), (0, 0), (8, -1)] [] sh pt (mrg b S1) K := by
  have sz := bb.1
  refine lp (σ := qM) (J := fun i U => TIV S1 (S1 78 63 + n) U ∧ fo (tnI (8 + 2 * S1 96 o) (S1 78 63 + n)) i (S1 78 62) U = Sf) (C := fun i U => EvV X (d + 3) mX11_goes 192 [(2, 78), (0, o), (0, n), (0, i), (8, -1)] [] sh pt (mrg b U) K) sz.1 ?_ ?_ S1 ⟨t0, ef⟩
  · intro i U i0 i1 ⟨gU, eU⟩ ih
    have mi := bb.2 i i0 i1
    have e62 : U 78 62 = S1 78 62 := gU.1 _ _ (by omega)
    have e63 : U 78 63 = S1 78 63 := gU.1 _ _ (by omega)
    have e112 : U 112 i = S1 112 i := gU.1 _ _ (by omega)
    have e96 : U 96 o = S1 96 o := gU.1 _ _ (by omega)
    have fr := gU.2 i i0 i1
    have nx := ih _ ⟨tnI_keep gU i0 i1, by rw [← eU, fo_step (n := S1 78 62) i1]⟩
    unfold tnI at nx
    rw [e112] at nx
    refine b_X11_goes_192 hst ?_
    try simp only [mrg_78, mrg_82, mrg_83, mrg_84, mrg_89, mrg_90, mrg_94, mrg_95, mrg_96, mrg_97, mrg_98, mrg_99, mrg_106, mrg_107, mrg_108, mrg_109, mrg_110, mrg_111, mrg_112, mrgu_78, mrgu_106, mrgu_107, mrgu_108, mrgu_109, mrgu_110, mrgu_111, mrgu_112]
    refine ⟨fun q => absurd q (by omega), fun _ => ⟨⟨by omega, by omega⟩, ⟨by omega, by omega⟩, b_X11_cell hst ⟨⟨by omega, by omega⟩, ⟨by omega, by omega⟩, ?_⟩⟩⟩
    try simp only [mrg_78, mrg_82, mrg_83, mrg_84, mrg_89, mrg_90, mrg_94, mrg_95, mrg_96, mrg_97, mrg_98, mrg_99, mrg_106, mrg_107, mrg_108, mrg_109, mrg_110, mrg_111, mrg_112, mrgu_78, mrgu_106, mrgu_107, mrgu_108, mrgu_109, mrgu_110, mrgu_111, mrgu_112]
    rw [e63, e112, e96]
    refine ⟨⟨by omega, by omega⟩, ⟨by omega, by omega⟩, o0, ⟨by omega, by omega⟩, ⟨by omega, by omega⟩, by omega, ⟨by omega, by omega⟩, fun h8 e8 => ⟨⟨by omega, by omega⟩, ?_⟩⟩
    subst e8
    try simp only [mrg_78, mrg_82, mrg_83, mrg_84, mrg_89, mrg_90, mrg_94, mrg_95, mrg_96, mrg_97, mrg_98, mrg_99, mrg_106, mrg_107, mrg_108, mrg_109, mrg_110, mrg_111, mrg_112, mrgu_78, mrgu_106, mrgu_107, mrgu_108, mrgu_109, mrgu_110, mrgu_111, mrgu_112]
    rw [Int.add_assoc]
    exact nx
  · intro U ⟨gU, eU⟩
    rw [fo_end (by omega)] at eU
    subst eU
    have e62 : U 78 62 = S1 78 62 := gU.1 _ _ (by omega)
    have e63 : U 78 63 = S1 78 63 := gU.1 _ _ (by omega)
    refine b_X11_goes_192 hst ?_
    try simp only [mrg_78, mrg_82, mrg_83, mrg_84, mrg_89, mrg_90, mrg_94, mrg_95, mrg_96, mrg_97, mrg_98, mrg_99, mrg_106, mrg_107, mrg_108, mrg_109, mrg_110, mrg_111, mrg_112, mrgu_78, mrgu_106, mrgu_107, mrgu_108, mrgu_109, mrgu_110, mrgu_111, mrgu_112]
    refine ⟨fun _ => ⟨⟨by omega, by omega⟩, fun h1 e1 => ?_⟩, fun q => absurd q (by omega)⟩
    rw [e63] at e1
    subst e1
    exact k
theorem m_isWhole {K : Int → qM → Prop} {v : Int} (hst : St sh pt) (bb : bdB S) (c0 : 0 ≤ S 78 63 ∧ S 78 63 ≤ 150) (gn : ∀ i, 0 ≤ i → i < S 78 62 → gnd S (cB S i)) (v0 : 2 ≤ v ∧ v ≤ 5) (k1 : whl S v → K 1 (mrg b S)) (k0 : ¬ whl S v → K 0 (mrg b S)) : RunI X (d + 1) mX11_isWhole [(2, 78), (0, v)] sh pt (mrg b S) K := by
  have sz := bb.1
  have l : ∀ (k : Nat) (i : Int), i + k = S 78 62 → 0 ≤ i → (∀ i', 0 ≤ i' → i' < i → (xB S i').tmod v = 0 ∧ (yB S i').tmod v = 0) → EvI X (d + 1) mX11_isWhole 2 [(2, 78), (0, v), (0, i)] [] sh pt (mrg b S) K := by
    intro k
    induction k with
    | zero =>
      intro i e i0 q
      refine b_X11_isWhole_2 hst ?_
      try simp only [mrg_78, mrg_82, mrg_83, mrg_84, mrg_89, mrg_90, mrg_94, mrg_95, mrg_96, mrg_97, mrg_98, mrg_99, mrg_106, mrg_107, mrg_108, mrg_109, mrg_110, mrg_111, mrg_112, mrgu_78, mrgu_106, mrgu_107, mrgu_108, mrgu_109, mrgu_110, mrgu_111, mrgu_112]
      exact ⟨fun _ => k1 (fun i' a c => q i' a (by omega)), fun z => absurd z (by omega)⟩
    | succ k ih =>
      intro i e i0 q
      have mi := bb.2 i i0 (by omega)
      have m0 := bb.2 0 (by decide) (by omega)
      have zi : (0 ≤ S 109 (20 * S 78 63 + S 112 i) ∧ S 109 (20 * S 78 63 + S 112 i) < 60) ∧ (0 ≤ S 110 (20 * S 78 63 + S 112 i) ∧ S 110 (20 * S 78 63 + S 112 i) < 40) ∧ (0 ≤ S 111 (20 * S 78 63 + S 112 i) ∧ S 111 (20 * S 78 63 + S 112 i) < 8) := gn i i0 (by omega)
      have z0 : (0 ≤ S 109 (20 * S 78 63 + S 112 0) ∧ S 109 (20 * S 78 63 + S 112 0) < 60) ∧ (0 ≤ S 110 (20 * S 78 63 + S 112 0) ∧ S 110 (20 * S 78 63 + S 112 0) < 40) ∧ (0 ≤ S 111 (20 * S 78 63 + S 112 0) ∧ S 111 (20 * S 78 63 + S 112 0) < 8) := gn 0 (by decide) (by omega)
      have no : ¬ ((xB S i).tmod v = 0 ∧ (yB S i).tmod v = 0) → K 0 (mrg b S) := fun z => k0 (fun y => z (y i i0 (by omega)))
      refine b_X11_isWhole_2 hst ?_
      try simp only [mrg_78, mrg_82, mrg_83, mrg_84, mrg_89, mrg_90, mrg_94, mrg_95, mrg_96, mrg_97, mrg_98, mrg_99, mrg_106, mrg_107, mrg_108, mrg_109, mrg_110, mrg_111, mrg_112, mrgu_78, mrgu_106, mrgu_107, mrgu_108, mrgu_109, mrgu_110, mrgu_111, mrgu_112]
      refine ⟨fun z => absurd z (by omega), fun _ => ⟨⟨by omega, by omega⟩, b_X11_cell hst ⟨⟨by omega, by omega⟩, ⟨by omega, by omega⟩, ?_⟩⟩⟩
      try simp only [mrg_78, mrg_82, mrg_83, mrg_84, mrg_89, mrg_90, mrg_94, mrg_95, mrg_96, mrg_97, mrg_98, mrg_99, mrg_106, mrg_107, mrg_108, mrg_109, mrg_110, mrg_111, mrg_112, mrgu_78, mrgu_106, mrgu_107, mrgu_108, mrgu_109, mrgu_110, mrgu_111, mrgu_112]
      refine ⟨⟨by omega, by omega⟩, b_X11_cell hst ⟨⟨by omega, by omega⟩, ⟨by omega, by omega⟩, ?_⟩⟩
      try simp only [mrg_78, mrg_82, mrg_83, mrg_84, mrg_89, mrg_90, mrg_94, mrg_95, mrg_96, mrg_97, mrg_98, mrg_99, mrg_106, mrg_107, mrg_108, mrg_109, mrg_110, mrg_111, mrg_112, mrgu_78, mrgu_106, mrgu_107, mrgu_108, mrgu_109, mrgu_110, mrgu_111, mrgu_112]
      refine ⟨⟨by omega, by omega⟩, ⟨by omega, by omega⟩, by omega, fun y => ⟨⟨by omega, by omega⟩, b_X11_cell hst ⟨⟨by omega, by omega⟩, ⟨by omega, by omega⟩, ?_⟩⟩, fun y => no (fun z => y z.1)⟩
      try simp only [mrg_78, mrg_82, mrg_83, mrg_84, mrg_89, mrg_90, mrg_94, mrg_95, mrg_96, mrg_97, mrg_98, mrg_99, mrg_106, mrg_107, mrg_108, mrg_109, mrg_110, mrg_111, mrg_112, mrgu_78, mrgu_106, mrgu_107, mrgu_108, mrgu_109, mrgu_110, mrgu_111, mrgu_112]
      refine ⟨⟨by omega, by omega⟩, b_X11_cell hst ⟨⟨by omega, by omega⟩, ⟨by omega, by omega⟩, ?_⟩⟩
      try simp only [mrg_78, mrg_82, mrg_83, mrg_84, mrg_89, mrg_90, mrg_94, mrg_95, mrg_96, mrg_97, mrg_98, mrg_99, mrg_106, mrg_107, mrg_108, mrg_109, mrg_110, mrg_111, mrg_112, mrgu_78, mrgu_106, mrgu_107, mrgu_108, mrgu_109, mrgu_110, mrgu_111, mrgu_112]
      refine ⟨⟨by omega, by omega⟩, ⟨by omega, by omega⟩, by omega, fun y2 => ⟨⟨by omega, by omega⟩, ih (i + 1) (by omega) (by omega) (fun i' a c => ?_)⟩, fun y2 => no (fun z => y2 z.2)⟩
      by_cases w : i' = i
      · rw [w]; exact ⟨y, y2⟩
      · exact q i' a (by omega)
  exact b_X11_isWhole hst (l (S 78 62).toNat 0 (by omega) (by decide) (fun i' a c => by omega))
theorem m_goF {K : qM → Prop} (hst : St sh pt) (k : SK W S0 S) (q : oK S0 o) (e0 : S 78 67 = 0) (k5 : ¬ S 94 o = 5) (k10 : ¬ S 94 o = 10) (kk : K (mrg b (goF o S))) : RunV X (d + 3) mX11_goes [(2, 78), (0, o)] sh pt (mrg b S) K := by
  have ok := SK_ok k q
  have o0 := ok.1
  have bb := k.1.1
  have c0 := k.1.2.1
  have gn : ∀ i, 0 ≤ i → i < S 78 62 → gnd S (cB S i) := fun i a b => k.1.2.2.2.2.2 e0 i (S 78 63) a b (by omega) (by omega)
  have okk := ok.2
  unfold oKs at okk
  have nb : 1 ≤ S 95 o ∧ S 95 o ≤ 99 := by omega
  unfold goF at kk
  refine b_X11_goes hst ?_
  try simp only [mrg_78, mrg_82, mrg_83, mrg_84, mrg_89, mrg_90, mrg_94, mrg_95, mrg_96, mrg_97, mrg_98, mrg_99, mrg_106, mrg_107, mrg_108, mrg_109, mrg_110, mrg_111, mrg_112, mrgu_78, mrgu_106, mrgu_107, mrgu_108, mrgu_109, mrgu_110, mrgu_111, mrgu_112]
  refine ⟨o0, ⟨by omega, by omega⟩, fun c => ?_, fun c => m_fails hst o0 ?_⟩
  · have oc := OC_of k q e0 c k5 k10
    rw [cif_f (by omega)] at kk
    have go : ¬ (S 94 o = 8 ∧ ¬ whl S (S 96 o)) → EvV X (d + 3) mX11_goes 65 [(2, 78), (0, o), (0, S 95 o), (0, 1), (8, -1)] [] sh pt (mrg b S) K := by
      intro n8
      rw [cif_f n8] at kk
      unfold gGo at kk
      refine m_go65 hst oc e0 rfl (fun g => ?_)
      generalize fo (gJ o (S 95 o)) 1 (S 95 o + 1) S = V at *
      obtain ⟨v78, v112, vr⟩ := GIV_at g
      have v62 := v78 62 (by decide) (by decide) (by decide)
      have v63 := v78 63 (by decide) (by decide) (by decide)
      have v94 := vr 94 o (by decide) (by decide)
      have v96 := vr 96 o (by decide) (by decide)
      refine b_X11_goes_65 hst ?_
      try simp only [mrg_78, mrg_82, mrg_83, mrg_84, mrg_89, mrg_90, mrg_94, mrg_95, mrg_96, mrg_97, mrg_98, mrg_99, mrg_106, mrg_107, mrg_108, mrg_109, mrg_110, mrg_111, mrg_112, mrgu_78, mrgu_106, mrgu_107, mrgu_108, mrgu_109, mrgu_110, mrgu_111, mrgu_112]
      refine ⟨fun _ => ⟨o0, fun y => ⟨⟨by omega, by omega⟩, fun h2 e2 => ?_⟩, fun y => ?_⟩, fun z => absurd z (by omega)⟩
      · rw [cif_f (by omega)] at kk
        rw [v63] at e2
        subst e2
        exact kk
      · rw [cif_t (by omega)] at kk
        refine m_go192 (Sf := fo (tnI (8 + 2 * S 96 o) (S 78 63 + S 95 o)) 0 (S 78 62) V) hst ⟨by rw [v62]; exact bb.1, fun i a c => by rw [v112]; exact bb.2 i a (by omega)⟩ ⟨by omega, by omega, by omega⟩ o0 (by rw [v96]; exact (okk.2.2.2.1 (by omega)).1) ⟨Fr.rf, fun i a c => ?_⟩ (by rw [v96, v63, v62]) (by rw [v63]; exact kk)
        have y := g.2.1 i (S 95 o) a (by omega) (by omega) (Or.inl (by omega))
        rw [v63, v112]
        exact y.2.2
    refine b_X11_goes_25 hst ?_
    try simp only [mrg_78, mrg_82, mrg_83, mrg_84, mrg_89, mrg_90, mrg_94, mrg_95, mrg_96, mrg_97, mrg_98, mrg_99, mrg_106, mrg_107, mrg_108, mrg_109, mrg_110, mrg_111, mrg_112, mrgu_78, mrgu_106, mrgu_107, mrgu_108, mrgu_109, mrgu_110, mrgu_111, mrgu_112]
    refine ⟨o0, fun y => ⟨fun _ => go (fun z => y z.1), fun z => absurd z (by omega)⟩, fun y => ⟨o0, m_isWhole hst bb c0 gn (by omega) (fun w => ⟨fun _ => ?_, fun z => absurd z (by decide)⟩) (fun w => ⟨fun z => absurd rfl z, fun _ => m_fails hst o0 ?_⟩)⟩⟩
    · try simp only [mrg_78, mrg_82, mrg_83, mrg_84, mrg_89, mrg_90, mrg_94, mrg_95, mrg_96, mrg_97, mrg_98, mrg_99, mrg_106, mrg_107, mrg_108, mrg_109, mrg_110, mrg_111, mrg_112, mrgu_78, mrgu_106, mrgu_107, mrgu_108, mrgu_109, mrgu_110, mrgu_111, mrgu_112]
      exact ⟨fun _ => go (fun z => z.2 w), fun z => absurd z (by omega)⟩
    · rw [cif_t ⟨y, w⟩] at kk
      have f3 := (fl_0 (v := 3) (o := o) e0).1
      try simp only [mrg_78, mrg_82, mrg_83, mrg_84, mrg_89, mrg_90, mrg_94, mrg_95, mrg_96, mrg_97, mrg_98, mrg_99, mrg_106, mrg_107, mrg_108, mrg_109, mrg_110, mrg_111, mrg_112, mrgu_78, mrgu_106, mrgu_107, mrgu_108, mrgu_109, mrgu_110, mrgu_111, mrgu_112]
      exact ⟨fun z => absurd z (by omega), fun _ => kk⟩
  · rw [cif_t (by omega)] at kk
    have f2 := (fl_0 (v := 2) (o := o) e0).1
    have fe : ∀ a x, ¬ (a = 78 ∧ (x = 67 ∨ x = 68)) → fl 2 o S a x = S a x := fun a x q => fl_of q
    have fn : fl 3 o (fl 2 o S) = fl 2 o S := fl_n (by omega)
    generalize fl 2 o S = U at *
    have e94 : U 94 o = S 94 o := fe 94 o (by omega)
    have e96 : U 96 o = S 96 o := fe 96 o (by omega)
    have e62 : U 78 62 = S 78 62 := fe 78 62 (by decide)
    have e63 : U 78 63 = S 78 63 := fe 78 63 (by decide)
    refine b_X11_goes_25 hst ?_
    try simp only [mrg_78, mrg_82, mrg_83, mrg_84, mrg_89, mrg_90, mrg_94, mrg_95, mrg_96, mrg_97, mrg_98, mrg_99, mrg_106, mrg_107, mrg_108, mrg_109, mrg_110, mrg_111, mrg_112, mrgu_78, mrgu_106, mrgu_107, mrgu_108, mrgu_109, mrgu_110, mrgu_111, mrgu_112]
    refine ⟨o0, fun y => ⟨fun z => absurd z (by omega), fun _ => kk⟩, fun y => ⟨o0, m_isWhole hst ⟨by rw [e62]; exact bb.1, fun i a c => by rw [fe 112 i (by omega)]; exact bb.2 i a (by omega)⟩ (by rw [e63]; exact c0) (fun i a c => ?_) (by omega) (fun w => ⟨fun _ => ?_, fun z => absurd z (by decide)⟩) (fun w => ⟨fun z => absurd rfl z, fun _ => m_fails hst o0 ?_⟩)⟩⟩
    · have z := gn i a (by omega)
      unfold gnd cB at z ⊢
      rw [e63, fe 112 i (by omega), fe 109 _ (by omega), fe 110 _ (by omega), fe 111 _ (by omega)]
      exact z
    · try simp only [mrg_78, mrg_82, mrg_83, mrg_84, mrg_89, mrg_90, mrg_94, mrg_95, mrg_96, mrg_97, mrg_98, mrg_99, mrg_106, mrg_107, mrg_108, mrg_109, mrg_110, mrg_111, mrg_112, mrgu_78, mrgu_106, mrgu_107, mrgu_108, mrgu_109, mrgu_110, mrgu_111, mrgu_112]
      exact ⟨fun z => absurd z (by omega), fun _ => kk⟩
    · rw [fn]
      try simp only [mrg_78, mrg_82, mrg_83, mrg_84, mrg_89, mrg_90, mrg_94, mrg_95, mrg_96, mrg_97, mrg_98, mrg_99, mrg_106, mrg_107, mrg_108, mrg_109, mrg_110, mrg_111, mrg_112, mrgu_78, mrgu_106, mrgu_107, mrgu_108, mrgu_109, mrgu_110, mrgu_111, mrgu_112]
      exact ⟨fun z => absurd z (by omega), fun _ => kk⟩
theorem m_turns {K : qM → Prop} (hst : St sh pt) (k : SK W S0 S) (w0 : W ≤ 5000) (e0 : S 78 67 = 0) (n0 : 1 ≤ n ∧ n ≤ 7) (kk : K (mrg b (tuF n S))) : RunV X (d + 1) mX11_turns [(2, 78), (0, n)] sh pt (mrg b S) K := by
  have bb := k.1.1
  have sz := bb.1
  have c0 := k.1.2.1
  have c3 := k.1.2.2.1
  have w1 := k.1.2.2.2.1
  have gn : ∀ i, 0 ≤ i → i < S 78 62 → gnd S (cB S i) := fun i a b => k.1.2.2.2.2.2 e0 i (S 78 63) a b (by omega) (by omega)
  unfold tuF at kk
  have lo : ∀ wr : Int, (0 ≤ wr ∧ wr ≤ 1) → K (mrg b (fo (tnI n (S 78 63)) 0 (S 78 62) (qup S 78 66 (S 78 66 + wr)))) → EvV X (d + 1) mX11_turns 62 [(2, 78), (0, n), (8, -1), (0, 0), (8, -1)] [] sh pt (mrg b (qup S 78 66 (S 78 66 + wr))) K := by
    intro wr wb kk
    have ue : ∀ a x, ¬ (a = 78 ∧ x = 66) → qup S 78 66 (S 78 66 + wr) a x = S a x := fun a x q => qup_of q
    generalize qup S 78 66 (S 78 66 + wr) = V at *
    have t0 : TIV V (S 78 63) V := ⟨Fr.rf, fun i a c => by
      rw [ue 78 62 (by decide)] at c
      have y := gn i a c
      unfold gnd cB at y
      rw [ue 112 i (by omega), ue 111 _ (by omega)]
      exact y.2.2⟩
    refine lp (σ := qM) (n := S 78 62) (J := fun i U => TIV V (S 78 63) U ∧ K (mrg b (fo (tnI n (S 78 63)) i (S 78 62) U))) (C := fun i U => EvV X (d + 1) mX11_turns 62 [(2, 78), (0, n), (8, -1), (0, i), (8, -1)] [] sh pt (mrg b U) K) sz.1 ?_ ?_ V ⟨t0, kk⟩
    · intro i U i0 i1 ⟨gU, eU⟩ ih
      have mi := bb.2 i i0 i1
      have e62 : U 78 62 = S 78 62 := (gU.1 _ _ (by omega)).trans (ue _ _ (by omega))
      have e63 : U 78 63 = S 78 63 := (gU.1 _ _ (by omega)).trans (ue _ _ (by omega))
      have e112 : U 112 i = S 112 i := (gU.1 _ _ (by omega)).trans (ue _ _ (by omega))
      have fr := gU.2 i i0 (by rw [ue 78 62 (by decide)]; exact i1)
      rw [ue 112 i (by omega)] at fr
      have nx := ih _ ⟨tnI_keep gU i0 (by rw [ue 78 62 (by decide)]; exact i1), by rw [fo_step (n := S 78 62) i1] at eU; exact eU⟩
      unfold tnI at nx
      rw [e112] at nx
      refine b_X11_turns_62 hst ?_
      try simp only [mrg_78, mrg_82, mrg_83, mrg_84, mrg_89, mrg_90, mrg_94, mrg_95, mrg_96, mrg_97, mrg_98, mrg_99, mrg_106, mrg_107, mrg_108, mrg_109, mrg_110, mrg_111, mrg_112, mrgu_78, mrgu_106, mrgu_107, mrgu_108, mrgu_109, mrgu_110, mrgu_111, mrgu_112]
      refine ⟨fun q => absurd q (by omega), fun _ => ⟨⟨by omega, by omega⟩, b_X11_cell hst ⟨⟨by omega, by omega⟩, ⟨by omega, by omega⟩, ?_⟩⟩⟩
      try simp only [mrg_78, mrg_82, mrg_83, mrg_84, mrg_89, mrg_90, mrg_94, mrg_95, mrg_96, mrg_97, mrg_98, mrg_99, mrg_106, mrg_107, mrg_108, mrg_109, mrg_110, mrg_111, mrg_112, mrgu_78, mrgu_106, mrgu_107, mrgu_108, mrgu_109, mrgu_110, mrgu_111, mrgu_112]
      rw [e63, e112]
      refine ⟨⟨by omega, by omega⟩, ⟨by omega, by omega⟩, by omega, ⟨by omega, by omega⟩, fun h8 e8 => ⟨⟨by omega, by omega⟩, ?_⟩⟩
      subst e8
      try simp only [mrg_78, mrg_82, mrg_83, mrg_84, mrg_89, mrg_90, mrg_94, mrg_95, mrg_96, mrg_97, mrg_98, mrg_99, mrg_106, mrg_107, mrg_108, mrg_109, mrg_110, mrg_111, mrg_112, mrgu_78, mrgu_106, mrgu_107, mrgu_108, mrgu_109, mrgu_110, mrgu_111, mrgu_112]
      exact nx
    · intro U ⟨gU, eU⟩
      rw [fo_end (by omega)] at eU
      have e62 : U 78 62 = S 78 62 := (gU.1 _ _ (by omega)).trans (ue _ _ (by omega))
      refine b_X11_turns_62 hst ?_
      try simp only [mrg_78, mrg_82, mrg_83, mrg_84, mrg_89, mrg_90, mrg_94, mrg_95, mrg_96, mrg_97, mrg_98, mrg_99, mrg_106, mrg_107, mrg_108, mrg_109, mrg_110, mrg_111, mrg_112, mrgu_78, mrgu_106, mrgu_107, mrgu_108, mrgu_109, mrgu_110, mrgu_111, mrgu_112]
      exact ⟨fun _ => eU, fun q => absurd q (by omega)⟩
  have y1 : well (S 78 65) n → EvV X (d + 1) mX11_turns 41 [(2, 78), (0, n), (8, -1), (8, -1), (8, -1)] [(0, 1)] sh pt (mrg b S) K := by
    intro w
    rw [if_pos w] at kk
    refine b_X11_turns_41 hst ?_
    try simp only [mrg_78, mrg_82, mrg_83, mrg_84, mrg_89, mrg_90, mrg_94, mrg_95, mrg_96, mrg_97, mrg_98, mrg_99, mrg_106, mrg_107, mrg_108, mrg_109, mrg_110, mrg_111, mrg_112, mrgu_78, mrgu_106, mrgu_107, mrgu_108, mrgu_109, mrgu_110, mrgu_111, mrgu_112]
    refine ⟨fun z => absurd z (by decide), fun _ => ⟨⟨by omega, by omega⟩, fun h2 e2 => ?_⟩⟩
    subst e2
    exact lo 0 (by decide) kk
  have y0 : ¬ well (S 78 65) n → EvV X (d + 1) mX11_turns 41 [(2, 78), (0, n), (8, -1), (8, -1), (8, -1)] [(0, 0)] sh pt (mrg b S) K := by
    intro w
    rw [if_neg w] at kk
    refine b_X11_turns_41 hst ?_
    try simp only [mrg_78, mrg_82, mrg_83, mrg_84, mrg_89, mrg_90, mrg_94, mrg_95, mrg_96, mrg_97, mrg_98, mrg_99, mrg_106, mrg_107, mrg_108, mrg_109, mrg_110, mrg_111, mrg_112, mrgu_78, mrgu_106, mrgu_107, mrgu_108, mrgu_109, mrgu_110, mrgu_111, mrgu_112]
    refine ⟨fun _ => ⟨⟨by omega, by omega⟩, fun h2 e2 => ?_⟩, fun z => absurd trivial z⟩
    subst e2
    exact lo 1 (by decide) kk
  refine b_X11_turns hst ?_
  try simp only [mrg_78, mrg_82, mrg_83, mrg_84, mrg_89, mrg_90, mrg_94, mrg_95, mrg_96, mrg_97, mrg_98, mrg_99, mrg_106, mrg_107, mrg_108, mrg_109, mrg_110, mrg_111, mrg_112, mrgu_78, mrgu_106, mrgu_107, mrgu_108, mrgu_109, mrgu_110, mrgu_111, mrgu_112]
  refine ⟨fun z => y1 (Or.inl z), fun z => ⟨fun z2 => y1 (Or.inr (Or.inl z2)), fun z2 => ⟨fun z3 => ⟨fun z4 => y0 (fun y => ?_), fun z4 => y1 (Or.inr (Or.inr (Or.inr ⟨by omega, z4⟩)))⟩, fun z3 => ⟨fun z4 => y0 (fun y => ?_), fun z4 => y1 (Or.inr (Or.inr (Or.inl ⟨z3, z4⟩)))⟩⟩⟩⟩
  · rcases y with y | y | y | y <;> omega
  · rcases y with y | y | y | y <;> omega
end
