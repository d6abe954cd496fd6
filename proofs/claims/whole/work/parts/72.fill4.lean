/-! who fills in: both faces -/
def rs0 (h : qM) (P A : Int) (ao af at_ ak ks : Int → Int) : Prop := (h 30 0 = P ∧ 0 ≤ P ∧ P ≤ 16) ∧ (h 30 1 = A ∧ 0 ≤ A ∧ A ≤ 60) ∧ (∀ p, 0 ≤ p → p < P → h 32 p = ks p ∧ 0 ≤ ks p ∧ ks p ≤ 2147483647) ∧ ∀ k, 0 ≤ k → k < A → h 33 k = ao k ∧ h 34 k = af k ∧ h 35 k = at_ k ∧ h 36 k = ak k ∧ 0 ≤ ao k ∧ ao k < 16
section
variable {X : qX} {d : Nat} {sh : qS} {pt h : qM} {P M A : Int} {ao af at_ ak ks : Int → Int}
theorem x_gone {K : Int → qM → Prop} {day kn : Int} (hst : St sh pt) (rs : rs0 h P A ao af at_ ak ks) (k : ∀ g, 0 ≤ g → g ≤ 2147483647 → (∀ p, 0 ≤ p → (tb g p = true ↔ gon ao af at_ ak A day kn p)) → K g h) : RunI X d mX5_gone [(2, 30), (0, day), (0, kn)] sh pt h K := by
  obtain ⟨r1, r2, r3, r4⟩ := rs
  refine b_X5_gone hst ?_
  refine lp (σ := Int) (J := fun i g => (0 ≤ g ∧ g ≤ 2147483647) ∧ ∀ p, 0 ≤ p → (tb g p = true ↔ gon ao af at_ ak i day kn p)) (C := fun i g => EvI X d mX5_gone 5 [(2, 30), (0, day), (0, kn), (0, g), (0, i)] [] sh pt h K) (n := A) r2.2.1 ?_ ?_ 0 ⟨by decide, fun p _ => by rw [tb_0]; exact ⟨fun z => absurd z (by decide), fun ⟨z, a, b, _⟩ => absurd b (by omega)⟩⟩
  · intro i g i0 i1 ⟨g0, g1⟩ kk
    have w := r4 i i0 i1
    have nxt : ¬ (ak i ≤ kn ∧ af i ≤ day ∧ day ≤ at_ i) → qI (i + 1) ∧ EvI X d mX5_gone 5 [(2, 30), (0, day), (0, kn), (0, g), (0, i + 1)] [] sh pt h K := fun q => ⟨⟨by omega, by omega⟩, kk g ⟨g0, fun p p0 => (g1 p p0).trans ⟨fun ⟨z, a, b, c⟩ => ⟨z, a, by omega, c⟩, fun ⟨z, a, b, c⟩ => by
      by_cases e : z = i
      · rw [e] at c; exact absurd c.2 q
      · exact ⟨z, a, by omega, c⟩⟩⟩⟩
    refine b_X5_gone_5 hst ⟨fun q => absurd q (by omega), fun _ => ⟨by omega, ?_⟩⟩
    rw [w.1, w.2.1, w.2.2.1, w.2.2.2.1]
    refine ⟨fun q => nxt (by omega), fun q => ⟨by omega, fun q2 => nxt (by omega), fun q2 => ⟨by omega, fun q3 => nxt (by omega), fun q3 => ⟨by omega, fun x ex => ⟨⟨by omega, by omega⟩, kk x ?_⟩⟩⟩⟩⟩
    have o := q_or1 (s := g) (m := ao i) g0.1 g0.2 (by omega) (by omega)
    rw [ex]
    refine ⟨⟨o.1, o.2.1⟩, fun p p0 => ?_⟩
    rw [o.2.2 p p0, Bool.or_eq_true, g1 p p0]
    constructor
    · intro y
      rcases y with ⟨z, a, b, c⟩ | y
      · exact ⟨z, a, by omega, c⟩
      · exact ⟨i, i0, by omega, (of_decide_eq_true y).symm, q, q2, q3⟩
    · intro ⟨z, a, b, c⟩
      by_cases e : z = i
      · rw [e] at c
        exact Or.inr (decide_eq_true c.1.symm)
      · exact Or.inl ⟨z, a, by omega, c⟩
  · intro g ⟨g0, g1⟩
    exact b_X5_gone_5 hst ⟨fun _ => k g g0.1 g0.2 g1, fun q => absurd q (by omega)⟩
theorem x_layCan {K : qM → Prop} {g : Int} {G : Int → Prop} (hst : St sh pt) (r1 : h 30 0 = P ∧ 0 ≤ P ∧ P ≤ 16) (r3 : ∀ p, 0 ≤ p → p < P → h 32 p = ks p ∧ 0 ≤ ks p ∧ ks p ≤ 2147483647) (hM : h 30 13 = M) (M0 : 0 ≤ M) (M1 : M ≤ 20) (g0 : 0 ≤ g) (g1 : g ≤ 2147483647) (hg : ∀ p, 0 ≤ p → (tb g p = true ↔ G p)) (k : ∀ h1, Fr (fun a _ => a = 37) h h1 → (∀ j, 0 ≤ j → j < M → (0 ≤ h1 37 j ∧ h1 37 j ≤ 2147483647) ∧ ∀ p, 0 ≤ p → p < P → (tb (h1 37 j) p = true ↔ (¬ G p ∧ tb (ks p) j = true))) → K h1) : RunV X d mX5_layCan [(2, 30), (0, g)] sh pt h K := by
  refine b_X5_layCan hst ?_
  refine lp (σ := qM) (J := fun i h1 => Fr (fun a _ => a = 37) h h1 ∧ ∀ j, 0 ≤ j → j < i → (0 ≤ h1 37 j ∧ h1 37 j ≤ 2147483647) ∧ ∀ p, 0 ≤ p → p < P → (tb (h1 37 j) p = true ↔ (¬ G p ∧ tb (ks p) j = true))) (C := fun i h1 => EvV X d mX5_layCan 2 [(2, 30), (0, g), (0, i), (8, -1)] [] sh pt h1 K) (n := M) M0 ?_ ?_ h ⟨Fr.rf, fun j a b => absurd a (by omega)⟩
  · intro i h1 i0 i1 ⟨f1, j1⟩ kk
    have eM : h1 30 13 = M := by rw [f1 _ _ (by omega)]; exact hM
    refine b_X5_layCan_2 hst ⟨fun q => absurd q (by omega), fun _ => ⟨by omega, fun h2 e2 => ?_⟩⟩
    refine lp (σ := qM) (J := fun p h3 => Fr (fun a _ => a = 37) h h3 ∧ (∀ j, 0 ≤ j → j < i → h3 37 j = h1 37 j) ∧ (0 ≤ h3 37 i ∧ h3 37 i ≤ 2147483647) ∧ ∀ q, 0 ≤ q → (tb (h3 37 i) q = true ↔ (q < p ∧ ¬ G q ∧ tb (ks q) i = true))) (C := fun p h3 => EvV X d mX5_layCan 19 [(2, 30), (0, g), (0, i), (0, p)] [] sh pt h3 K) (n := P) r1.2.1 ?_ ?_ h2 ?_
    · intro p h3 p0 p1 ⟨f3, l1, l2, l3⟩ kk2
      have eP : h3 30 0 = P := by rw [f3 _ _ (by omega)]; exact r1.1
      have kp := r3 p p0 p1
      have ek : h3 32 p = ks p := by rw [f3 _ _ (by omega)]; exact kp.1
      have bg := q_bitU (s := g) (m := p) g0 g1 p0 (by omega)
      have bk := q_bitU (s := ks p) (m := i) kp.2.1 kp.2.2 i0 (by omega)
      have nxt : ¬ (¬ G p ∧ tb (ks p) i = true) → qI (p + 1) ∧ EvV X d mX5_layCan 19 [(2, 30), (0, g), (0, i), (0, p + 1)] [] sh pt h3 K := fun q => ⟨⟨by omega, by omega⟩, kk2 h3 ⟨f3, l1, l2, fun r r0 => (l3 r r0).trans ⟨fun z => ⟨by omega, z.2⟩, fun z => by
        by_cases e : r = p
        · rw [e] at z; exact absurd z.2 q
        · exact ⟨by omega, z.2⟩⟩⟩⟩
      refine b_X5_layCan_19 hst ⟨fun q => absurd q (by omega), fun _ => ⟨fun q => nxt (fun z => ?_), fun q => ⟨by omega, ?_⟩⟩⟩
      · rw [bg, if_neg (fun t => z.1 ((hg p p0).mp t))] at q
        exact absurd rfl q
      · rw [ek]
        refine ⟨fun q2 => nxt (fun z => ?_), fun q2 => ⟨by omega, by omega, fun h4 e4 => ⟨⟨by omega, by omega⟩, kk2 h4 ?_⟩⟩⟩
        · rw [bk, if_pos z.2] at q2
          exact absurd q2 (by decide)
        · have ng : ¬ G p := fun z => by
            rw [bg, if_pos ((hg p p0).mpr z)] at q
            exact absurd q (by decide)
          have tk : tb (ks p) i = true := by
            by_cases t : tb (ks p) i = true
            · exact t
            · rw [bk, if_neg t] at q2; exact absurd rfl q2
          have o := q_or1 (s := h3 37 i) (m := p) l2.1 l2.2 p0 (by omega)
          refine ⟨by rw [e4]; exact f3.up rfl, fun j a b => by rw [e4, qup_of (by omega)]; exact l1 j a b, by rw [e4, qup_at]; exact ⟨o.1, o.2.1⟩, fun r r0 => ?_⟩
          rw [e4, qup_at, o.2.2 r r0, Bool.or_eq_true, l3 r r0]
          constructor
          · intro y
            rcases y with y | y
            · exact ⟨by omega, y.2⟩
            · rw [of_decide_eq_true y]; exact ⟨by omega, ng, tk⟩
          · intro y
            by_cases e : r = p
            · exact Or.inr (decide_eq_true e)
            · exact Or.inl ⟨by omega, y.2⟩
    · intro h3 ⟨f3, l1, l2, l3⟩
      have eP : h3 30 0 = P := by rw [f3 _ _ (by omega)]; exact r1.1
      refine b_X5_layCan_19 hst ⟨fun _ => ⟨⟨by omega, by omega⟩, kk h3 ⟨f3, fun j a b => ?_⟩⟩, fun q => absurd q (by omega)⟩
      by_cases e : j = i
      · rw [e]
        exact ⟨l2, fun p p0 p1 => (l3 p p0).trans ⟨fun z => z.2, fun z => ⟨p1, z⟩⟩⟩
      · rw [l1 j a (by omega)]; exact j1 j a (by omega)
    · refine ⟨by rw [e2]; exact f1.up rfl, fun j a b => by rw [e2, qup_of (by omega)], by rw [e2, qup_at]; decide, fun q q0 => ?_⟩
      rw [e2, qup_at, tb_0]
      exact ⟨fun z => absurd z (by decide), fun z => absurd z.1 (by omega)⟩
  · intro h1 ⟨f1, j1⟩
    have eM : h1 30 13 = M := by rw [f1 _ _ (by omega)]; exact hM
    exact b_X5_layCan_2 hst ⟨fun _ => k h1 f1 j1, fun q => absurd q (by omega)⟩
def POf (a i : Int) : Prop := a = 31 ∨ a = 37 ∨ a = 38 ∨ a = 39 ∨ a = 40 ∨ (a = 30 ∧ i = 13)
theorem x_fill {K : Int → qM → Prop} {day kn : Int} (hst : St sh pt) (rs : rs0 h P A ao af at_ ak ks) (M0 : 0 ≤ M) (M1 : M ≤ 20) (k : ∀ L h2, Fr POf h h2 → isMx P 0 M (avS (canP ao af at_ ak ks A day kn) (Sf (h2 31) 0)) L → LX P M (canP ao af at_ ak ks A day kn) (h2 31) M → (∀ j, 0 ≤ j → j < M → h2 31 j = -1 ∨ (0 ≤ h2 31 j ∧ h2 31 j < P)) → K L h2) : RunI X (d + 5) mX5_fill [(2, 30), (0, M), (0, day), (0, kn)] sh pt h K := by
  obtain ⟨r1, r2, r3, r4⟩ := id rs
  refine b_X5_fill hst (fun h1 e1 => ?_)
  have u1 : ∀ a i, ¬ (a = 30 ∧ i = 13) → h1 a i = h a i := fun a i q => by rw [e1, qup_of q]
  have rs1 : rs0 h1 P A ao af at_ ak ks := by
    refine ⟨⟨by rw [u1 _ _ (by omega)]; exact r1.1, r1.2⟩, ⟨by rw [u1 _ _ (by omega)]; exact r2.1, r2.2⟩, fun p a b => ?_, fun j a b => ?_⟩
    · rw [u1 _ _ (by omega)]; exact r3 p a b
    · rw [u1 _ _ (by omega), u1 _ _ (by omega), u1 _ _ (by omega), u1 _ _ (by omega)]; exact r4 j a b
  have eM1 : h1 30 13 = M := by rw [e1, qup_at]
  refine x_gone hst rs1 (fun g g0 g1 hg => x_layCan hst rs1.1 rs1.2.2.1 eM1 M0 M1 g0 g1 hg (fun h2 f2 c2 => x_fillI hst (s_31 hst) (by decide) (by decide) (fun h3 f3 v3 => x_fillI hst (s_38 hst) (by decide) (by decide) (fun h4 f4 v4 => ?_))))
  generalize eC : canP ao af at_ ak ks A day kn = C at *
  have fr4 : Fr POf h h4 := fun a i q => by
    unfold POf at q
    rw [f4 _ _ (by omega), f3 _ _ (by omega), f2 _ _ (by omega), u1 _ _ (by omega)]
  have rx4 : rsX h4 P M C := by
    refine ⟨⟨by rw [f4 _ _ (by omega), f3 _ _ (by omega), f2 _ _ (by omega)]; exact rs1.1.1, r1.2⟩, ⟨by rw [f4 _ _ (by omega), f3 _ _ (by omega), f2 _ _ (by omega)]; exact eM1, M0, M1⟩, fun j a b => ?_⟩
    rw [f4 _ _ (by omega), f3 _ _ (by omega)]
    rw [← eC]
    exact c2 j a b
  have n31 : ∀ j, 0 ≤ j → j < M → h4 31 j = -1 := fun j a b => by rw [f4 _ _ (by omega)]; exact v3 j a (by omega)
  have n38 : ∀ p, 0 ≤ p → p < P → h4 38 p = -1 := fun p a b => v4 p a (by omega)
  have S0 : ∀ f, Sf f 0 = fun _ => False := fun f => by
    funext p
    apply propext
    exact ⟨fun ⟨_, j, a, b, _⟩ => absurd a (by omega), fun q => absurd q id⟩
  -- the second half
  have half : ∀ (L : Int) (h5 : qM), Fr PO4 h4 h5 → CN P M (h5 31) (h5 38) → vld P M C (h5 38) → nB P (fun _ => False) (h5 38) = L → isMx P 0 M (avS C (fun _ => False)) L → EvI X (d + 5) mX5_fill 70 [(2, 30), (8, -1), (8, -1), (8, -1), (0, L), (0, 0), (0, 0)] [] sh pt h5 K := fun L h5 f5 cn v nb mx => by
    refine lp (σ := (Int × Int) × qM) (J := fun m s => Fr PO4 h4 s.2 ∧ SI s.2 P M C m s.1.1 s.1.2) (C := fun m s => EvI X (d + 5) mX5_fill 70 [(2, 30), (8, -1), (8, -1), (8, -1), (0, L), (0, s.1.1), (0, m)] [] sh pt s.2 K) (n := M) M0 ?_ ?_ ((0, L), h5) ⟨f5, cn, v, by dsimp only; decide, fun p a b => by dsimp only; rw [tb_0, S0]; exact ⟨fun z => absurd z (by decide), fun z => absurd z id⟩, by dsimp only; rw [S0]; exact mx, by dsimp only; rw [S0]; exact nb, fun j a b => absurd a (by omega)⟩
    · intro m ⟨⟨st, L2⟩, h6⟩ m0 m1 ⟨f6, si⟩ kk
      dsimp only at f6 si ⊢
      have rx6 := rsX_fr rx4 f6
      refine b_X5_fill_70 hst ⟨fun z => absurd z (by rw [rx6.2.1.1]; omega), fun _ => x_settle (d := d) hst rx6 m0 m1 si (fun st2 L3 h7 f7 si2 => ⟨⟨by omega, by omega⟩, kk ((st2, L3), h7) ⟨f6.tr f7, si2⟩⟩)⟩
    · intro ⟨⟨st, L2⟩, h6⟩ ⟨f6, si⟩
      dsimp only at f6 si ⊢
      have rx6 := rsX_fr rx4 f6
      obtain ⟨s1, s2, s3, s4, s5, s6, s7⟩ := si
      refine b_X5_fill_70 hst ⟨fun _ => k L h6 (fun a i q => ?_) (by rw [S0]; exact mx) s7 (fun j a b => ?_), fun z => absurd z (by rw [rx6.2.1.1]; omega)⟩
      · rw [f6 _ _ (by unfold POf at q; unfold PO4; omega)]
        exact fr4 a i q
      · rcases s1.2 j a b with w | w
        · exact Or.inl w
        · exact Or.inr w.1
  refine lp (σ := qM) (J := fun i h5 => Fr PO4 h4 h5 ∧ CN P M (h5 31) (h5 38) ∧ vld P M C (h5 38) ∧ nB P (fun _ => False) (h5 38) = i) (C := fun i h5 => EvI X (d + 5) mX5_fill 37 [(2, 30), (8, -1), (8, -1), (8, -1), (0, i), (0, i), (8, -1)] [] sh pt h5 K) (n := M) M0 ?_ ?_ h4 ?_
  · intro i h5 i0 i1 ⟨f5, cn, v, nb⟩ kk
    have rx5 := rsX_fr rx4 f5
    refine b_X5_fill_37 hst ⟨fun z => absurd z (by rw [rx5.2.1.1]; omega), fun _ => x_fom (Bd := fun _ => False) (first := 0) (d := d + 2) hst rx5 (by decide) M0 (by decide) (by decide) (fun p a b => by rw [tb_0]; exact ⟨fun z => absurd z (by decide), fun z => absurd z id⟩) cn ⟨fun p a b c _ => ⟨by
      rcases cn.1 p a b with w | w
      · exact absurd w c
      · exact w.1.1, v p a b c⟩, fun p _ _ _ z => absurd z id⟩ (fun h6 ⟨y1, y2, y3, y4, y5, y6⟩ => ⟨fun z => absurd z (by decide), fun _ => ⟨⟨by omega, by omega⟩, ⟨by omega, by omega⟩, kk h6 ⟨f5.tr y1, y2, fun p a b c => (y5 p a b c id).2, by rw [y6, nb]⟩⟩⟩) (fun h6 f6 mx => ⟨fun _ => ?_, fun z => absurd rfl z⟩)⟩
    rw [nb] at mx
    have e31 : h6 31 = h5 31 := by funext t; exact f6 _ _ (by unfold PO2; omega)
    have e38 : h6 38 = h5 38 := by funext t; exact f6 _ _ (by unfold PO2; omega)
    exact half i h6 (f5.tr (f6.wk (fun a i q => by unfold PO2 at q; unfold PO4; omega))) (by rw [e31, e38]; exact cn) (by rw [e38]; exact v) (by rw [e38]; exact nb) mx
  · intro h5 ⟨f5, cn, v, nb⟩
    have rx5 := rsX_fr rx4 f5
    refine b_X5_fill_37 hst ⟨fun _ => half M h5 f5 cn v nb ?_, fun z => absurd z (by rw [rx5.2.1.1]; omega)⟩
    have sm := subMT (first := 0) (Bd := fun _ => False) (C := C) cn ⟨fun p a b c _ => ⟨by
      rcases cn.1 p a b with w | w
      · exact absurd w c
      · exact w.1.1, v p a b c⟩, fun p _ _ _ z => absurd z id⟩
    refine ⟨⟨_, sm.1, by rw [sm.2, nb]⟩, fun e' h' => ?_⟩
    have s := NT_inj (f := e') (b := M.toNat) P.toNat (fun p => e' p ≠ -1) (fun _ => True) (fun p a b c => by
      have := h'.1 p a (by omega) c
      exact ⟨this.1, by omega, trivial⟩) (fun p q a b c e x y z => h'.2 p q a (by omega) c (by omega) x z)
    have := (NT_bd (P := fun _ => True) M.toNat).2
    unfold sz
    omega
  · refine ⟨Fr.rf, ⟨fun p a b => Or.inl (n38 p a b), fun j a b => Or.inl (n31 j a b)⟩, fun p a b c => absurd (n38 p a b) c, ?_⟩
    show NT (fun p => h4 38 p ≠ -1 ∧ ¬ False) P.toNat = 0
    have := NT_win (P := fun p => h4 38 p ≠ -1 ∧ ¬ False) (W := 0) (by decide) P.toNat (fun t u a b c x y => absurd (n38 t a (by omega)) x.1)
    have := (NT_bd (P := fun p => h4 38 p ≠ -1 ∧ ¬ False) P.toNat).1
    omega
/-! filled, who -/
def dayOk (v : Int) : Prop := 0 ≤ v ∧ v ≤ 9999
def flO (P M A : Int) (ao af at_ ak ks : Int → Int) (day kn L : Int) (f : Int → Int) : Prop := isMx P 0 M (avS (canP ao af at_ ak ks A day kn) (fun _ => False)) L ∧ LX P M (canP ao af at_ ak ks A day kn) f M ∧ ∀ j, 0 ≤ j → j < M → f j = -1 ∨ (0 ≤ f j ∧ f j < P)
theorem Sf0 (f : Int → Int) : Sf f 0 = fun _ => False := by
  funext p
  apply propext
  exact ⟨fun ⟨_, j, a, b, _⟩ => absurd a (by omega), fun q => absurd q id⟩
theorem x_filled {K : Int → qM → Prop} {v1 v2 : Int} (hst : St sh pt) (rs : rs0 h P A ao af at_ ak ks) (hM : h 2 3 = M) (M0 : 0 ≤ M) (M1 : M ≤ 20) (k5 : ¬ (dayOk v1 ∧ dayOk v2) → K (-1) (qup h 0 12 5)) (k : dayOk v1 → dayOk v2 → ∀ L h2, Fr POf h h2 → flO P M A ao af at_ ak ks v1 v2 L (h2 31) → K L (qup h2 0 12 0)) : RunI X (d + 6) mX10_filled [(2, 0), (0, v1), (0, v2)] sh pt h K := by
  unfold dayOk at k5 k
  have no : ¬ ((0 ≤ v1 ∧ v1 ≤ 9999) ∧ (0 ≤ v2 ∧ v2 ≤ 9999)) → RunI X (d + 5) mX10_none [(2, 0), (0, 5)] sh pt h K := fun q => b_X10_none hst (fun h1 e1 => by rw [e1]; exact k5 q)
  refine b_X10_filled hst (b_X10_isDay hst ⟨fun a => ⟨fun _ => no (by omega), fun z => absurd rfl z⟩, fun a => ⟨fun b => ⟨fun _ => no (by omega), fun z => absurd rfl z⟩, fun b => ⟨fun z => absurd z (by decide), fun _ => b_X10_isDay hst ⟨fun c => ⟨fun z => absurd rfl z, fun _ => no (by omega)⟩, fun c => ⟨fun e => ⟨fun z => absurd rfl z, fun _ => no (by omega)⟩, fun e => ⟨fun _ => ?_, fun z => absurd z (by decide)⟩⟩⟩⟩⟩⟩)
  rw [hM]
  refine x_fill hst rs M0 M1 (fun L h2 f2 mx lx rg => b_X10_answer hst (fun h3 e3 => ?_))
  rw [e3]
  rw [Sf0] at mx
  exact k ⟨a, b⟩ ⟨c, e⟩ L h2 f2 ⟨mx, lx, rg⟩
theorem m_filled {K : Int → qM → Prop} {v1 v2 : Int} (hst : St sh pt) (rs : rsM h P A ao af at_ ak ks) (hM : h 78 7 = M) (M0 : 0 ≤ M) (M1 : M ≤ 20) (k5 : ¬ (dayOk v1 ∧ dayOk v2) → K (-1) (ms h 5)) (k : dayOk v1 → dayOk v2 → ∀ L h2, Fr PFa (ms h 0) h2 → flO P M A ao af at_ ak ks v1 v2 L (h2 129) → K L h2) : RunI X (d + 21) mX11_filled [(2, 78), (0, v1), (0, v2)] sh pt h K := by
  unfold dayOk at k5 k
  have no : ¬ ((0 ≤ v1 ∧ v1 ≤ 9999) ∧ (0 ≤ v2 ∧ v2 ≤ 9999)) → RunI X (d + 20) mX11_refuse [(2, 78), (0, 5)] sh pt (ms h 0) K := fun q => m_refuse hst (k5 q)
  refine b_X11_filled (d := d + 20) hst (fun h1 e1 h2 e2 => ?_)
  have e3 : h2 = ms h 0 := by rw [e2, e1]; rfl
  subst e3
  have rs2 : rsM (ms h 0) P A ao af at_ ak ks := by
    obtain ⟨r1, r2, r3, r4⟩ := rs
    refine ⟨⟨by rw [ms_of2 (by decide)]; exact r1.1, r1.2⟩, ⟨by rw [ms_of2 (by decide)]; exact r2.1, r2.2⟩, fun p a b => ?_, fun j a b => ?_⟩
    · rw [ms_of (by decide)]; exact r3 p a b
    · rw [ms_of (by decide), ms_of (by decide), ms_of (by decide), ms_of (by decide)]; exact r4 j a b
  refine b_X11_isDay (d := d + 19) hst (b_X11_isIn hst ⟨fun a => ⟨by decide, fun _ => no (by omega), fun z => absurd rfl z⟩, fun a => ⟨fun b => ⟨by decide, fun _ => no (by omega), fun z => absurd rfl z⟩, fun b => ⟨by decide, fun z => absurd z (by decide), fun _ => b_X11_isDay (d := d + 19) hst (b_X11_isIn hst ⟨fun c => ⟨by decide, fun _ => no (by omega), fun z => absurd rfl z⟩, fun c => ⟨fun e => ⟨by decide, fun _ => no (by omega), fun z => absurd rfl z⟩, fun e => ⟨by decide, fun z => absurd z (by decide), fun _ => ?_⟩⟩⟩)⟩⟩⟩)
  refine m_fillAll (d := d) hst rs2 (by rw [ms_of2 (by decide)]; exact hM) M0 M1 (fun L h2 f2 mx lx rg _ _ => ?_)
  rw [Sf0] at mx
  exact k ⟨a, b⟩ ⟨c, e⟩ L h2 f2 ⟨mx, lx, rg⟩
theorem x_who {K : Int → qM → Prop} {v1 v2 v3 : Int} (hst : St sh pt) (rs : rs0 h P A ao af at_ ak ks) (hM : h 2 3 = M) (M0 : 0 ≤ M) (M1 : M ≤ 20) (k2 : ¬ (0 ≤ v1 ∧ v1 < M) → K (-1) (qup h 0 12 2)) (k5 : 0 ≤ v1 → v1 < M → ¬ (dayOk v2 ∧ dayOk v3) → K (-1) (qup h 0 12 5)) (k : 0 ≤ v1 → v1 < M → dayOk v2 → dayOk v3 → ∀ L h2, Fr POf h h2 → flO P M A ao af at_ ak ks v2 v3 L (h2 31) → (h2 31 v1 = -1 → K (-1) (qup h2 0 12 8)) ∧ (h2 31 v1 ≠ -1 → K (h2 31 v1) (qup h2 0 12 0))) : RunI X (d + 6) mX10_who [(2, 0), (0, v1), (0, v2), (0, v3)] sh pt h K := by
  unfold dayOk at k5 k
  have n2 : ¬ (0 ≤ v1 ∧ v1 < M) → RunI X (d + 5) mX10_none [(2, 0), (0, 2)] sh pt h K := fun q => b_X10_none hst (fun h1 e1 => by rw [e1]; exact k2 q)
  have no : 0 ≤ v1 → v1 < M → ¬ ((0 ≤ v2 ∧ v2 ≤ 9999) ∧ (0 ≤ v3 ∧ v3 ≤ 9999)) → RunI X (d + 5) mX10_none [(2, 0), (0, 5)] sh pt h K := fun x y q => b_X10_none hst (fun h1 e1 => by rw [e1]; exact k5 x y q)
  refine b_X10_who hst (b_X2_hasMarcher hst ⟨fun x => ⟨fun z => absurd rfl z, fun _ => n2 (by omega)⟩, fun x => ⟨fun y => ⟨fun z => absurd rfl z, fun _ => n2 (by omega)⟩, fun y => ⟨fun _ => b_X10_isDay hst ⟨fun a => ⟨fun _ => no x (by omega) (by omega), fun z => absurd rfl z⟩, fun a => ⟨fun b => ⟨fun _ => no x (by omega) (by omega), fun z => absurd rfl z⟩, fun b => ⟨fun z => absurd z (by decide), fun _ => b_X10_isDay hst ⟨fun c => ⟨fun z => absurd rfl z, fun _ => no x (by omega) (by omega)⟩, fun c => ⟨fun e => ⟨fun z => absurd rfl z, fun _ => no x (by omega) (by omega)⟩, fun e => ⟨fun _ => ?_, fun z => absurd z (by decide)⟩⟩⟩⟩⟩⟩, fun z => absurd z (by decide)⟩⟩⟩)
  rw [hM]
  refine x_fill hst rs M0 M1 (fun L h2 f2 mx lx rg => ?_)
  rw [Sf0] at mx
  have kk := k x (by omega) ⟨a, b⟩ ⟨c, e⟩ L h2 f2 ⟨mx, lx, rg⟩
  exact ⟨by omega, fun z => b_X10_answer hst (fun h3 e3 => by rw [e3]; exact kk.2 z), fun z => b_X10_none hst (fun h3 e3 => by rw [e3]; exact kk.1 z)⟩
theorem m_who {K : Int → qM → Prop} {v1 v2 v3 : Int} (hst : St sh pt) (rs : rsM h P A ao af at_ ak ks) (hM : h 78 7 = M) (M0 : 0 ≤ M) (M1 : M ≤ 20) (k2 : ¬ (0 ≤ v1 ∧ v1 < M) → K (-1) (ms h 2)) (k5 : 0 ≤ v1 → v1 < M → ¬ (dayOk v2 ∧ dayOk v3) → K (-1) (ms h 5)) (k : 0 ≤ v1 → v1 < M → dayOk v2 → dayOk v3 → ∀ L h2, Fr PFa (ms h 0) h2 → flO P M A ao af at_ ak ks v2 v3 L (h2 129) → (h2 129 v1 = -1 → K (-1) (qup h2 78 0 8)) ∧ (h2 129 v1 ≠ -1 → K (h2 129 v1) h2)) : RunI X (d + 21) mX11_who [(2, 78), (0, v1), (0, v2), (0, v3)] sh pt h K := by
  unfold dayOk at k5 k
  have no : 0 ≤ v1 → v1 < M → ¬ ((0 ≤ v2 ∧ v2 ≤ 9999) ∧ (0 ≤ v3 ∧ v3 ≤ 9999)) → RunI X (d + 20) mX11_refuse [(2, 78), (0, 5)] sh pt (ms h 0) K := fun x y q => m_refuse hst (k5 x y q)
  refine b_X11_who (d := d + 20) hst (fun h1 e1 h2 e2 => ?_)
  have e3 : h2 = ms h 0 := by rw [e2, e1]; rfl
  subst e3
  have rs2 : rsM (ms h 0) P A ao af at_ ak ks := by
    obtain ⟨r1, r2, r3, r4⟩ := rs
    refine ⟨⟨by rw [ms_of2 (by decide)]; exact r1.1, r1.2⟩, ⟨by rw [ms_of2 (by decide)]; exact r2.1, r2.2⟩, fun p a b => ?_, fun j a b => ?_⟩
    · rw [ms_of (by decide)]; exact r3 p a b
    · rw [ms_of (by decide), ms_of (by decide), ms_of (by decide), ms_of (by decide)]; exact r4 j a b
  have hM2 : ms h 0 78 7 = M := by rw [ms_of2 (by decide)]; exact hM
  refine b_X11_isMarcher (d := d + 19) hst ?_
  rw [hM2]
  refine ⟨⟨by omega, by omega⟩, b_X11_isIn hst ⟨fun x => ⟨by decide, fun z => absurd rfl z, fun _ => m_refuse hst (k2 (by omega))⟩, fun x => ⟨fun y => ⟨by decide, fun z => absurd rfl z, fun _ => m_refuse hst (k2 (by omega))⟩, fun y => ⟨by decide, fun _ => b_X11_isDay (d := d + 19) hst (b_X11_isIn hst ⟨fun a => ⟨by decide, fun _ => no x (by omega) (by omega), fun z => absurd rfl z⟩, fun a => ⟨fun b => ⟨by decide, fun _ => no x (by omega) (by omega), fun z => absurd rfl z⟩, fun b => ⟨by decide, fun z => absurd z (by decide), fun _ => b_X11_isDay (d := d + 19) hst (b_X11_isIn hst ⟨fun c => ⟨by decide, fun z => absurd rfl z, fun _ => no x (by omega) (by omega)⟩, fun c => ⟨fun e => ⟨by decide, fun z => absurd rfl z, fun _ => no x (by omega) (by omega)⟩, fun e => ⟨by decide, fun _ => ?_, fun z => absurd z (by decide)⟩⟩⟩)⟩⟩⟩), fun z => absurd z (by decide)⟩⟩⟩⟩
  refine m_fillAll (d := d) hst rs2 hM2 M0 M1 (fun L h2 f2 mx lx rg _ _ => ?_)
  rw [Sf0] at mx
  have kk := k x (by omega) ⟨a, b⟩ ⟨c, e⟩ L h2 f2 ⟨mx, lx, rg⟩
  have w := rg v1 x (by omega)
  exact ⟨by omega, fun z => ⟨by omega, kk.2 (by omega)⟩, fun z => b_X11_refuse hst (fun h3 e3 => by rw [e3]; exact kk.1 (by omega))⟩
end
