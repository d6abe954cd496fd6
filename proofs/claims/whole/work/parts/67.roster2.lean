/-! who fills in: the reference's fillAll -/
section
variable {X : qX} {d : Nat} {sh : qS} {pt h : qM} {P M : Int} {av : Int → Int → Prop}
theorem m_mostFrom {K : Int → qM → Prop} {m : Int} (hst : St sh pt) (am : avM h P M av) (hM : h 78 7 = M) (m0 : 0 ≤ m) (m1 : m ≤ M) (k : ∀ L h2, Fr PFi h h2 → isMx P m M av L → 0 ≤ L → L ≤ 16 → K L h2) : RunI X (d + 19) mX11_mostFrom [(2, 78), (0, m)] sh pt h K := by
  obtain ⟨a1, a2, a3, a4, a5⟩ := id am
  refine b_X11_mostFrom (d := d + 18) hst ?_
  refine lp (σ := qM) (J := fun i h1 => Fr PFi h h1 ∧ ∀ p, 0 ≤ p → p < i → h1 130 p = -1) (C := fun i h1 => EvI X (d + 19) mX11_mostFrom 2 [(2, 78), (0, m), (0, i), (8, -1), (8, -1)] [] sh pt h1 K) (n := P) a2.1 ?_ ?_ h ⟨Fr.rf, fun p a b => absurd a (by omega)⟩
  · intro i h1 i0 i1 ⟨f1, j1⟩ kk
    have e1 : h1 78 85 = P := by rw [f1 _ _ (by unfold PFi; omega)]; exact a1
    refine b_X11_mostFrom_2 hst ⟨fun q => absurd q (by omega), fun _ => ⟨by omega, fun h2 e2 => ⟨⟨by omega, by omega⟩, kk h2 ⟨by rw [e2]; exact f1.up (Or.inl rfl), fun p a b => ?_⟩⟩⟩⟩
    by_cases e : p = i
    · rw [e, e2, qup_at]
    · rw [e2, qup_of (by omega)]; exact j1 p a (by omega)
  · intro h1 ⟨f1, j1⟩
    have e1 : h1 78 85 = P := by rw [f1 _ _ (by unfold PFi; omega)]; exact a1
    refine b_X11_mostFrom_2 hst ⟨fun _ => ?_, fun q => absurd q (by omega)⟩
    refine lp (σ := Int × qM) (J := fun i s => Fr PFi h s.2 ∧ sz P (s.2 130) = s.1 ∧ MT P m i av (s.2 130) ∧ ∃ A R : Int → Prop, (∀ j p, m ≤ j → j < i → R j → 0 ≤ p → p < P → av j p → A p) ∧ (∀ p, 0 ≤ p → p < P → A p → s.2 130 p ≠ -1 ∧ R (s.2 130 p)) ∧ ∀ j, m ≤ j → j < i → ¬ R j → ∃ p, 0 ≤ p ∧ p < P ∧ s.2 130 p = j) (C := fun i s => EvI X (d + 19) mX11_mostFrom 27 [(2, 78), (8, -1), (0, s.1), (0, i), (8, -1)] [] sh pt s.2 K) (i := m) (n := M) m1 ?_ ?_ (0, h1) ?_
    · intro i ⟨n, h3⟩ i0 i1 ⟨f3, g1, g2, A, R, c1, c2, c3⟩ kk
      dsimp only at f3 g1 g2 c2 c3 ⊢
      have e3 : h3 78 85 = P := by rw [f3 _ _ (by unfold PFi; omega)]; exact a1
      have e4 : h3 78 7 = M := by rw [f3 _ _ (by unfold PFi; omega)]; exact hM
      have nb : 0 ≤ n ∧ n ≤ 16 := by
        have := NT_bd (P := fun p => h3 130 p ≠ -1) P.toNat
        unfold sz at g1
        omega
      refine b_X11_mostFrom_27 hst ⟨fun q => absurd q (by omega), fun _ => ?_⟩
      refine lp (σ := qM) (J := fun p h4 => Fr PFi h h4 ∧ h4 130 = h3 130 ∧ ∀ q, 0 ≤ q → q < p → h4 133 q = 0) (C := fun p h4 => EvI X (d + 19) mX11_mostFrom 38 [(2, 78), (8, -1), (0, n), (0, i), (0, p)] [] sh pt h4 K) (n := P) a2.1 ?_ ?_ h3 ⟨f3, rfl, fun q a b => absurd a (by omega)⟩
      · intro p h4 p0 p1 ⟨f4, r4, s4⟩ kk2
        have e5 : h4 78 85 = P := by rw [f4 _ _ (by unfold PFi; omega)]; exact a1
        refine b_X11_mostFrom_38 hst ⟨fun q => absurd q (by omega), fun _ => ⟨by omega, fun h5 e6 => ⟨⟨by omega, by omega⟩, kk2 h5 ⟨by rw [e6]; exact f4.up (Or.inr rfl), ?_, fun q a b => ?_⟩⟩⟩⟩
        · funext x
          rw [e6, qup_of (by omega), r4]
        · by_cases e : q = p
          · rw [e, e6, qup_at]
          · rw [e6, qup_of (by omega)]; exact s4 q a (by omega)
      · intro h4 ⟨f4, r4, s4⟩
        have e5 : h4 78 85 = P := by rw [f4 _ _ (by unfold PFi; omega)]; exact a1
        have ok4 : ∀ p, 0 ≤ p → p < P → h4 130 p = -1 ∨ (0 ≤ h4 130 p ∧ h4 130 p < M) := fun p a b => by
          rw [r4]
          by_cases z : h3 130 p = -1
          · exact Or.inl z
          · have := g2.1 p a b z
            exact Or.inr (by omega)
        have call := m_fills (X := X) (d := d) (sh := sh) (pt := pt) (av := av) hst 17 i h4 (fun r2 h1 => ((r2 = 0 → (qI (n + 0)) ∧ (qI (i + 1)) ∧ EvI X (d + 19) mX11_mostFrom 27 [(2, 78), (8, -1), (0, (n + 0)), (0, (i + 1)), (8, -1)] [] sh pt h1 K) ∧ (¬ r2 = 0 → (qI (n + 1)) ∧ (qI (i + 1)) ∧ EvI X (d + 19) mX11_mostFrom 27 [(2, 78), (8, -1), (0, (n + 1)), (0, (i + 1)), (8, -1)] [] sh pt h1 K))) (avM_fr am f4) (by omega) i1 ok4 (by have := (NT_bd (P := fun p => h4 133 p = 0) P.toNat).2; omega) (fun h5 f5 g5 => ⟨fun _ => ⟨⟨by omega, by omega⟩, ⟨by omega, by omega⟩, ?_⟩, fun z => absurd rfl z⟩) (fun h5 f5 g5 => ⟨fun z => absurd z (by decide), fun _ => ⟨⟨by omega, by omega⟩, ⟨by omega, by omega⟩, ?_⟩⟩)
        · exact b_X11_mostFrom_38 hst ⟨fun _ => call, fun q => absurd q (by omega)⟩
        · -- none more
          rw [r4] at g5
          obtain ⟨y1, y2, y3⟩ := g5
          have r5 : h5 130 = h3 130 := by
            funext x
            rw [f5 _ _ (by omega), r4]
          have z := kk (n, h5) ⟨f4.tr (f5.wk (fun a i q => Or.inr q)), by dsimp only; rw [r5]; exact g1, by dsimp only; rw [r5]; exact ⟨fun p a b c => by have := g2.1 p a b c; exact ⟨this.1, by omega, this.2.2⟩, g2.2⟩, fun p => A p ∨ h5 133 p ≠ 0, fun j => (R j ∧ j < i) ∨ j = i ∨ ∃ p, 0 ≤ p ∧ p < P ∧ h5 133 p ≠ 0 ∧ h3 130 p = j, fun j p a b c e f g => ?_, fun p a b c => ?_, fun j a b c => ?_⟩
          · rw [Int.add_zero]
            exact z
          · rcases c with c | c | ⟨p2, u1, u2, u3, u4⟩
            · exact Or.inl (c1 j p a c.2 c.1 e f g)
            · rw [c] at g
              exact Or.inr (y2 p e f g)
            · rw [← u4] at g
              exact Or.inr ((y3 p2 u1 u2 u3 (s4 p2 u1 u2)).2 p e f g)
          · dsimp only
            rw [r5]
            rcases c with c | c
            · have w := c2 p a b c
              have w2 := g2.1 p a b w.1
              exact ⟨w.1, Or.inl ⟨w.2, w2.2.1⟩⟩
            · exact ⟨(y3 p a b c (s4 p a b)).1, Or.inr (Or.inr ⟨p, a, b, c, rfl⟩)⟩
          · dsimp only
            rw [r5]
            by_cases e : j = i
            · exact absurd (Or.inr (Or.inl e)) c
            · exact c3 j a (by omega) (fun r => c (Or.inl ⟨r, by omega⟩))
        · rw [r4] at g5
          obtain ⟨t1, t2, t3, t4, t5, ⟨t6, t7, t8, t9, t10⟩, t11⟩ := g5
          have inj := t4 (fun p q a b c e _ _ x y => g2.2 p q a b c e x y) (fun p a b _ y => by
            have := g2.1 p a b (by rw [y]; omega)
            omega)
          have cl : clo P av (h3 130) A := fun p a b c => by
            have w := c2 p a b c
            have w2 := g2.1 p a b w.1
            exact ⟨w.1, fun q x y z => c1 _ q w2.1 w2.2.1 w.2 x y z⟩
          have t5a := (t5 A cl).1
          refine kk (n + 1, h5) ⟨f4.tr f5, by dsimp only; rw [t2, g1], ⟨fun p a b c => ?_, fun p q a b c e x y => inj p q a b c e (s4 p a b) (s4 q c e) x y⟩, A, fun j => R j ∧ j < i, fun j p a b c e f g => c1 j p a c.2 c.1 e f g, fun p a b c => ?_, fun j a b c => ?_⟩
          · dsimp only at c ⊢
            by_cases e : h5 130 p = h3 130 p
            · rw [e] at c ⊢
              have := g2.1 p a b c
              exact ⟨this.1, by omega, this.2.2⟩
            · obtain ⟨u1, u2, u3⟩ := t3 p a b e
              refine ⟨?_, ?_, u1⟩
              · rcases u3 with u3 | ⟨q, v1, v2, v3, v4⟩
                · omega
                · have := g2.1 q v1 v2 (by omega)
                  omega
              · rcases u3 with u3 | ⟨q, v1, v2, v3, v4⟩
                · omega
                · have := g2.1 q v1 v2 (by omega)
                  omega
          · dsimp only
            have w := c2 p a b c
            have w2 := g2.1 p a b w.1
            rw [t5a p a b c]
            exact ⟨w.1, w.2, w2.2.1⟩
          · dsimp only
            by_cases e : j = i
            · exact ⟨t6, t7, t8, by rw [t10, e]⟩
            · obtain ⟨p, x, y, z⟩ := c3 j a (by omega) (fun r => c ⟨r, by omega⟩)
              obtain ⟨q, u, v, w⟩ := t11 p x y (by omega)
              exact ⟨q, u, v, by rw [w, z]⟩
    · intro ⟨n, h3⟩ ⟨f3, g1, g2, A, R, c1, c2, c3⟩
      dsimp only at f3 g1 g2 c2 c3 ⊢
      have e4 : h3 78 7 = M := by rw [f3 _ _ (by unfold PFi; omega)]; exact hM
      have nb : 0 ≤ n ∧ n ≤ 16 := by
        have := NT_bd (P := fun p => h3 130 p ≠ -1) P.toNat
        unfold sz at g1
        omega
      refine b_X11_mostFrom_27 hst ⟨fun _ => k n h3 f3 ?_ nb.1 nb.2, fun q => absurd q (by omega)⟩
      have z := kon m0 g2 c1 c2 c3
      rw [g1] at z
      exact z
    · refine ⟨f1, ?_, ⟨fun p a b c => absurd (j1 p a b) c, fun p q a b c e x y => absurd (j1 p a b) x⟩, fun _ => False, fun _ => False, fun j p a b => absurd a (by omega), fun p a b c => absurd c id, fun j a b => absurd a (by omega)⟩
      dsimp only
      unfold sz
      have := NT_win (P := fun p => h1 130 p ≠ -1) (W := 0) (by decide) P.toNat (fun t u a b c x y => absurd (j1 t a (by omega)) x)
      have := (NT_bd (P := fun p => h1 130 p ≠ -1) P.toNat).1
      omega
end
