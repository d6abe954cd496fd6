/-! who fills in: the reference's fillAll, filled, who -/
def gon (ao af at_ ak : Int → Int) (A day kn p : Int) : Prop := ∃ k, 0 ≤ k ∧ k < A ∧ ao k = p ∧ ak k ≤ kn ∧ af k ≤ day ∧ day ≤ at_ k
def canP (ao af at_ ak ks : Int → Int) (A day kn j p : Int) : Prop := ¬ gon ao af at_ ak A day kn p ∧ tb (ks p) j = true
def PFa (a _ : Int) : Prop := a = 129 ∨ a = 130 ∨ a = 131 ∨ a = 132 ∨ a = 133
def rsM (h : qM) (P A : Int) (ao af at_ ak ks : Int → Int) : Prop := (h 78 85 = P ∧ 0 ≤ P ∧ P ≤ 16) ∧ (h 78 86 = A ∧ 0 ≤ A ∧ A ≤ 60) ∧ (∀ p, 0 ≤ p → p < P → h 124 p = ks p ∧ 0 ≤ ks p ∧ ks p ≤ 2147483647) ∧ ∀ k, 0 ≤ k → k < A → h 125 k = ao k ∧ h 126 k = af k ∧ h 127 k = at_ k ∧ h 128 k = ak k
section
variable {X : qX} {d : Nat} {sh : qS} {pt h : qM} {P M A : Int} {ao af at_ ak ks : Int → Int}
theorem rsM_fr {h1 : qM} (r : rsM h P A ao af at_ ak ks) (f : Fr PFa h h1) : rsM h1 P A ao af at_ ak ks := by
  obtain ⟨r1, r2, r3, r4⟩ := r
  refine ⟨⟨by rw [f _ _ (by unfold PFa; omega)]; exact r1.1, r1.2⟩, ⟨by rw [f _ _ (by unfold PFa; omega)]; exact r2.1, r2.2⟩, fun p a b => ?_, fun k a b => ?_⟩
  · rw [f _ _ (by unfold PFa; omega)]; exact r3 p a b
  · rw [f _ _ (by unfold PFa; omega), f _ _ (by unfold PFa; omega), f _ _ (by unfold PFa; omega), f _ _ (by unfold PFa; omega)]; exact r4 k a b
theorem Sf_no {f g : Int → Int} {m : Int} (m0 : 0 ≤ m) (e : ∀ j, 0 ≤ j → j < m → g j = f j) (em : g m = -1) : Sf g (m + 1) = Sf f m := by
  funext p
  apply propext
  constructor
  · intro ⟨u, j, a, b, c⟩
    by_cases q : j = m
    · rw [q, em] at c
      omega
    · exact ⟨u, j, a, by omega, by rw [← e j a (by omega)]; exact c⟩
  · intro ⟨u, j, a, b, c⟩
    exact ⟨u, j, a, by omega, by rw [e j a b]; exact c⟩
theorem Sf_yes {f g : Int → Int} {m p : Int} (m0 : 0 ≤ m) (p0 : 0 ≤ p) (e : ∀ j, 0 ≤ j → j < m → g j = f j) (em : g m = p) : Sf g (m + 1) = fun q => Sf f m q ∨ q = p := by
  funext q
  apply propext
  constructor
  · intro ⟨u, j, a, b, c⟩
    by_cases w : j = m
    · rw [w, em] at c
      exact Or.inr c.symm
    · exact Or.inl ⟨u, j, a, by omega, by rw [← e j a (by omega)]; exact c⟩
  · intro y
    rcases y with ⟨u, j, a, b, c⟩ | y
    · exact ⟨u, j, a, by omega, by rw [e j a b]; exact c⟩
    · rw [y]
      exact ⟨p0, m, m0, by omega, em⟩
theorem Sf_eq {f g : Int → Int} {m : Int} (e : ∀ j, 0 ≤ j → j < m → g j = f j) : Sf g m = Sf f m := by
  funext p
  apply propext
  constructor
  · intro ⟨u, j, a, b, c⟩
    exact ⟨u, j, a, b, by rw [← e j a b]; exact c⟩
  · intro ⟨u, j, a, b, c⟩
    exact ⟨u, j, a, b, by rw [e j a b]; exact c⟩
theorem LX_eq {C : Int → Int → Prop} {f g : Int → Int} {k : Int} (h : LX P M C f k) (e : ∀ j, 0 ≤ j → j < k → g j = f j) : LX P M C g k := by
  intro m a b
  rw [Sf_eq (f := f) (fun j x y => e j x (by omega)), e m a b]
  exact h m a b
theorem m_fillAll {K : Int → qM → Prop} {day kn : Int} (hst : St sh pt) (rs : rsM h P A ao af at_ ak ks) (hM : h 78 7 = M) (M0 : 0 ≤ M) (M1 : M ≤ 20) (k : ∀ L h2, Fr PFa h h2 → isMx P 0 M (avS (canP ao af at_ ak ks A day kn) (Sf (h2 129) 0)) L → LX P M (canP ao af at_ ak ks A day kn) (h2 129) M → (∀ j, 0 ≤ j → j < M → h2 129 j = -1 ∨ (0 ≤ h2 129 j ∧ h2 129 j < P)) → 0 ≤ L → L ≤ 16 → K L h2) : RunI X (d + 20) mX11_fillAll [(2, 78), (0, day), (0, kn)] sh pt h K := by
  obtain ⟨r1, r2, r3, r4⟩ := id rs
  refine b_X11_fillAll (d := d + 19) hst ?_
  refine lp (σ := qM) (J := fun i h1 => Fr PFa h h1 ∧ ∀ p, 0 ≤ p → p < i → h1 132 p = 0 ∧ (h1 131 p ≠ 0 ↔ ¬ gon ao af at_ ak A day kn p)) (C := fun i h1 => EvI X (d + 20) mX11_fillAll 2 [(2, 78), (0, day), (0, kn), (0, i), (8, -1), (8, -1), (8, -1)] [] sh pt h1 K) (n := P) r1.2.1 ?_ ?_ h ⟨Fr.rf, fun p a b => absurd a (by omega)⟩
  · intro i h1 i0 i1 ⟨f1, j1⟩ kk
    have e1 := rsM_fr rs f1
    refine b_X11_fillAll_2 hst ⟨fun q => absurd q (by rw [e1.1.1]; omega), fun _ => ⟨by omega, fun h2 e2 => ⟨by omega, fun h3 e3 => ?_⟩⟩⟩
    have f3 : Fr PFa h h3 := by rw [e3, e2]; exact (f1.up (by unfold PFa; omega)).up (by unfold PFa; omega)
    refine lp (σ := qM) (J := fun a h4 => Fr PFa h h4 ∧ (∀ p, 0 ≤ p → p < i → h4 132 p = 0 ∧ (h4 131 p ≠ 0 ↔ ¬ gon ao af at_ ak A day kn p)) ∧ h4 132 i = 0 ∧ (h4 131 i ≠ 0 ↔ ¬ gon ao af at_ ak a day kn i)) (C := fun a h4 => EvI X (d + 20) mX11_fillAll 27 [(2, 78), (0, day), (0, kn), (0, i), (0, a), (8, -1), (8, -1)] [] sh pt h4 K) (n := A) r2.2.1 ?_ ?_ h3 ?_
    · intro a h4 a0 a1 ⟨f4, l1, l2, l3⟩ kk2
      have e4 := rsM_fr rs f4
      have w := e4.2.2.2 a a0 a1
      have nxt : ¬ (ao a = i ∧ ak a ≤ kn ∧ af a ≤ day ∧ day ≤ at_ a) → qI (a + 1) ∧ EvI X (d + 20) mX11_fillAll 27 [(2, 78), (0, day), (0, kn), (0, i), (0, a + 1), (8, -1), (8, -1)] [] sh pt h4 K := fun q => ⟨⟨by omega, by omega⟩, kk2 h4 ⟨f4, l1, l2, l3.trans ⟨fun y ⟨z, x1, x2, x3⟩ => by
        by_cases e : z = a
        · rw [e] at x3; exact q x3
        · exact y ⟨z, x1, by omega, x3⟩, fun y ⟨z, x1, x2, x3⟩ => y ⟨z, x1, by omega, x3⟩⟩⟩⟩
      refine b_X11_fillAll_27 hst ⟨fun q => absurd q (by rw [e4.2.1.1]; omega), fun _ => ⟨by omega, ?_⟩⟩
      rw [w.1, w.2.1, w.2.2.1, w.2.2.2]
      refine ⟨fun q => nxt (fun z => q z.1), fun q => ⟨by omega, fun q2 => nxt (fun z => by omega), fun q2 => ⟨by omega, by omega, b_X11_isIn hst ⟨fun q3 => ⟨fun _ => nxt (fun z => by omega), fun z => absurd rfl z⟩, fun q3 => ⟨fun q4 => ⟨fun _ => nxt (fun z => by omega), fun z => absurd rfl z⟩, fun q4 => ⟨fun z => absurd z (by decide), fun _ => ⟨by omega, fun h5 e5 => ⟨⟨by omega, by omega⟩, kk2 h5 ⟨by rw [e5]; exact f4.up (by unfold PFa; omega), fun p x y => ?_, by rw [e5, qup_of (by omega)]; exact l2, ?_⟩⟩⟩⟩⟩⟩⟩⟩⟩
      · rw [e5, qup_of (by omega), qup_of (by omega)]; exact l1 p x y
      · rw [e5, qup_at]
        exact ⟨fun z => absurd rfl z, fun z => absurd ⟨a, a0, by omega, q, q2, q3, q4⟩ z⟩
    · intro h4 ⟨f4, l1, l2, l3⟩
      have e4 := rsM_fr rs f4
      refine b_X11_fillAll_27 hst ⟨fun _ => ⟨⟨by omega, by omega⟩, kk h4 ⟨f4, fun p x y => ?_⟩⟩, fun q => absurd q (by rw [e4.2.1.1]; omega)⟩
      by_cases e : p = i
      · rw [e]; exact ⟨l2, l3⟩
      · exact l1 p x (by omega)
    · refine ⟨f3, fun p x y => ?_, by rw [e3, qup_at], ?_⟩
      · rw [e3, e2, qup_of (by omega), qup_of (by omega), qup_of (by omega), qup_of (by omega)]; exact j1 p x y
      · rw [e3, e2, qup_of (by omega), qup_at]
        exact ⟨fun _ ⟨z, x1, x2, x3⟩ => absurd x2 (by omega), fun _ => by decide⟩
  · intro h1 ⟨f1, j1⟩
    have e1 := rsM_fr rs f1
    generalize eC : canP ao af at_ ak ks A day kn = C at *
    have amk : ∀ (h2 : qM) (S : Int → Prop), Fr PFa h h2 → (∀ p, 0 ≤ p → p < P → (h2 131 p ≠ 0 ↔ ¬ gon ao af at_ ak A day kn p) ∧ (h2 132 p ≠ 0 ↔ S p)) → avM h2 P M (avS C S) := fun h2 S f2 g => by
      have e2 := rsM_fr rs f2
      refine ⟨e2.1.1, e2.1.2, ⟨M0, M1⟩, fun p a b => by rw [(e2.2.2.1 p a b).1]; exact (e2.2.2.1 p a b).2, fun j p a b c e => ?_⟩
      have w := g p c e
      rw [(e2.2.2.1 p c e).1, ← eC]
      constructor
      · intro ⟨⟨x, y⟩, z⟩
        exact ⟨w.1.mpr x, Classical.byContradiction (fun q => z (w.2.mp q)), y⟩
      · intro ⟨x, y, z⟩
        exact ⟨⟨w.1.mp x, z⟩, fun q => w.2.mpr q y⟩
    have am1 : avM h1 P M (avS C (fun _ => False)) := amk h1 _ f1 (fun p a b => ⟨(j1 p a b).2, ⟨fun q => absurd (j1 p a b).1 q, fun q => absurd q id⟩⟩)
    have hM1 : ∀ h2, Fr PFa h h2 → h2 78 7 = M := fun h2 f2 => by rw [f2 _ _ (by unfold PFa; omega)]; exact hM
    have S0 : ∀ f, Sf f 0 = fun _ => False := fun f => by
      funext p
      apply propext
      exact ⟨fun ⟨_, j, a, b, _⟩ => absurd a (by omega), fun q => absurd q id⟩
    refine b_X11_fillAll_2 hst ⟨fun _ => m_mostFrom (d := d) hst am1 (hM1 h1 f1) (by decide) M0 (fun L h2 f2 mx L0 L1 => ?_), fun q => absurd q (by rw [e1.1.1]; omega)⟩
    have f2' : Fr PFa h h2 := f1.tr (f2.wk (fun a i q => by unfold PFi at q; unfold PFa; omega))
    have r12 : ∀ p, h2 131 p = h1 131 p ∧ h2 132 p = h1 132 p := fun p => ⟨f2 _ _ (by unfold PFi; omega), f2 _ _ (by unfold PFi; omega)⟩
    refine lp (σ := Int × qM) (J := fun m s => Fr PFa h s.2 ∧ (0 ≤ s.1 ∧ s.1 ≤ 16) ∧ isMx P m M (avS C (Sf (s.2 129) m)) s.1 ∧ LX P M C (s.2 129) m ∧ (∀ j, 0 ≤ j → j < m → s.2 129 j = -1 ∨ (0 ≤ s.2 129 j ∧ s.2 129 j < P)) ∧ ∀ p, 0 ≤ p → p < P → (s.2 131 p ≠ 0 ↔ ¬ gon ao af at_ ak A day kn p) ∧ (s.2 132 p ≠ 0 ↔ Sf (s.2 129) m p)) (C := fun m s => EvI X (d + 20) mX11_fillAll 113 [(2, 78), (8, -1), (8, -1), (0, L), (0, s.1), (0, m), (8, -1)] [] sh pt s.2 K) (n := M) M0 ?_ ?_ (L, h2) ?_
    · intro m ⟨lf, h3⟩ m0 m1 ⟨f3, l0, l1, l2, l3, l4⟩ kk
      dsimp only at f3 l0 l1 l2 l3 l4 ⊢
      refine b_X11_fillAll_113 hst ⟨fun q => absurd q (by rw [hM1 h3 f3]; omega), fun _ => ⟨by omega, fun h4 e4 => ?_⟩⟩
      have f4 : Fr PFa h h4 := by rw [e4]; exact f3.up (by unfold PFa; omega)
      have g4 : ∀ j, 0 ≤ j → j < m → h4 129 j = h3 129 j := fun j a b => by rw [e4, qup_of (by omega)]
      have s4 : Sf (h4 129) m = Sf (h3 129) m := Sf_eq g4
      generalize eS : Sf (h3 129) m = S at *
      have toN : ∀ h5 : qM, Fr PFa h h5 → (∀ j, 0 ≤ j → j < m → h5 129 j = h3 129 j) → h5 129 m = -1 → (∀ p, ¬ okP P M C S m lf p) → (∀ p, 0 ≤ p → p < P → (h5 131 p ≠ 0 ↔ ¬ gon ao af at_ ak A day kn p) ∧ (h5 132 p ≠ 0 ↔ S p)) → EvI X (d + 20) mX11_fillAll 239 [(2, 78), (8, -1), (8, -1), (0, L), (0, lf), (0, m), (8, -1)] [] sh pt h5 K := fun h5 f5 g5 g6 no g7 => by
        refine b_X11_fillAll_239 hst ⟨by omega, fun q => ⟨⟨by omega, by omega⟩, ⟨by omega, by omega⟩, ?_⟩, fun q => absurd q (by omega)⟩
        have es : Sf (h5 129) (m + 1) = S := by rw [Sf_no m0 g5 g6]; exact eS
        have z := kk (lf, h5) ⟨f5, l0, by dsimp only; rw [es]; exact none_nx m0 m1 l1 no, fun j a b => ?_, fun j a b => ?_, by dsimp only; rw [es]; exact g7⟩
        · rw [Int.sub_zero]
          exact z
        · by_cases e : j = m
          · rw [e]
            refine ⟨lf, ?_, Or.inl ⟨g6, ?_⟩⟩
            · rw [Sf_eq g5, eS]; exact l1
            · rw [Sf_eq g5, eS]; exact no
          · exact LX_eq l2 g5 j a (by omega)
        · by_cases e : j = m
          · rw [e]; exact Or.inl g6
          · dsimp only; rw [g5 j a (by omega)]; exact l3 j a (by omega)
      refine lp (σ := qM) (J := fun p h5 => Fr PFa h h5 ∧ (∀ j, 0 ≤ j → j < m → h5 129 j = h3 129 j) ∧ h5 129 m = -1 ∧ (∀ q, 0 ≤ q → q < p → ¬ okP P M C S m lf q) ∧ ∀ q, 0 ≤ q → q < P → (h5 131 q ≠ 0 ↔ ¬ gon ao af at_ ak A day kn q) ∧ (h5 132 q ≠ 0 ↔ S q)) (C := fun p h5 => EvI X (d + 20) mX11_fillAll 133 [(2, 78), (8, -1), (8, -1), (0, L), (0, lf), (0, m), (0, p)] [] sh pt h5 K) (n := P) r1.2.1 ?_ ?_ h4 ?_
      · intro p h5 p0 p1 ⟨f5, g5, g6, no, g7⟩ kk2
        have e5 := rsM_fr rs f5
        have w := g7 p p0 p1
        have kp := e5.2.2.1 p p0 p1
        have bit := q_bitS (s := ks p) (m := m) kp.2.1 kp.2.2 m0 (by omega)
        have skip : ∀ h6 : qM, Fr PFa h h6 → (∀ j, 0 ≤ j → j < m → h6 129 j = h3 129 j) → h6 129 m = -1 → (∀ q, 0 ≤ q → q < P → (h6 131 q ≠ 0 ↔ ¬ gon ao af at_ ak A day kn q) ∧ (h6 132 q ≠ 0 ↔ S q)) → ¬ okP P M C S m lf p → qI (p + 1) ∧ EvI X (d + 20) mX11_fillAll 133 [(2, 78), (8, -1), (8, -1), (0, L), (0, lf), (0, m), (0, p + 1)] [] sh pt h6 K := fun h6 f6 x1 x2 x3 nk => ⟨⟨by omega, by omega⟩, kk2 h6 ⟨f6, x1, x2, fun q a b => by
          by_cases e : q = p
          · rw [e]; exact nk
          · exact no q a (by omega), x3⟩⟩
        have sk5 := skip h5 f5 g5 g6 g7
        refine b_X11_fillAll_133 hst ⟨fun q => absurd q (by rw [e5.1.1]; omega), fun _ => ⟨by omega, fun q => absurd q (by omega), fun _ => ⟨by omega, ?_⟩⟩⟩
        rw [kp.1]
        refine ⟨fun q => sk5 (fun z => by have := z.2.1; rw [← eC] at this; exact absurd (w.1.mpr this.1) (fun y => y q)), fun q => ⟨by omega, fun q2 => sk5 (fun z => z.2.2.1 (w.2.mp q2)), fun q2 => ⟨by omega, fun q3 => ⟨by omega, fun h6 e6 => ⟨⟨by omega, by omega⟩, ?_⟩⟩, fun q3 => sk5 (fun z => ?_)⟩⟩⟩
        · have f6 : Fr PFa h h6 := by rw [e6]; exact f5.up (by unfold PFa; omega)
          have ns : ¬ S p := fun z => w.2.mpr z q2
          have tj : tb (ks p) m = true := by
            by_cases t : tb (ks p) m = true
            · exact t
            · rw [bit, if_neg t] at q3
              exact absurd rfl q3
          have cp : C m p := by rw [← eC]; exact ⟨w.1.mp q, tj⟩
          have am6 : avM h6 P M (avS C (fun q => S q ∨ q = p)) := amk h6 _ f6 (fun r a b => by
            by_cases e : r = p
            · rw [e, e6, qup_of (by omega), qup_at]
              exact ⟨w.1, fun _ => Or.inr rfl, fun _ => by decide⟩
            · rw [e6, qup_of (by omega), qup_of (by omega)]
              refine ⟨(g7 r a b).1, (g7 r a b).2.trans ⟨Or.inl, fun y => ?_⟩⟩
              rcases y with y | y
              · exact y
              · exact absurd y e)
          refine m_mostFrom (d := d) hst am6 (hM1 h6 f6) (by omega) (by omega) (fun L2 h7 f7 mx2 L20 L21 => ?_)
          have f7' : Fr PFa h h7 := f6.tr (f7.wk (fun a i q => by unfold PFi at q; unfold PFa; omega))
          have u7 : ∀ a i, a = 129 ∨ a = 131 ∨ a = 132 → h7 a i = h6 a i := fun a i q => f7 _ _ (by unfold PFi; omega)
          refine ⟨⟨by omega, by omega⟩, fun q4 => ⟨by omega, fun h8 e8 => ?_⟩, fun q4 => ⟨by omega, fun h8 e8 => ⟨⟨by omega, by omega⟩, ?_⟩⟩⟩
          · refine skip h8 (by rw [e8]; exact f7'.up (by unfold PFa; omega)) (fun j a b => ?_) ?_ (fun r a b => ?_) (fun z => q4 (mx_uq mx2 z.2.2.2))
            · rw [e8, qup_of (by omega), u7 _ _ (by omega), e6, qup_of (by omega)]; exact g5 j a b
            · rw [e8, qup_of (by omega), u7 _ _ (by omega), e6, qup_of (by omega)]; exact g6
            · by_cases e : r = p
              · rw [e, e8, qup_of (by omega), qup_at, u7 _ _ (by omega), e6, qup_of (by omega)]
                exact ⟨w.1, fun z => absurd rfl z, fun z => absurd z ns⟩
              · rw [e8, qup_of (by omega), qup_of (by omega), u7 _ _ (by omega), u7 _ _ (by omega), e6, qup_of (by omega), qup_of (by omega)]
                exact g7 r a b
          · have f8 : Fr PFa h h8 := by rw [e8]; exact f7'.up (by unfold PFa; omega)
            have g8 : ∀ j, 0 ≤ j → j < m → h8 129 j = h3 129 j := fun j a b => by rw [e8, qup_of (by omega), u7 _ _ (by omega), e6, qup_of (by omega)]; exact g5 j a b
            have g9 : h8 129 m = p := by rw [e8, qup_at]
            have okp : okP P M C S m lf p := ⟨⟨p0, p1⟩, cp, ns, by rw [← q4]; exact mx2⟩
            have es : Sf (h8 129) (m + 1) = fun q => S q ∨ q = p := by rw [Sf_yes m0 p0 g8 g9, eS]
            have e9 := rsM_fr rs f8
            have go : EvI X (d + 20) mX11_fillAll 239 [(2, 78), (8, -1), (8, -1), (0, L), (0, lf), (0, m), (8, -1)] [] sh pt h8 K := by
              have lf1 : 1 ≤ lf := by omega
              refine b_X11_fillAll_239 hst ⟨by omega, fun q => absurd q (by rw [g9]; omega), fun q => ⟨⟨by omega, by omega⟩, ⟨by omega, by omega⟩, kk (lf - 1, h8) ⟨f8, by dsimp only; omega, by dsimp only; rw [es]; exact okp.2.2.2, fun j a b => ?_, fun j a b => ?_, fun r a b => ?_⟩⟩⟩
              · by_cases e : j = m
                · rw [e]
                  dsimp only
                  refine ⟨lf, ?_, Or.inr ?_⟩
                  · rw [Sf_eq g8, eS]; exact l1
                  · rw [Sf_eq g8, eS, g9]
                    exact ⟨okp, fun r rp => by
                      by_cases r0 : 0 ≤ r
                      · exact no r r0 rp
                      · exact fun z => r0 z.1.1⟩
                · exact LX_eq l2 g8 j a (by omega)
              · by_cases e : j = m
                · rw [e]; dsimp only; rw [g9]; exact Or.inr ⟨p0, p1⟩
                · dsimp only; rw [g8 j a (by omega)]; exact l3 j a (by omega)
              · dsimp only
                rw [es]
                rw [e8, qup_of (by omega), qup_of (by omega), u7 _ _ (by omega), u7 _ _ (by omega)]
                by_cases e : r = p
                · rw [e, e6, qup_of (by omega), qup_at]
                  exact ⟨w.1, fun _ => Or.inr rfl, fun _ => by decide⟩
                · rw [e6, qup_of (by omega), qup_of (by omega)]
                  refine ⟨(g7 r a b).1, (g7 r a b).2.trans ⟨Or.inl, fun y => ?_⟩⟩
                  rcases y with y | y
                  · exact y
                  · exact absurd y e
            exact b_X11_fillAll_133 hst ⟨fun _ => go, fun _ => ⟨by omega, fun _ => go, fun q => absurd q (by rw [g9]; omega)⟩⟩
        · have := z.2.1
          rw [← eC] at this
          rw [bit, if_pos this.2] at q3
          exact absurd q3 (by decide)
      · intro h5 ⟨f5, g5, g6, no, g7⟩
        have e5 := rsM_fr rs f5
        exact b_X11_fillAll_133 hst ⟨fun _ => toN h5 f5 g5 g6 (fun p z => no p z.1.1 z.1.2 z) g7, fun q => absurd q (by rw [e5.1.1]; omega)⟩
      · refine ⟨f4, g4, by rw [e4, qup_at], fun q a b => absurd a (by omega), fun q a b => ?_⟩
        rw [e4, qup_of (by omega), qup_of (by omega)]
        exact l4 q a b
    · intro ⟨lf, h3⟩ ⟨f3, l0, l1, l2, l3, l4⟩
      dsimp only at f3 l0 l1 l2 l3 l4 ⊢
      refine b_X11_fillAll_113 hst ⟨fun _ => k L h3 f3 (by rw [S0]; exact mx) l2 l3 L0 L1, fun q => absurd q (by rw [hM1 h3 f3]; omega)⟩
    · refine ⟨f2', ⟨L0, L1⟩, by dsimp only; rw [S0]; exact mx, fun j a b => absurd a (by omega), fun j a b => absurd a (by omega), fun p a b => ?_⟩
      dsimp only
      rw [S0, (r12 p).1, (r12 p).2]
      exact ⟨(j1 p a b).2, ⟨fun q => absurd (j1 p a b).1 q, fun q => absurd q id⟩⟩
end
