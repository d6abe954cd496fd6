/-! a RUN of the class: all lines -/
def XTw (c a : Int) : Prop := (12 ≤ a ∧ a ≤ 18) ∨ a = c ∨ a = c + 1
def LCr (c M : Int) (hb : qM) (mx : Int) (S h : qM) : Prop := Fr (fun a _ => XTw c a) hb h ∧ SBc c h ∧ h 12 0 = S 78 67 ∧ h c 4 = M ∧ (¬ S 78 67 = 0 → h 12 1 = S 78 68) ∧ (S 78 67 = 0 → h 12 1 = -1 ∧ h c 5 = mx ∧ h c 6 = S 78 66 ∧ ∀ m, 0 ≤ m → m < M → (0 ≤ h 16 m ∧ h 16 m ≤ mx) ∧ (∀ t', 0 ≤ t' → t' ≤ h 16 m → CGr c S h (20 * t' + m)) ∧ (∀ a t', 109 ≤ a → a ≤ 111 → h 16 m ≤ t' → t' ≤ 150 → S a (20 * t' + m) = S a (20 * h 16 m + m)))
/-- the text of the class and of the reference -/
def TXc (t : Int) (S h : qM) : Prop := h t 9 = S 78 30 ∧ S 90 0 = 0 ∧ ∀ l, 0 ≤ l → l < S 78 30 → h (t + 7) l = S 90 (l + 1) ∧ S 90 l ≤ S 90 (l + 1) ∧ (0 ≤ h (t + 8) l ∧ h (t + 8) l ≤ 1048575) ∧ (∀ m, 0 ≤ m → (tb (h (t + 8) l) m = true ↔ inB S l m)) ∧ ∀ o, 0 ≤ o → o < S 90 (l + 1) → TXr t S h o
section
variable {X : qX} {d : Nat} {sh : qS} {pt Sb S0 S h hb h0 : qM} {K : qM → Prop} {W c o t te fr M mx l : Int}
theorem x_stayBehind {N : Int} (hst : St sh pt) (hc : isC c) (M0 : 0 ≤ M ∧ M ≤ 20) (m0 : 0 ≤ mx ∧ mx ≤ 150) (h4 : h c 4 = M) (h5 : h c 5 = mx) (sb : SBc c h) (cg : ∀ m, 0 ≤ m → m < M → (0 ≤ h 16 m ∧ h 16 m ≤ mx) ∧ (∀ t', 0 ≤ t' → t' ≤ h 16 m → CGr c S h (20 * t' + m)) ∧ (∀ a t', 109 ≤ a → a ≤ 111 → h 16 m ≤ t' → t' ≤ 150 → S a (20 * t' + m) = S a (20 * h 16 m + m))) (k : ∀ h1, Fr (fun a _ => a = c + 1) h h1 → SBc c h1 → (∀ m t', 0 ≤ m → m < M → 0 ≤ t' → t' ≤ mx → CGr c S h1 (20 * t' + m)) → K h1) : RunV X (d + 1) mX1_stayBehind [(2, 12), (2, c)] sh pt h K := by
  have cn : c ≠ 11 ∧ c ≠ 12 ∧ 60 ≤ c ∧ c ≤ 70 := by rcases hc with e | e <;> omega
  refine b_X1_stayBehind hst hc ?_
  refine lp (σ := qM) (i := 0) (n := M) (J := fun m u => Fr (fun a _ => a = c + 1) h u ∧ SBc c u ∧ (∀ m' t', 0 ≤ m' → m' < M → 0 ≤ t' → (t' ≤ h 16 m' ∨ (m' < m ∧ t' ≤ mx)) → CGr c S u (20 * t' + m'))) (C := fun m u => EvV X (d + 1) mX1_stayBehind 2 [(2, 12), (2, c), (0, m), (8, -1)] [] sh pt u K) M0.1 ?_ ?_ h ⟨Fr.rf, sb, fun m' t' a b a2 q => (cg m' a b).2.1 t' a2 (by omega)⟩
  · intro m u m0' m1 ⟨f, s, g⟩ ih
    have u4 : u c 4 = M := (f _ _ (by omega)).trans h4
    have u5 : u c 5 = mx := (f _ _ (by omega)).trans h5
    have u16 : u 16 m = h 16 m := f _ _ (by omega)
    have cm := cg m m0' m1
    refine b_X1_stayBehind_2 hst hc ?_
    rw [u4, u16]
    refine ⟨fun z => absurd z (by omega), fun _ => ⟨⟨by omega, by omega⟩, ⟨by omega, by omega⟩, ?_⟩⟩
    refine lp (σ := qM) (i := h 16 m + 1) (n := mx + 1) (J := fun j v => Fr (fun a _ => a = c + 1) h v ∧ SBc c v ∧ (∀ m' t', 0 ≤ m' → m' < M → 0 ≤ t' → (t' ≤ h 16 m' ∨ (m' < m ∧ t' ≤ mx) ∨ (m' = m ∧ t' < j)) → CGr c S v (20 * t' + m'))) (C := fun j v => EvV X (d + 1) mX1_stayBehind 19 [(2, 12), (2, c), (0, m), (0, j)] [] sh pt v K) (by omega) ?_ ?_ u ⟨f, s, fun m' t' a b a2 q => g m' t' a b a2 (by
      rcases q with q | q | q
      · exact Or.inl q
      · exact Or.inr q
      · rw [q.1]; exact Or.inl (by omega))⟩
    · intro j v j0 j1 ⟨f2, s2, g2⟩ ih2
      have v5 : v c 5 = mx := (f2 _ _ (by omega)).trans h5
      have v16 : v 16 m = h 16 m := f2 _ _ (by omega)
      have base := g2 m (h 16 m) m0' m1 (by omega) (Or.inl (by omega))
      refine b_X1_stayBehind_19 hst hc ?_
      rw [v5, v16]
      refine ⟨fun z => absurd z (by omega), fun _ => ⟨⟨by omega, by omega⟩, x_copy hst hc (by omega) (by omega) (by omega) (by omega) ⟨⟨by omega, by omega⟩, ?_⟩⟩⟩
      have key : ∀ v1, v1 = qup v (c + 1) (20 * j + m) (v (c + 1) (20 * h 16 m + m)) → EvV X (d + 1) mX1_stayBehind 19 [(2, 12), (2, c), (0, m), (0, j + 1)] [] sh pt v1 K := by
        intro v1 d1
        refine ih2 v1 ⟨by rw [d1]; exact Fr.up f2 rfl, fun x a b => ?_, fun m' t' a b a2 q => ?_⟩
        · by_cases z : x = 20 * j + m
          · rw [d1, z, qup_at]
            exact s2 _ (by omega) (by omega)
          · rw [d1, qup_of (by omega)]; exact s2 x a b
        · by_cases z : 20 * t' + m' = 20 * j + m
          · have e1 := cm.2.2 109 j (by decide) (by decide) (by omega) (by omega)
            have e2 := cm.2.2 110 j (by decide) (by decide) (by omega) (by omega)
            have e3 := cm.2.2 111 j (by decide) (by decide) (by omega) (by omega)
            unfold CGr gnd at base ⊢
            rw [z, e1, e2, e3, d1, qup_at]
            exact base
          · have y := g2 m' t' a b a2 (by
              rcases q with q | q | q
              · exact Or.inl q
              · exact Or.inr (Or.inl q)
              · exact Or.inr (Or.inr ⟨q.1, by omega⟩))
            unfold CGr at y ⊢
            rw [d1, qup_of (by omega)]
            exact y
      exact key _ rfl
    · intro v ⟨f2, s2, g2⟩
      have v5 : v c 5 = mx := (f2 _ _ (by omega)).trans h5
      refine b_X1_stayBehind_19 hst hc ?_
      rw [v5]
      refine ⟨fun _ => ⟨⟨by omega, by omega⟩, ih v ⟨f2, s2, fun m' t' a b a2 q => g2 m' t' a b a2 ?_⟩⟩, fun z => absurd z (by omega)⟩
      rcases q with q | q
      · exact Or.inl q
      · by_cases z : m' = m
        · exact Or.inr (Or.inr ⟨z, by omega⟩)
        · exact Or.inr (Or.inl ⟨by omega, q.2⟩)
  · intro u ⟨f, s, g⟩
    have u4 : u c 4 = M := (f _ _ (by omega)).trans h4
    refine b_X1_stayBehind_2 hst hc ?_
    rw [u4]
    exact ⟨fun _ => k u f s (fun m t' a b a2 b2 => g m t' a b a2 (Or.inr ⟨b, b2⟩)), fun z => absurd z (by omega)⟩
theorem x_begin (hst : St sh pt) (hc : isC c) (hM : h 2 3 = M) (M0 : 0 ≤ M ∧ M ≤ 20) (sb : SBc c h) (bg : ∀ m, 0 ≤ m → m < M → (0 ≤ h 3 m ∧ h 3 m < 60) ∧ (0 ≤ h 4 m ∧ h 4 m < 40) ∧ (0 ≤ h 5 m ∧ h 5 m < 8)) (k : ∀ h1, Fr (fun a x => (a = c ∧ 3 ≤ x ∧ x ≤ 6) ∨ a = c + 1) h h1 → SBc c h1 → h1 c 4 = M → h1 c 5 = 0 → h1 c 6 = 0 → (∀ m, 0 ≤ m → m < M → h1 (c + 1) m = 8 * (40 * h 3 m + h 4 m) + h 5 m) → K h1) : RunV X (d + 2) mX0_begin [(2, c), (2, 2)] sh pt h K := by
  have cn : c ≠ 11 ∧ c ≠ 12 ∧ 60 ≤ c ∧ c ≤ 70 := by rcases hc with e | e <;> omega
  refine b_X0_begin hst hc (fun h1 d1 h2 d2 h3 d3 h4 d4 => ?_)
  have e4 : h4 c 4 = M := by rw [d4, qup_at, d3, qup_of (by omega), d2, qup_of (by omega), d1, qup_of (by omega)]; exact hM
  have e5 : h4 c 5 = 0 := by rw [d4, qup_of (by omega), d3, qup_of (by omega), d2, qup_at]
  have e6 : h4 c 6 = 0 := by rw [d4, qup_of (by omega), d3, qup_at]
  have f4 : Fr (fun a x => (a = c ∧ 3 ≤ x ∧ x ≤ 6) ∨ a = c + 1) h h4 := by
    rw [d4, d3, d2, d1]
    exact Fr.up (Fr.up (Fr.up (Fr.up Fr.rf (by omega)) (by omega)) (by omega)) (by omega)
  have c4 : ∀ x, h4 (c + 1) x = h (c + 1) x := fun x => by rw [d4, qup_of (by omega), d3, qup_of (by omega), d2, qup_of (by omega), d1, qup_of (by omega)]
  clear d1 d2 d3 d4
  refine lp (σ := qM) (i := 0) (n := M) (J := fun m u => Fr (fun a x => (a = c ∧ 3 ≤ x ∧ x ≤ 6) ∨ a = c + 1) h u ∧ SBc c u ∧ u c 4 = M ∧ u c 5 = 0 ∧ u c 6 = 0 ∧ ∀ m', 0 ≤ m' → m' < m → u (c + 1) m' = 8 * (40 * h 3 m' + h 4 m') + h 5 m') (C := fun m u => EvV X (d + 2) mX0_begin 25 [(2, c), (2, 2), (0, m)] [] sh pt u K) M0.1 ?_ ?_ h4 ⟨f4, fun x a b => by rw [c4]; exact sb x a b, e4, e5, e6, fun _ _ _ => by omega⟩
  · intro m u m0 m1 ⟨f, s, u4, u5, u6, g⟩ ih
    have b := bg m m0 m1
    have u3 : u 3 m = h 3 m := f _ _ (by omega)
    have u4' : u 4 m = h 4 m := f _ _ (by omega)
    have u5' : u 5 m = h 5 m := f _ _ (by omega)
    refine b_X0_begin_25 hst hc ?_
    rw [u4, u3, u4', u5']
    refine ⟨fun z => absurd z (by omega), fun _ => ⟨⟨by omega, by omega⟩, ⟨by omega, by omega⟩, ⟨by omega, by omega⟩, x_put hst hc (by decide) (by omega) b.2.2 (fun _ => ⟨⟨by omega, by omega⟩, ?_⟩) (fun z => absurd ⟨b.1, b.2.1⟩ z)⟩⟩
    have key : ∀ u1, u1 = qup u (c + 1) (20 * 0 + m) (8 * (40 * h 3 m + h 4 m) + h 5 m) → EvV X (d + 2) mX0_begin 25 [(2, c), (2, 2), (0, m + 1)] [] sh pt u1 K := by
      intro u1 d1
      rw [show 20 * 0 + m = m by omega] at d1
      refine ih u1 ⟨by rw [d1]; exact Fr.up f (by omega), fun x a b' => ?_, by rw [d1, qup_of (by omega)]; exact u4, by rw [d1, qup_of (by omega)]; exact u5, by rw [d1, qup_of (by omega)]; exact u6, fun m' a b' => ?_⟩
      · by_cases z : x = m
        · rw [d1, z, qup_at]; omega
        · rw [d1, qup_of (by omega)]; exact s x a b'
      · by_cases z : m' = m
        · rw [d1, z, qup_at]
        · rw [d1, qup_of (by omega)]; exact g m' a (by omega)
    exact key _ rfl
  · intro u ⟨f, s, u4, u5, u6, g⟩
    refine b_X0_begin_25 hst hc ?_
    rw [u4]
    exact ⟨fun _ => k u f s u4 u5 u6 g, fun z => absurd z (by omega)⟩
/-- one line -/
theorem x_line {u : qM} (hst : St sh pt) (ht : isT t) (hc : isC c) (xb : TXo Sb) (tc : TXc t Sb hb) (eM : M = Sb 78 7) (v : LIv Sb l mx S) (e0 : S 78 67 = 0) (l0 : 0 ≤ l) (l1 : l < Sb 78 30) (lc : LCr c M hb mx S h) (k : ∀ h1, LCr c M hb (max mx (lin1 l S 78 63)) (linF l S) h1 → EvV X (d + 7) mX1_stepThrough 26 [(2, 12), (2, t), (8, -1), (2, c), (0, l + 1), (8, -1)] [] sh pt h1 K) : EvV X (d + 7) mX1_stepThrough 26 [(2, 12), (2, t), (8, -1), (2, c), (0, l), (8, -1)] [] sh pt h K := by
  have cn : c ≠ 11 ∧ c ≠ 12 ∧ 60 ≤ c ∧ c ≤ 70 := by rcases hc with e | e <;> omega
  have tn : 40 ≤ t ∧ t ≤ 53 := by rcases ht with e | e <;> omega
  have tcc : ∀ j, 0 ≤ j → j ≤ 8 → t + j ≠ c ∧ t + j ≠ c + 1 := fun j _ _ => by rcases ht with e | e <;> rcases hc with e2 | e2 <;> omega
  have x : TXo S := TXo_fr xb v.1
  have e30 : S 78 30 = Sb 78 30 := v.1 _ _ (by unfold PLn; omega)
  have e7 : S 78 7 = Sb 78 7 := v.1 _ _ (by unfold PLn; omega)
  have sR : ∀ a y, a < 109 → ¬ a = 78 → S a y = Sb a y := fun a y q q2 => v.1 a y (by unfold PLn; omega)
  obtain ⟨tc1, tc2, tc3⟩ := tc
  obtain ⟨y7, yle, y8, yb, yo⟩ := tc3 l l0 l1
  obtain ⟨f, sb, h00, h4, _, hz⟩ := lc
  obtain ⟨z1, z5, z6, zm⟩ := hz e0
  rw [e0] at h00
  have M1 := x.1
  have L1 := xb.2.1
  have hT : ∀ {h1 : qM}, Fr (fun a _ => XTw c a) hb h1 → ∀ j y, 0 ≤ j → j ≤ 8 → h1 (t + j) y = hb (t + j) y := fun {h1} f1 j y p q => by
    have := tcc j p q
    exact f1 _ _ (by unfold XTw; omega)
  have h9 : h t 9 = Sb 78 30 := by
    have := hT f 0 9 (by decide) (by decide)
    rw [show t + 0 = t by omega] at this
    rw [this]; exact tc1
  obtain ⟨k0, f0, ⟨q1, q2, q3, q4, q5⟩, g0, bd0⟩ := lin0_ok x v e0
  obtain ⟨k1, r1⟩ := lin1_ok x v e0 l0 (by omega)
  have e90 : S 90 l = Sb 90 l := sR 90 l (by decide) (by decide)
  have e91 : S 90 (l + 1) = Sb 90 (l + 1) := sR 90 _ (by decide) (by decide)
  have r3 := r1.2.2
  refine b_X1_stepThrough_26 hst ht hc ?_
  rw [h9, h4, hT f 8 l (by decide) (by decide)]
  refine ⟨fun z => absurd z (by omega), fun _ => ⟨fun z => absurd h00 z, fun _ => ⟨⟨by omega, by omega⟩, ?_⟩⟩⟩
  refine x_gather (P := inB S l) (S := S) hst ⟨y8.1, by omega⟩ (by omega) (fun m a b => by rw [yb m a, inB_fr v.1]) (fun h6 f6 bd6 => ?_)
  have f6b : Fr (fun a _ => XTw c a) hb h6 := Fr.tr f (Fr.wk f6 (fun a y q => by unfold XTw; omega))
  have bdl : bdR (lin0 l S) h6 := by
    rw [eM, ← e7] at bd6
    unfold lin0
    refine ⟨by rw [qup_of (by omega), qup_of (by omega), qup_of (by omega)]; exact bd6.1, fun i a b => ?_⟩
    rw [qup_of (by omega), qup_of (by omega), qup_of (by omega)] at b ⊢
    exact bd6.2 i a b
  have txl : ∀ o, 0 ≤ o → o < S 90 (l + 1) → TXr t (lin0 l S) h6 o := fun o a b => by
    have y := yo o a (by omega)
    have g : ∀ j, 1 ≤ j → j ≤ 8 → h6 (t + j) o = hb (t + j) o := fun j p q => hT f6b j o (by omega) q
    have r : ∀ a, a < 109 → ¬ a = 78 → lin0 l S a o = Sb a o := fun a p q => by
      rw [f0 a o (by unfold PLn; omega), sR a o p q]
    unfold TXr oK at y ⊢
    rw [g 1 (by decide) (by decide), g 2 (by decide) (by decide), g 3 (by decide) (by decide), g 4 (by decide) (by decide), g 5 (by decide) (by decide), g 6 (by decide) (by decide), r 94 (by decide) (by decide), r 95 (by decide) (by decide), r 96 (by decide) (by decide), r 97 (by decide) (by decide), r 98 (by decide) (by decide), r 99 (by decide) (by decide)]
    exact y
  have dol : ∀ r8, r8 = S 90 l → (0 ≤ l ∧ l < 8) ∧ RunV X (d + 6) mX1_doLine [(2, 12), (2, t), (2, c), (0, r8), (0, h6 (t + 7) l)] sh pt h6 (fun h10 => EvV X (d + 7) mX1_stepThrough 79 [(2, 12), (2, t), (8, -1), (2, c), (0, l), (0, 0)] [] sh pt h10 K) := by
    intro r8 er8
    rw [hT f6b 7 l (by decide) (by decide), y7, er8, ← e91]
    refine ⟨⟨l0, by omega⟩, ?_⟩
    refine x_doLine hst ht hc (W := 500 * l) (by omega) (by omega) k0 ⟨q1, q2, q3, q5⟩ r1 (by omega) bdl (fun x a b => by rw [f6 _ x (by omega)]; exact sb x a b) (by rw [f6 12 0 (by omega)]; exact h00) (by rw [f6 c 6 (by omega), q4]; exact z6) (fun i a b => ?_) txl (fun h10 f10 xo n1 n2 => ?_)
    · have mb := bd0 i a b
      have y := (zm (lin0 l S 112 i) mb.1 (by omega)).2.1 0 (by decide) (zm (lin0 l S 112 i) mb.1 (by omega)).1.1
      unfold CGr gnd at y ⊢
      rw [f6 _ _ (by omega), g0 109 _ (by decide) (by decide), g0 110 _ (by decide) (by decide), g0 111 _ (by decide) (by decide)]
      exact y
    · -- behind the line
      have eV : roF 3 (S 90 l) (S 90 (l + 1)) (lin0 l S) = lin1 l S := rfl
      rw [eV] at xo n1 n2
      have f10b : Fr (fun a _ => XTw c a) hb h10 := Fr.tr f6b (Fr.wk f10 (fun a y q => by
        rcases q with q | q | q | q | q | q | q <;> unfold XTw <;> omega))
      have bbV := k1.1.1
      have c1 := k1.1.2.1
      obtain ⟨s62, s112, sr, s7⟩ := SK_at k1
      have h10b := xo.1
      have n10 := xo.2.2.2.1
      have h16 : ∀ m, h10 16 m = h 16 m := fun m => by rw [f10 16 m (by unfold XLw; omega), f6 16 m (by omega)]
      have sz := bbV.1
      refine lp (σ := qM) (i := 0) (n := lin1 l S 78 62) (J := fun i u => Fr (fun a _ => a = 16) h10 u ∧ ∀ m, 0 ≤ m → m < 20 → ((∃ i', 0 ≤ i' ∧ i' < i ∧ lin1 l S 112 i' = m) → u 16 m = h10 12 10) ∧ ((¬ ∃ i', 0 ≤ i' ∧ i' < i ∧ lin1 l S 112 i' = m) → u 16 m = h10 16 m)) (C := fun i u => EvV X (d + 7) mX1_stepThrough 79 [(2, 12), (2, t), (8, -1), (2, c), (0, l), (0, i)] [] sh pt u K) sz.1 ?_ ?_ h10 ⟨Fr.rf, fun m _ _ => ⟨fun ⟨i', a, b, _⟩ => by omega, fun _ => rfl⟩⟩
      · intro i u i0 i1 ⟨fu, gu⟩ ih
        have u5 : u 12 5 = lin1 l S 78 62 := (fu _ _ (by omega)).trans h10b.1
        have u13 : u 13 i = lin1 l S 112 i := (fu _ _ (by omega)).trans (h10b.2 i i0 i1)
        have u10 : u 12 10 = h10 12 10 := fu _ _ (by omega)
        have mi := bbV.2 i i0 i1
        refine b_X1_stepThrough_79 hst ht hc ?_
        rw [u5, u13, u10]
        refine ⟨fun z => absurd z (by omega), fun _ => ⟨⟨by omega, by omega⟩, mi, fun h6' d6 => ⟨⟨by omega, by omega⟩, ih h6' ⟨by rw [d6]; exact Fr.up fu rfl, fun m a b => ⟨fun ⟨i', p0, p1, p2⟩ => ?_, fun z => ?_⟩⟩⟩⟩⟩
        · by_cases y : m = lin1 l S 112 i
          · rw [d6, y, qup_at]
          · rw [d6, qup_of (by omega)]
            refine (gu m a b).1 ⟨i', p0, ?_, p2⟩
            by_cases w : i' = i
            · rw [w] at p2; exact absurd p2.symm y
            · omega
        · have y : ¬ m = lin1 l S 112 i := fun y => z ⟨i, i0, by omega, y.symm⟩
          rw [d6, qup_of (by omega)]
          exact (gu m a b).2 (fun ⟨i', p0, p1, p2⟩ => z ⟨i', p0, by omega, p2⟩)
      · intro u ⟨fu, gu⟩
        have u5 : u 12 5 = lin1 l S 78 62 := (fu _ _ (by omega)).trans h10b.1
        have u10 : u 12 10 = h10 12 10 := fu _ _ (by omega)
        have uc5 : u c 5 = mx := by rw [fu c 5 (by omega), f10 c 5 (by unfold XLw; omega), f6 c 5 (by omega)]; exact z5
        refine b_X1_stepThrough_79 hst ht hc ?_
        rw [u5, uc5, u10]
        refine ⟨fun _ => x_max hst (fun h3 d3 => ⟨⟨by omega, by omega⟩, k h3 ?_⟩), fun z => absurd z (by omega)⟩
        have h3e : ∀ a y, ¬ (a = c ∧ y = 5) → ¬ a = 16 → h3 a y = h10 a y := fun a y p q => by rw [d3, qup_of p, fu a y q]
        have h3c : h3 c 5 = max mx (h10 12 10) := by rw [d3, qup_at]
        have h316 : ∀ m, h3 16 m = u 16 m := fun m => by rw [d3, qup_of (by omega)]
        have f3 : Fr (fun a _ => XTw c a) hb h3 := fun a y q => by
          unfold XTw at q
          rw [h3e a y (by omega) (by omega)]
          exact f10b a y (by unfold XTw; exact q)
        have sb3 : SBc c h3 := fun y a b => by rw [h3e _ y (by omega) (by omega)]; exact xo.2.1 y a b
        have h34 : h3 c 4 = M := by rw [h3e c 4 (by omega) (by omega), f10 c 4 (by unfold XLw; omega), f6 c 4 (by omega)]; exact h4
        have sO := sts_ok bbV c1.2
        have ePR := k1.2
        unfold linF
        generalize lin1 l S = V at *
        by_cases cv : V 78 67 = 0
        · rw [cif_t cv]
          obtain ⟨o1, o2, o3, o4, o5⟩ := xo.2.2.2.2 cv
          have re : ∀ a y, ¬ (109 ≤ a ∧ a ≤ 111) → sts V a y = V a y := fun a y q => sO.1 a y (fun z => q z.1)
          refine ⟨f3, sb3, ?_, h34, fun z => ?_, fun _ => ⟨?_, ?_, ?_, fun m m0 m1 => ?_⟩⟩
          · rw [h3e 12 0 (by omega) (by omega), re 78 67 (by omega)]; exact xo.2.2.1
          · rw [re 78 67 (by omega)] at z; exact absurd cv z
          · rw [h3e 12 1 (by omega) (by omega), n1 cv, f6 12 1 (by omega)]; exact z1
          · rw [h3c, o1]
          · rw [h3e c 6 (by omega) (by omega), re 78 66 (by omega)]; exact o4
          · by_cases w : ∃ i', 0 ≤ i' ∧ i' < V 78 62 ∧ V 112 i' = m
            · have um := (gu m m0 (by omega)).1 w
              obtain ⟨i, i0, i1, em⟩ := w
              rw [h316, um, o1]
              have mi := bbV.2 i i0 i1
              have eq1 : ∀ a t', t' ≤ V 78 63 → sts V a (20 * t' + m) = V a (20 * t' + m) := fun a t' p => sO.1 a _ (fun ⟨_, i', kk, p0, p1, p2, p3, p4⟩ => by
                have := bbV.2 i' p0 p1
                omega)
              refine ⟨by omega, fun t' a b => ?_, fun a t' p0 p1 p2 p3 => ?_⟩
              · have y := o5 i t' i0 i1 a b
                rw [em] at y
                unfold CGr gnd at y ⊢
                rw [h3e _ _ (by omega) (by omega), eq1 109 t' b, eq1 110 t' b, eq1 111 t' b]
                exact y
              · by_cases w2 : t' = V 78 63
                · rw [w2]
                · have := sO.2 i a t' i0 i1 p0 p1 (by omega) p3
                  rw [em] at this
                  rw [this, eq1 a (V 78 63) (by omega)]
            · have um := (gu m m0 (by omega)).2 w
              have cm := zm m m0 m1
              rw [h316, um, h16]
              have eq1 : ∀ a t', 109 ≤ a → a ≤ 111 → sts V a (20 * t' + m) = S a (20 * t' + m) := fun a t' p0 p1 => by
                have n1' : ¬ ((109 ≤ a ∧ a ≤ 111) ∧ ∃ i' k, 0 ≤ i' ∧ i' < V 78 62 ∧ V 78 63 < k ∧ k ≤ 150 ∧ 20 * t' + m = 20 * k + V 112 i') := by
                  rintro ⟨_, i', k, y0, y1, y2, y3, y4⟩
                  have y := bbV.2 i' y0 y1
                  exact w ⟨i', y0, y1, by omega⟩
                have n2' : ¬ PRr (lin0 l S) a (20 * t' + m) := by
                  intro y
                  rcases y with y | ⟨_, i', t'', p2, p3, p4⟩
                  · omega
                  · have y := bbV.2 i' p2 (by omega)
                    rw [s112] at y
                    exact w ⟨i', p2, by omega, by rw [s112]; omega⟩
                rw [sO.1 a _ n1', ePR a _ n2', g0 a _ p0 p1]
              have nb : ∀ t', ¬ bC (lin0 l S) (20 * t' + m) := fun t' ⟨i', t'', p2, p3, p4⟩ => by
                have y := bbV.2 i' p2 (by omega)
                rw [s112] at y
                exact w ⟨i', p2, by omega, by rw [s112]; omega⟩
              have hx : ∀ t', h3 (c + 1) (20 * t' + m) = h (c + 1) (20 * t' + m) := fun t' => by
                have nx : ¬ XLw c (lin0 l S) (c + 1) (20 * t' + m) := fun y => by
                  rcases y with y | y | y | y | y | y | y
                  · omega
                  · omega
                  · omega
                  · omega
                  · omega
                  · omega
                  · exact nb t' y.2
                rw [h3e _ _ (by omega) (by omega), f10 _ _ nx, f6 _ _ (by omega)]
              refine ⟨by have := cm.1; omega, fun t' a b => ?_, fun a t' p0 p1 p2 p3 => ?_⟩
              · have y := cm.2.1 t' a b
                unfold CGr gnd at y ⊢
                rw [hx, eq1 109 _ (by decide) (by decide), eq1 110 _ (by decide) (by decide), eq1 111 _ (by decide) (by decide)]
                exact y
              · rw [eq1 a t' p0 p1, eq1 a _ p0 p1]
                exact cm.2.2 a t' p0 p1 p2 p3
        · rw [cif_f cv]
          exact ⟨f3, sb3, by rw [h3e 12 0 (by omega) (by omega)]; exact xo.2.2.1, h34, fun z => by rw [h3e 12 1 (by omega) (by omega)]; exact n2 z, fun z => absurd z cv⟩
  refine b_X7_lineBegin hst ht ⟨fun z => ⟨⟨by omega, by omega⟩, ⟨by omega, by omega⟩, dol _ ?_⟩, fun z => dol 0 (by rw [e90, z, tc2])⟩
  rw [hT f6b 7 _ (by decide) (by decide), (tc3 (l - 1) (by omega) (by omega)).1, show l - 1 + 1 = l by omega, e90]
end
