/-! the lines of a RUN -/
def cpy (m t k : Int) (U : qM) : qM := qup (qup (qup U 109 (20 * k + m) (U 109 (20 * t + m))) 110 (20 * k + m) (U 110 (20 * t + m))) 111 (20 * k + m) (U 111 (20 * t + m))
def stF (m t : Int) (S : qM) : qM := fo (cpy m t) (t + 1) 151 S
def bg1 (m : Int) (U : qM) : qM := stF m 0 (qup (qup (qup U 109 m (U 82 m)) 110 m (U 83 m)) 111 m (U 84 m))
def bgF (S : qM) : qM := fo bg1 0 (S 78 7) S
def inB (S : qM) (l m : Int) : Prop := tb (S 89 l) m = true ∧ ∀ l', 0 ≤ l' → l' < l → tb (S 89 l') m = false
noncomputable def ga1 (P : Int → Prop) (m : Int) (U : qM) : qM := cif (P m) (qup (qup U 112 (U 78 62) m) 78 62 (U 78 62 + 1)) U
noncomputable def gath (P : Int → Prop) (M : Int) (S : qM) : qM := fo (ga1 P) 0 M (qup S 78 62 0)
noncomputable def lin0 (l : Int) (S : qM) : qM := qup (qup (qup (gath (inB S l) (S 78 7) S) 78 63 0) 78 64 0) 78 65 0
noncomputable def lin1 (l : Int) (S : qM) : qM := roF 3 (S 90 l) (S 90 (l + 1)) (lin0 l S)
noncomputable def sts (V : qM) : qM := fo (fun i U => stF (U 112 i) (U 78 63) U) 0 (V 78 62) V
noncomputable def linF (l : Int) (S : qM) : qM := cif (lin1 l S 78 67 = 0) (sts (lin1 l S)) (lin1 l S)
noncomputable def linS (l : Int) (s : qM × Int) : qM × Int := cif (s.1 78 67 = 0) (linF l s.1, max s.2 (lin1 l s.1 78 63)) s
section
variable {S U V : qM} {m t k M l W : Int}
theorem cpy_of {a x : Int} (q : ¬ (109 ≤ a ∧ a ≤ 111 ∧ x = 20 * k + m)) : cpy m t k U a x = U a x := by
  unfold cpy
  rw [qup_of (by omega), qup_of (by omega), qup_of (by omega)]
theorem cpy_at {a : Int} (q : 109 ≤ a ∧ a ≤ 111) : cpy m t k U a (20 * k + m) = U a (20 * t + m) := by
  unfold cpy
  have : a = 109 ∨ a = 110 ∨ a = 111 := by omega
  rcases this with e | e | e <;> subst e
  · rw [qup_of (by omega), qup_of (by omega), qup_at]
  · rw [qup_of (by omega), qup_at]
  · rw [qup_at]
theorem stF_ok (t0 : t ≤ 150) : Fr (fun a x => (109 ≤ a ∧ a ≤ 111) ∧ ∃ k, t < k ∧ k ≤ 150 ∧ x = 20 * k + m) S (stF m t S) ∧ ∀ a k, 109 ≤ a → a ≤ 111 → t < k → k ≤ 150 → stF m t S a (20 * k + m) = S a (20 * t + m) := by
  unfold stF
  have z := fo_inv (f := cpy m t) (i := t + 1) (n := 151) (a := S) (fun j U => Fr (fun a x => (109 ≤ a ∧ a ≤ 111) ∧ ∃ k, t < k ∧ k ≤ 150 ∧ x = 20 * k + m) S U ∧ ∀ a k, 109 ≤ a → a ≤ 111 → t < k → k < j → U a (20 * k + m) = S a (20 * t + m)) (fun j U a b q => ?_) (by omega) ⟨Fr.rf, fun a k _ _ _ _ => by omega⟩
  · exact ⟨z.1, fun a k a0 a1 k0 k1 => z.2 a k a0 a1 k0 (by omega)⟩
  · refine ⟨fun c x w => ?_, fun c k c0 c1 k0 k1 => ?_⟩
    · rw [cpy_of (fun y => w ⟨⟨y.1, y.2.1⟩, j, by omega, by omega, y.2.2⟩)]
      exact q.1 c x w
    · have base : U c (20 * t + m) = S c (20 * t + m) := q.1 c _ (fun ⟨_, k', a, b, e⟩ => by omega)
      by_cases e : k = j
      · rw [e, cpy_at ⟨c0, c1⟩, base]
      · rw [cpy_of (by omega)]
        exact q.2 c k c0 c1 k0 (by omega)
theorem ga1_of {P : Int → Prop} {a x : Int} (q : ¬ (a = 112 ∨ (a = 78 ∧ x = 62))) : ga1 P m U a x = U a x := by
  unfold ga1
  by_cases c : P m
  · rw [cif_t c, qup_of (by omega), qup_of (by omega)]
  · rw [cif_f c]
theorem ga1_keep {P : Int → Prop} (m0 : 0 ≤ m) (q : (0 ≤ U 78 62 ∧ U 78 62 ≤ m) ∧ ∀ i, 0 ≤ i → i < U 78 62 → 0 ≤ U 112 i ∧ U 112 i < m) : (0 ≤ ga1 P m U 78 62 ∧ ga1 P m U 78 62 ≤ m + 1) ∧ ∀ i, 0 ≤ i → i < ga1 P m U 78 62 → 0 ≤ ga1 P m U 112 i ∧ ga1 P m U 112 i < m + 1 := by
  unfold ga1
  by_cases c : P m
  · rw [cif_t c, qup_at]
    refine ⟨by omega, fun i a b => ?_⟩
    rw [qup_of (by omega)]
    by_cases e : i = U 78 62
    · rw [e, qup_at]; omega
    · rw [qup_of (by omega)]
      have := q.2 i a (by omega)
      omega
  · rw [cif_f c]
    refine ⟨by omega, fun i a b => ?_⟩
    have := q.2 i a b
    omega
theorem gath_ok {P : Int → Prop} (M0 : 0 ≤ M) : Fr (fun a x => a = 112 ∨ (a = 78 ∧ x = 62)) S (gath P M S) ∧ (0 ≤ gath P M S 78 62 ∧ gath P M S 78 62 ≤ M) ∧ ∀ i, 0 ≤ i → i < gath P M S 78 62 → 0 ≤ gath P M S 112 i ∧ gath P M S 112 i < M := by
  unfold gath
  refine fo_inv (f := ga1 P) (i := 0) (n := M) (a := qup S 78 62 0) (fun j U => Fr (fun a x => a = 112 ∨ (a = 78 ∧ x = 62)) S U ∧ (0 ≤ U 78 62 ∧ U 78 62 ≤ j) ∧ ∀ i, 0 ≤ i → i < U 78 62 → 0 ≤ U 112 i ∧ U 112 i < j) (fun j U a b q => ?_) M0 ⟨Fr.up Fr.rf (by omega), by rw [qup_at]; decide, fun i a b => by rw [qup_at] at b; omega⟩
  refine ⟨fun c x w => ?_, ga1_keep a q.2⟩
  rw [ga1_of w]
  exact q.1 c x w
/-- what holds between the lines -/
def PLn (a x : Int) : Prop := (a = 78 ∧ 62 ≤ x ∧ x ≤ 68) ∨ (109 ≤ a ∧ a ≤ 112)
def LIv (Sb : qM) (l mx : Int) (S : qM) : Prop := Fr PLn Sb S ∧ (0 ≤ mx ∧ mx ≤ 150) ∧ 0 ≤ S 78 67 ∧ (S 78 67 = 0 → (0 ≤ S 78 66 ∧ S 78 66 ≤ 500 * l) ∧ ∀ m t, 0 ≤ m → m < S 78 7 → 0 ≤ t → t ≤ 150 → gnd S (20 * t + m))
/-- the text that is run -/
def TXo (S : qM) : Prop := (0 ≤ S 78 7 ∧ S 78 7 ≤ 20) ∧ (0 ≤ S 78 30 ∧ S 78 30 ≤ 8) ∧ ∀ l, 0 ≤ l → l < S 78 30 → RGn S 3 (S 90 l) (S 90 (l + 1)) ∧ (0 ≤ S 89 l ∧ S 89 l ≤ 1048575)
theorem TXo_fr (x : TXo S) (f : Fr PLn S U) : TXo U := by
  have e : ∀ a x, a < 109 → ¬ a = 78 → U a x = S a x := fun a x q q2 => f a x (by unfold PLn; omega)
  have e7 : U 78 7 = S 78 7 := f _ _ (by unfold PLn; omega)
  have e30 : U 78 30 = S 78 30 := f _ _ (by unfold PLn; omega)
  have r94 : U 94 = S 94 := funext (fun i => e 94 i (by decide) (by decide))
  have r99 : U 99 = S 99 := funext (fun i => e 99 i (by decide) (by decide))
  unfold TXo at x ⊢
  rw [e7, e30]
  refine ⟨x.1, x.2.1, fun l a b => ?_⟩
  have y := x.2.2 l a b
  rw [e 90 l (by decide) (by decide), e 90 (l + 1) (by decide) (by decide), e 89 l (by decide) (by decide)]
  refine ⟨⟨by rw [r94, r99]; exact y.1.1, fun o a b => ?_, y.1.2.2⟩, y.2⟩
  have z := y.1.2.1 o a b
  unfold oK at z ⊢
  rw [e 94 o (by decide) (by decide), e 95 o (by decide) (by decide), e 96 o (by decide) (by decide), e 97 o (by decide) (by decide)]
  exact z
theorem inB_fr {Sb : qM} (f : Fr PLn Sb S) : inB S l = inB Sb l := by
  have e : ∀ l, S 89 l = Sb 89 l := fun l => f _ _ (by unfold PLn; omega)
  funext m
  unfold inB
  simp only [e]
theorem lin0_ok {Sb : qM} {mx : Int} (x : TXo S) (v : LIv Sb l mx S) (e0 : S 78 67 = 0) : SK (500 * l) (lin0 l S) (lin0 l S) ∧ Fr PLn S (lin0 l S) ∧ (lin0 l S 78 63 = 0 ∧ lin0 l S 78 64 = 0 ∧ lin0 l S 78 65 = 0 ∧ lin0 l S 78 66 = S 78 66 ∧ lin0 l S 78 67 = 0) ∧ (∀ a y, 109 ≤ a → a ≤ 111 → lin0 l S a y = S a y) ∧ ∀ i, 0 ≤ i → i < lin0 l S 78 62 → 0 ≤ lin0 l S 112 i ∧ lin0 l S 112 i < S 78 7 := by
  obtain ⟨g1, g2, g3⟩ := gath_ok (P := inB S l) (S := S) x.1.1
  have v4 := v.2.2.2 e0
  have M1 := x.1
  have e : ∀ a y, ¬ (a = 78 ∧ 63 ≤ y ∧ y ≤ 65) → lin0 l S a y = gath (inB S l) (S 78 7) S a y := fun a y q => by
    unfold lin0
    rw [qup_of (by omega), qup_of (by omega), qup_of (by omega)]
  have e3 : lin0 l S 78 63 = 0 := by unfold lin0; rw [qup_of (by omega), qup_of (by omega), qup_at]
  have e4 : lin0 l S 78 64 = 0 := by unfold lin0; rw [qup_of (by omega), qup_at]
  have e5 : lin0 l S 78 65 = 0 := by unfold lin0; rw [qup_at]
  generalize lin0 l S = R at *
  have e62 := e 78 62 (by decide)
  have e7 : R 78 67 = 0 := by rw [e 78 67 (by decide), g1 78 67 (by omega)]; exact e0
  have e6 : R 78 66 = S 78 66 := by rw [e 78 66 (by decide), g1 78 66 (by omega)]
  have eg : ∀ a y, 109 ≤ a → a ≤ 111 → R a y = S a y := fun a y p q => by rw [e a y (by omega), g1 a y (by omega)]
  have bd : ∀ i, 0 ≤ i → i < R 78 62 → 0 ≤ R 112 i ∧ R 112 i < S 78 7 := fun i a b => by
    rw [e 112 i (by omega)]
    exact g3 i a (by omega)
  refine ⟨⟨⟨⟨by omega, fun i a b => ?_⟩, by omega, by omega, by omega, by omega, fun _ i t a b c d => ?_⟩, Fr.rf⟩, fun a y q => ?_, ⟨e3, e4, e5, e6, e7⟩, eg, bd⟩
  · have := bd i a b
    omega
  · have := bd i a b
    have z := v4.2 (R 112 i) t (by omega) (by omega) c (by omega)
    unfold gnd at z ⊢
    rw [eg 109 _ (by omega) (by omega), eg 110 _ (by omega) (by omega), eg 111 _ (by omega) (by omega)]
    exact z
  · unfold PLn at q
    rw [e a y (by omega), g1 a y (by omega)]
/-- the body stays where it is at its last count -/
def STv (V : qM) (i : Int) (U : qM) : Prop := Fr (fun a x => (109 ≤ a ∧ a ≤ 111) ∧ ∃ i' k, 0 ≤ i' ∧ i' < i ∧ V 78 63 < k ∧ k ≤ 150 ∧ x = 20 * k + V 112 i') V U ∧ ∀ i' a k, 0 ≤ i' → i' < i → 109 ≤ a → a ≤ 111 → V 78 63 < k → k ≤ 150 → U a (20 * k + V 112 i') = V a (20 * V 78 63 + V 112 i')
theorem sts1 {i : Int} (bb : bdB V) (c1 : V 78 63 ≤ 150) (i0 : 0 ≤ i) (i1 : i < V 78 62) (q : STv V i U) : STv V (i + 1) (stF (U 112 i) (U 78 63) U) := by
  have e1 : U 112 i = V 112 i := q.1 _ _ (by omega)
  have e2 : U 78 63 = V 78 63 := q.1 _ _ (by omega)
  rw [e1, e2]
  obtain ⟨f, w⟩ := stF_ok (S := U) (m := V 112 i) c1
  have mi := bb.2 i i0 i1
  refine ⟨fun a x y => ?_, fun i' a k a0 a1 b0 b1 k0 k1 => ?_⟩
  · rw [f a x (fun ⟨z, k, k0, k1, z2⟩ => y ⟨z, i, k, i0, by omega, k0, k1, z2⟩)]
    exact q.1 a x (fun ⟨z, i', k, a0, a1, z2⟩ => y ⟨z, i', k, a0, by omega, z2⟩)
  · have m' := bb.2 i' a0 (by omega)
    have base : ∀ i', 0 ≤ i' → i' < V 78 62 → U a (20 * V 78 63 + V 112 i') = V a (20 * V 78 63 + V 112 i') := fun i' p p2 => q.1 _ _ (fun ⟨_, i2, k, p3, p4, p5, p6, p7⟩ => by
      have := bb.2 i2 p3 (by omega)
      have := bb.2 i' p p2
      omega)
    by_cases e : V 112 i' = V 112 i
    · rw [e, w a k b0 b1 k0 k1, base i i0 i1]
    · by_cases ei : i' = i
      · rw [ei] at e; exact absurd rfl e
      rw [f a _ (fun ⟨z, k', k0, k1, z2⟩ => by omega)]
      exact q.2 i' a k a0 (by omega) b0 b1 k0 k1
theorem sts_ok (bb : bdB V) (c1 : V 78 63 ≤ 150) : STv V (V 78 62) (sts V) := by
  unfold sts
  exact fo_inv (f := fun i U => stF (U 112 i) (U 78 63) U) (i := 0) (n := V 78 62) (a := V) (fun i U => STv V i U) (fun i U a b q => sts1 bb c1 a b q) bb.1.1 ⟨Fr.rf, fun _ _ _ _ _ => by omega⟩
theorem lin1_ok {Sb : qM} {mx : Int} (x : TXo S) (v : LIv Sb l mx S) (e0 : S 78 67 = 0) (l0 : 0 ≤ l) (l1 : l < S 78 30) : SK (500 * l) (lin0 l S) (lin1 l S) ∧ RGn (lin0 l S) 3 (S 90 l) (S 90 (l + 1)) := by
  obtain ⟨k, f, _⟩ := lin0_ok x v e0
  have x1 := TXo_fr x f
  have e30 : lin0 l S 78 30 = S 78 30 := f _ _ (by unfold PLn; omega)
  have y := (x1.2.2 l l0 (by omega)).1
  rw [f 90 l (by unfold PLn; omega), f 90 (l + 1) (by unfold PLn; omega)] at y
  exact ⟨roF_keep 3 _ _ _ k y, y⟩
theorem linF_ok {Sb : qM} {mx : Int} (x : TXo S) (v : LIv Sb l mx S) (e0 : S 78 67 = 0) (l0 : 0 ≤ l) (l1 : l < S 78 30) : LIv Sb (l + 1) (max mx (lin1 l S 78 63)) (linF l S) := by
  obtain ⟨k, r⟩ := lin1_ok x v e0 l0 l1
  obtain ⟨k0, f0, ⟨z1, z2, z3, z4, z5⟩, g0, bd0⟩ := lin0_ok x v e0
  have M1 := x.1
  obtain ⟨s62, s112, sr, s7⟩ := SK_at k
  obtain ⟨⟨b1, b2, b3, b4, b5, b6⟩, f⟩ := k
  have v4 := v.2.2.2 e0
  have fL : Fr PLn S (lin1 l S) := Fr.tr f0 (Fr.wk f (fun a y q => by
    rcases q with q | q
    · exact Or.inl ⟨q.1, by omega, by omega⟩
    · exact Or.inr ⟨by omega, by omega⟩))
  have mx1 : 0 ≤ max mx (lin1 l S 78 63) ∧ max mx (lin1 l S 78 63) ≤ 150 := by
    have := v.2.1
    omega
  have s0 := sts_ok b1 b2.2
  unfold linF
  generalize lin1 l S = V at *
  by_cases c : V 78 67 = 0
  · rw [cif_t c]
    generalize sts V = R at *
    have re : ∀ a y, ¬ (109 ≤ a ∧ a ≤ 111) → R a y = V a y := fun a y q => s0.1 a y (fun z => q z.1)
    refine ⟨fun a y q => ?_, mx1, by rw [re 78 67 (by omega)]; omega, fun _ => ⟨by rw [re 78 66 (by omega)]; omega, fun m t m0 m1 t0 t1 => ?_⟩⟩
    · rw [re a y (fun z => q (Or.inr ⟨z.1, by omega⟩)), fL a y q]
      exact v.1 a y q
    · rw [re 78 7 (by omega), fL 78 7 (by unfold PLn; omega)] at m1
      by_cases q : ∃ i, 0 ≤ i ∧ i < V 78 62 ∧ V 112 i = m
      · obtain ⟨i, i0, i1, em⟩ := q
        have g6 := b6 c i
        by_cases tt : t ≤ V 78 63
        · have z := g6 t i0 i1 t0 tt
          have er : ∀ a, R a (20 * t + m) = V a (20 * t + m) := fun a => s0.1 a _ (fun ⟨_, i', k, p0, p1, p2, p3, p4⟩ => by
            have := b1.2 i' p0 p1
            omega)
          rw [em] at z
          unfold gnd at z ⊢
          rw [er, er, er]
          exact z
        · have z := g6 (V 78 63) i0 i1 b2.1 (by omega)
          have er : ∀ a, 109 ≤ a → a ≤ 111 → R a (20 * t + m) = V a (20 * V 78 63 + m) := fun a p0 p1 => by
            have := s0.2 i a t i0 i1 p0 p1 (by omega) t1
            rw [em] at this
            exact this
          rw [em] at z
          unfold gnd at z ⊢
          rw [er 109 (by decide) (by decide), er 110 (by decide) (by decide), er 111 (by decide) (by decide)]
          exact z
      · have z := v4.2 m t m0 m1 t0 t1
        have er : ∀ a, 109 ≤ a → a ≤ 111 → R a (20 * t + m) = S a (20 * t + m) := fun a p0 p1 => by
          have n1 : ¬ ((109 ≤ a ∧ a ≤ 111) ∧ ∃ i' k, 0 ≤ i' ∧ i' < V 78 62 ∧ V 78 63 < k ∧ k ≤ 150 ∧ 20 * t + m = 20 * k + V 112 i') := by
            rintro ⟨_, i', k, y0, y1, y2, y3, y4⟩
            have y := b1.2 i' y0 y1
            exact q ⟨i', y0, y1, by omega⟩
          have n2 : ¬ PRr (lin0 l S) a (20 * t + m) := by
            intro y
            rcases y with y | ⟨_, i', t', p2, p3, p4⟩
            · omega
            · have y := b1.2 i' p2 (by omega)
              rw [s112] at y
              exact q ⟨i', p2, by omega, by rw [s112]; omega⟩
          rw [s0.1 a _ n1, f a _ n2, g0 a _ p0 p1]
        unfold gnd at z ⊢
        rw [er 109 (by decide) (by decide), er 110 (by decide) (by decide), er 111 (by decide) (by decide)]
        exact z
  · rw [cif_f c]
    exact ⟨Fr.tr v.1 fL, mx1, b5, fun z => absurd z c⟩
end
