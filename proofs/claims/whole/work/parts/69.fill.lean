/-! who fills in: the class, one more -/
def CN (P M : Int) (fl e : Int → Int) : Prop := (∀ p, 0 ≤ p → p < P → e p = -1 ∨ ((0 ≤ e p ∧ e p < M) ∧ fl (e p) = p)) ∧ ∀ j, 0 ≤ j → j < M → fl j = -1 ∨ ((0 ≤ fl j ∧ fl j < P) ∧ e (fl j) = j)
noncomputable def nB (P : Int) (Bd : Int → Prop) (e : Int → Int) : Int := NT (fun p => e p ≠ -1 ∧ ¬ Bd p) P.toNat
/-- what stays: those barred, and those ahead -/
def sub1 (P M first : Int) (C : Int → Int → Prop) (Bd : Int → Prop) (e : Int → Int) : Prop := (∀ p, 0 ≤ p → p < P → e p ≠ -1 → ¬ Bd p → first ≤ e p ∧ C (e p) p) ∧ ∀ p, 0 ≤ p → p < P → e p ≠ -1 → Bd p → e p < first
/-- the search: queue, how many wait, who was asked -/
def QI (P M first : Int) (C : Int → Int → Prop) (Bd : Int → Prop) (fl e q ab : Int → Int) (w : Int) (pr : Int → Prop) : Prop :=
  (∀ i, 0 ≤ i → i < w → first ≤ q i ∧ q i < M) ∧ (∀ i k, 0 ≤ i → i < w → 0 ≤ k → k < w → q i = q k → i = k) ∧ (∀ j, first ≤ j → j < M → fl j = -1 → ∃ i, 0 ≤ i ∧ i < w ∧ q i = j) ∧
  (∀ p, 0 ≤ p → p < P → pr p → ¬ Bd p ∧ e p ≠ -1 ∧ ∃ i k, 0 ≤ i ∧ i < k ∧ k < w ∧ ab p = q i ∧ C (q i) p ∧ q k = e p) ∧ ∀ i, 0 ≤ i → i < w → fl (q i) = -1 ∨ pr (fl (q i))
section
variable {X : qX} {d : Nat} {sh : qS} {pt h : qM} {P M first w : Int} {C : Int → Int → Prop} {Bd : Int → Prop} {fl e q ab : Int → Int} {pr : Int → Prop}
def PO (a _ : Int) : Prop := a = 31 ∨ a = 38
def Hd (P M first : Int) (C : Int → Int → Prop) (Bd : Int → Prop) (fl e q ab : Int → Int) (w N0 : Int) (fl1 e1 : Int → Int) (x i : Int) : Prop :=
  (∀ j, (∀ k, i < k → k < w → q k ≠ j) → fl1 j = fl j) ∧ (∀ j, 0 ≤ j → j < M → fl1 j = -1 ∨ ((0 ≤ fl1 j ∧ fl1 j < P) ∧ e1 (fl1 j) = j ∧ fl1 j ≠ x)) ∧ (∀ p, 0 ≤ p → p < P → p ≠ x → e1 p = -1 ∨ ((0 ≤ e1 p ∧ e1 p < M) ∧ fl1 (e1 p) = p)) ∧
  ((0 ≤ x ∧ x < P) ∧ ¬ Bd x ∧ ab x = q i ∧ C (q i) x) ∧ (∀ p, 0 ≤ p → p < P → Bd p → e1 p = e p) ∧ (∀ p, 0 ≤ p → p < P → p ≠ x → e1 p ≠ -1 → ¬ Bd p → first ≤ e1 p ∧ C (e1 p) p) ∧ NT (fun p => (e1 p ≠ -1 ∧ ¬ Bd p) ∧ p ≠ x) P.toNat = N0 ∧ 0 ≤ i ∧ i < w
theorem x_handOn_l {K : qM → Prop} {N0 : Int} (hst : St sh pt) (P1 : P ≤ 16) (M1 : M ≤ 20) (f0 : 0 ≤ first) (cn : CN P M fl e) (qi : QI P M first C Bd fl e q ab w pr) (hab : h 40 = ab) (k : ∀ h2, Fr PO h h2 → CN P M (h2 31) (h2 38) → (∀ p, 0 ≤ p → p < P → Bd p → h2 38 p = e p) → (∀ j, 0 ≤ j → j < first → h2 31 j = fl j) → (∀ p, 0 ≤ p → p < P → h2 38 p ≠ -1 → ¬ Bd p → first ≤ h2 38 p ∧ C (h2 38 p) p) → nB P Bd (h2 38) = N0 + 1 → K h2) : ∀ (n : Nat) (x i v : Int) (h1 : qM), i < n → 0 ≤ v → v + i ≤ 19 → Fr PO h h1 → Hd P M first C Bd fl e q ab w N0 (h1 31) (h1 38) x i → EvV X (d + 1) mX5_handOn 4 [(2, 30), (8, -1), (0, x), (0, v), (8, -1), (8, -1)] [] sh pt h1 K := by
  obtain ⟨q1, q2, q3, q4, q5⟩ := qi
  intro n
  induction n with
  | zero =>
    intro x i v h1 a _ _ _ H
    have := H.2.2.2.2.2.2.2.1
    omega
  | succ n ih =>
    intro x i v h1 a v0 v1 f1 ⟨H1, H2, H3, ⟨H4, H5, H6, H7⟩, H8, H9, H10, H11, H12⟩
    have qr := q1 i H11 H12
    have rab : h1 40 x = q i := by rw [f1 _ _ (by unfold PO; omega), hab]; exact H6
    have fmk : h1 31 (q i) = fl (q i) := H1 _ (fun k x1 x2 e => by have := q2 k i (by omega) x2 H11 H12 e; omega)
    refine b_X5_handOn_4 hst ⟨fun z => absurd z (by omega), fun _ => ⟨fun z => absurd z (by omega), fun _ => ⟨by omega, ?_⟩⟩⟩
    rw [rab, fmk]
    refine ⟨by omega, b_X5_pair hst ⟨by omega, fun h2 e2 => ⟨by omega, fun h3 e3 => ⟨⟨by omega, by omega⟩, ?_⟩⟩⟩⟩
    have f3 : Fr PO h h3 := by rw [e3, e2]; exact (f1.up (Or.inl rfl)).up (Or.inr rfl)
    have r31 : h3 31 = rup (h1 31) (q i) x := by
      funext t
      rw [e3, e2, qup_of (by omega), qup_qrow, qrow_rw]
    have r38 : h3 38 = rup (h1 38) x (q i) := by
      funext t
      rw [e3, qup_qrow, qrow_rw]
      unfold rup
      by_cases z : t = x
      · rw [if_pos z, if_pos z]
      · rw [if_neg z, if_neg z, e2, qup_of (by omega)]
    have cq := cn.2 (q i) (by omega) qr.2
    by_cases hel : fl (q i) = -1
    · rw [hel]
      refine b_X5_handOn_4 hst ⟨fun z => ?_, fun _ => ⟨fun _ => ?_, fun z => absurd rfl z⟩⟩
      all_goals
        refine k h3 f3 ⟨fun p p0 p1 => ?_, fun j j0 j1 => ?_⟩ (fun p p0 p1 b => ?_) (fun j j0 j1 => ?_) (fun p p0 p1 b c => ?_) ?_
        · rw [r31, r38]
          by_cases z : p = x
          · rw [z, rup_at, rup_at]
            exact Or.inr ⟨⟨by omega, qr.2⟩, rfl⟩
          · rw [rup_of z]
            rcases H3 p p0 p1 z with y | y
            · exact Or.inl y
            · refine Or.inr ⟨y.1, ?_⟩
              rw [rup_of (fun g => by rw [g, fmk, hel] at y; omega)]
              exact y.2
        · rw [r31, r38]
          by_cases z : j = q i
          · rw [z, rup_at, rup_at]
            exact Or.inr ⟨H4, rfl⟩
          · rw [rup_of z]
            rcases H2 j j0 j1 with y | y
            · exact Or.inl y
            · refine Or.inr ⟨y.1, ?_⟩
              rw [rup_of y.2.2]
              exact y.2.1
        · rw [r38, rup_of (fun g => H5 (by rw [← g]; exact b))]
          exact H8 p p0 p1 b
        · rw [r31, rup_of (by omega)]
          exact H1 j (fun k x1 x2 g => by have := q1 k (by omega) x2; omega)
        · rw [r38] at b ⊢
          by_cases z : p = x
          · rw [z, rup_at]
            exact ⟨qr.1, H7⟩
          · rw [rup_of z] at b ⊢
            exact H9 p p0 p1 z b c
        · unfold nB
          rw [r38, ← H10]
          refine NT_add (v := x) H4.1 (fun y => y.2 rfl) P.toNat (by omega) (fun t a b => ?_)
          by_cases z : t = x
          · rw [z, rup_at]
            exact ⟨fun _ => Or.inr rfl, fun _ => ⟨by omega, H5⟩⟩
          · rw [rup_of z]
            exact ⟨fun y => Or.inl ⟨y, z⟩, fun y => by
              rcases y with y | y
              · exact y.1
              · exact absurd y z⟩
    · rcases cq with cq | cq
      · exact absurd cq hel
      rcases q5 i H11 H12 with y | y
      · exact absurd y hel
      obtain ⟨u1, u2, i', k', u3, u4, u5, u6, u7, u8⟩ := q4 _ cq.1.1 cq.1.2 y
      have ek : k' = i := q2 k' i (by omega) u5 H11 H12 (by rw [u8, cq.2])
      generalize ey : fl (q i) = yy at *
      have b2 : yy ≠ x := by
        rcases H2 (q i) (by omega) qr.2 with z | z
        · rw [fmk] at z; exact absurd z hel
        · rw [fmk] at z; exact z.2.2
      have e1y : h1 38 yy = q i := by
        rcases H2 (q i) (by omega) qr.2 with z | z
        · rw [fmk] at z; exact absurd z hel
        · rw [fmk] at z; exact z.2.1
      refine ih yy i' (v + 1) h3 (by omega) (by omega) (by omega) f3 ⟨fun j hj => ?_, fun j j0 j1 => ?_, fun p p0 p1 pn => ?_, ⟨cq.1, u1, u6, u7⟩, fun p p0 p1 b => ?_, fun p p0 p1 pn b c => ?_, ?_, u3, by omega⟩
      · rw [r31, rup_of (fun g => hj i (by omega) H12 g.symm)]
        exact H1 j (fun k x1 x2 => hj k (by omega) x2)
      · rw [r31, r38]
        by_cases z : j = q i
        · rw [z, rup_at, rup_at]
          exact Or.inr ⟨H4, rfl, fun g => b2 g.symm⟩
        · rw [rup_of z]
          rcases H2 j j0 j1 with g | g
          · exact Or.inl g
          · refine Or.inr ⟨g.1, ?_, fun g2 => ?_⟩
            · rw [rup_of g.2.2]; exact g.2.1
            · have := g.2.1
              rw [g2, e1y] at this
              exact z this.symm
      · rw [r31, r38]
        by_cases z : p = x
        · rw [z, rup_at, rup_at]
          exact Or.inr ⟨⟨by omega, qr.2⟩, rfl⟩
        · rw [rup_of z]
          rcases H3 p p0 p1 z with g | g
          · exact Or.inl g
          · refine Or.inr ⟨g.1, ?_⟩
            rw [rup_of (fun g2 => pn (by have := g.2; rw [g2, fmk] at this; exact this.symm))]
            exact g.2
      · rw [r38, rup_of (fun g => H5 (by rw [← g]; exact b))]
        exact H8 p p0 p1 b
      · rw [r38] at b ⊢
        by_cases z : p = x
        · rw [z, rup_at]
          exact ⟨qr.1, H7⟩
        · rw [rup_of z] at b ⊢
          exact H9 p p0 p1 z b c
      · have s1 := NT_add (P := fun p => ((h1 38 p ≠ -1 ∧ ¬ Bd p) ∧ p ≠ x) ∧ p ≠ yy) (Q := fun p => (h1 38 p ≠ -1 ∧ ¬ Bd p) ∧ p ≠ x) (v := yy) cq.1.1 (fun z => z.2 rfl) P.toNat (by omega) (fun t a b => ⟨fun z => by
          by_cases g : t = yy
          · exact Or.inr g
          · exact Or.inl ⟨z, g⟩, fun z => by
          rcases z with z | z
          · exact z.1
          · rw [z]; exact ⟨⟨by omega, u1⟩, b2⟩⟩)
        have s2 := NT_add (P := fun p => ((h1 38 p ≠ -1 ∧ ¬ Bd p) ∧ p ≠ x) ∧ p ≠ yy) (Q := fun p => (h3 38 p ≠ -1 ∧ ¬ Bd p) ∧ p ≠ yy) (v := x) H4.1 (fun z => z.1.2 rfl) P.toNat (by omega) (fun t a b => by
          rw [r38]
          by_cases g : t = x
          · rw [g, rup_at]
            exact ⟨fun _ => Or.inr rfl, fun _ => ⟨⟨by omega, H5⟩, fun g2 => b2 g2.symm⟩⟩
          · rw [rup_of g]
            exact ⟨fun z => Or.inl ⟨⟨z.1, g⟩, z.2⟩, fun z => by
              rcases z with z | z
              · exact ⟨z.1.1, z.2⟩
              · exact absurd z g⟩)
        rw [s2, ← s1]
        exact H10
end
