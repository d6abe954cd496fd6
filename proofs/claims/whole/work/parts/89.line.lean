/-! the reference's reader: lines -/
theorem stp_fr {B : Int → Int} {n t : Int} {S : qM} : Fr (PXs t) S (stp B n t S) := by
  unfold stp
  split
  · exact Fr.rf
  split
  · exact Fr.up (Fr.up Fr.rf (by unfold PXs PXt; omega)) (by unfold PXs; omega)
  · exact Fr.tr (Fr.up Fr.rf (by unfold PXs PXt; omega)) (Fr.wk tak_fr (fun a i z => Or.inl (Or.inl z)))
theorem Rch_fr {B : Int → Int} {n t : Int} {S0 S : qM} (r : Rch B n t S0 S) : Fr (PXs t) S0 S := by
  obtain ⟨k, e⟩ := r
  subst e
  induction k with
  | zero => exact Fr.rf
  | succ k ih => exact Fr.tr ih stp_fr
theorem fnd_cg {f g : Int → Int} {v : Int} : ∀ (k : Nat) (i : Int), (∀ j, i ≤ j → j < i + k → f j = g j) → fnd f v k i = fnd g v k i := by
  intro k
  induction k with
  | zero => intro i _; rfl
  | succ k ih =>
    intro i e
    unfold fnd
    rw [e i (by omega) (by omega), ih (i + 1) (fun j a b => e j (by omega) (by omega))]
theorem fnd_no {f : Int → Int} {v : Int} {k : Nat} {i : Int} (q : ∀ j, i ≤ j → j < i + k → f j ≠ v) : fnd f v k i = -1 := by
  rcases fnd_ok (f := f) (v := v) k i with h | h
  · exact h
  · exact absurd h.2.2 (q _ h.1 h.2.1)
def GR (S0 h : qM) : Prop := h 78 9 = S0 2 8 ∧ (0 ≤ S0 2 8 ∧ S0 2 8 ≤ 8) ∧ ∀ i, 0 ≤ i → i < S0 2 8 → h 87 i = S0 7 i ∧ h 85 i = S0 8 i ∧ 0 < S0 7 i ∧ 0 ≤ S0 8 i ∧ S0 8 i ≤ 1048575
def LN (t : Int) (S h : qM) (Lp : Int) : Prop := h 93 0 = 0 ∧ (∀ l, 0 ≤ l → l < S t 9 → h 93 (l + 1) = S (t + 7) l) ∧ (0 ≤ S t 11 ∧ S t 11 ≤ 1048575) ∧ (∀ m, 0 ≤ m → (tb (S t 11) m = true ↔ ∃ l, 0 ≤ l ∧ l < Lp ∧ tb (h 91 l) m = true)) ∧ (∀ l, 0 ≤ l → l < Lp → (0 ≤ h 91 l ∧ h 91 l ≤ 1048575) ∧ (0 ≤ S (t + 8) l ∧ S (t + 8) l ≤ 1048575) ∧ ∀ m, 0 ≤ m → (tb (S (t + 8) l) m = true ↔ (tb (h 91 l) m = true ∧ ∀ l', 0 ≤ l' → l' < l → tb (h 91 l') m = false))) ∧ (∀ g, 0 ≤ g → g < 8 → (tb (S 9 14) g = true ↔ ∃ l, 0 ≤ l ∧ l < Lp ∧ h 92 l = g))
theorem LN_fr {t Lp : Int} {S S' h h1 : qM} (q : LN t S h Lp) (a : S' t 9 = S t 9) (b : S' t 11 = S t 11) (c : S' 9 14 = S 9 14) (e : ∀ i, S' (t + 7) i = S (t + 7) i) (f : ∀ i, S' (t + 8) i = S (t + 8) i) (g : ∀ x i, x = 91 ∨ x = 92 ∨ x = 93 → h1 x i = h x i) : LN t S' h1 Lp := by
  have e1 : ∀ i, h1 91 i = h 91 i := fun i => g _ _ (by omega)
  have e2 : ∀ i, h1 92 i = h 92 i := fun i => g _ _ (by omega)
  have e3 : ∀ i, h1 93 i = h 93 i := fun i => g _ _ (by omega)
  unfold LN at *
  simp only [a, b, c, e, f, e1, e2, e3]
  exact q
theorem or20 {a b : Int} (a0 : 0 ≤ a) (a1 : a ≤ 1048575) (b0 : 0 ≤ b) (b1 : b ≤ 1048575) : 0 ≤ qior a b ∧ qior a b ≤ 1048575 := by
  rw [qior_nat a0 (by omega) b0 (by omega)]
  have := Nat.or_lt_two_pow (x := a.toNat) (y := b.toNat) (n := 20) (by omega) (by omega)
  omega
/-- a line begins -/
theorem LN_beg {t g gs : Int} {S S' h h1 : qM} (q : LN t S h (S t 9)) (g0 : 0 ≤ g ∧ g < 8) (gb : 0 ≤ gs ∧ gs ≤ 1048575) (L0 : 0 ≤ S t 9) (ln : 0 ≤ S 9 14 ∧ S 9 14 ≤ 255) (a : S' t 9 = S t 9) (b : S' t 11 = qior (S t 11) gs) (c : S' 9 14 = qior (S 9 14) (qishl 1 g)) (e : ∀ i, S' (t + 7) i = S (t + 7) i) (f : ∀ i, i ≠ S t 9 → S' (t + 8) i = S (t + 8) i) (f1 : S' (t + 8) (S t 9) = qiand gs (qixor (S t 11) (-1))) (k1 : ∀ i, i ≠ S t 9 → h1 91 i = h 91 i) (k2 : ∀ i, i ≠ S t 9 → h1 92 i = h 92 i) (k3 : ∀ i, h1 93 i = h 93 i) (k4 : h1 91 (S t 9) = gs) (k5 : h1 92 (S t 9) = g) : LN t S' h1 (S t 9 + 1) := by
  obtain ⟨q1, q2, q3, q4, q5, q6⟩ := q
  have o := qor_tb (s := S t 11) (t := gs) q3.1 (by omega) gb.1 (by omega)
  have an := q_andnot (s := gs) (t := S t 11) gb.1 (by omega) q3.1 (by omega)
  have o1 := q_or1 (s := S 9 14) (m := g) ln.1 (by omega) g0.1 (by omega)
  refine ⟨by rw [k3]; exact q1, fun l l0 l1 => ?_, by rw [b]; exact or20 q3.1 q3.2 gb.1 gb.2, fun m m0 => ?_, fun l l0 l1 => ?_, fun j j0 j1 => ?_⟩
  · rw [k3, e]
    exact q2 l l0 (by omega)
  · rw [b, o.2.2 m, Bool.or_eq_true, q4 m m0]
    constructor
    · rintro (⟨l, l0, l1, l2⟩ | z)
      · exact ⟨l, l0, by omega, by rw [k1 l (by omega)]; exact l2⟩
      · exact ⟨S t 9, L0, by omega, by rw [k4]; exact z⟩
    · rintro ⟨l, l0, l1, l2⟩
      by_cases z : l = S t 9
      · rw [z, k4] at l2
        exact Or.inr l2
      · rw [k1 l z] at l2
        exact Or.inl ⟨l, l0, by omega, l2⟩
  · by_cases z : l = S t 9
    · rw [z, k4, f1]
      refine ⟨gb, ⟨an.1, by omega⟩, fun m m0 => ?_⟩
      rw [an.2.2 m m0, Bool.and_eq_true]
      refine and_congr_right (fun _ => ?_)
      rw [Bool.not_eq_true']
      constructor
      · intro y l' a0 a1
        rw [k1 l' (by omega)]
        by_cases x : tb (h 91 l') m = true
        · rw [(q4 m m0).mpr ⟨l', a0, a1, x⟩] at y
          exact absurd y (by decide)
        · exact Bool.eq_false_iff.mpr x
      · intro y
        refine Bool.eq_false_iff.mpr (fun x => ?_)
        obtain ⟨l', a0, a1, a2⟩ := (q4 m m0).mp x
        have := y l' a0 a1
        rw [k1 l' (by omega), a2] at this
        exact absurd this (by decide)
    · rw [k1 l z, f l z]
      have p := q5 l l0 (by omega)
      refine ⟨p.1, p.2.1, fun m m0 => ?_⟩
      rw [p.2.2 m m0]
      refine and_congr_right (fun _ => ?_)
      constructor
      · intro y l' a0 a1
        rw [k1 l' (by omega)]
        exact y l' a0 a1
      · intro y l' a0 a1
        have := y l' a0 a1
        rw [k1 l' (by omega)] at this
        exact this
  · rw [c, o1.2.2 j j0, Bool.or_eq_true, q6 j j0 j1, decide_eq_true_eq]
    constructor
    · rintro (⟨l, l0, l1, l2⟩ | z)
      · exact ⟨l, l0, by omega, by rw [k2 l (by omega)]; exact l2⟩
      · exact ⟨S t 9, L0, by omega, by rw [k5]; exact z.symm⟩
    · rintro ⟨l, l0, l1, l2⟩
      by_cases z : l = S t 9
      · rw [z, k5] at l2
        exact Or.inr l2.symm
      · rw [k2 l z] at l2
        exact Or.inl ⟨l, l0, by omega, l2⟩
