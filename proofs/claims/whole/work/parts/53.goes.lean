/-! GOES: the words -/
noncomputable def cif {α : Type} (p : Prop) (a b : α) : α := @ite _ p (Classical.propDecidable p) a b
theorem cif_t {α : Type} {p : Prop} {a b : α} (h : p) : cif p a b = a := if_pos h
theorem cif_f {α : Type} {p : Prop} {a b : α} (h : ¬ p) : cif p a b = b := if_neg h
theorem lp {σ : Type} {J C : Int → σ → Prop} {i n : Int} (hi : i ≤ n) (hs : ∀ j s, i ≤ j → j < n → J j s → (∀ s1, J (j + 1) s1 → C (j + 1) s1) → C j s) (he : ∀ s, J n s → C n s) : ∀ s, J i s → C i s := by
  have z : ∀ (k : Nat) (j : Int) (s : σ), i ≤ j → j + k = n → J j s → C j s := by
    intro k
    induction k with
    | zero => intro j s a e q; rw [show j = n by omega] at q ⊢; exact he s q
    | succ k ih => intro j s a e q; exact hs j s a (by omega) q (fun s1 q1 => ih (j + 1) s1 (by omega) (by omega) q1)
  exact fun s q => z (n - i).toNat i s (by omega) (by omega) q
theorem qixor_sg {a b : Int} (ha : qI a) (hb : qI b) (b0 : 0 ≤ b) : 0 ≤ qixor a b ↔ 0 ≤ a := by
  unfold qixor
  show 0 ≤ (BitVec.ofInt 32 a ^^^ BitVec.ofInt 32 b).toInt ↔ _
  have e1 : (BitVec.ofInt 32 a).toInt = a := q_toI ha
  have e2 : (BitVec.ofInt 32 b).toInt = b := q_toI hb
  have m1 := BitVec.msb_eq_toInt (x := BitVec.ofInt 32 a ^^^ BitVec.ofInt 32 b)
  have m2 := BitVec.msb_eq_toInt (x := BitVec.ofInt 32 a)
  have m3 := BitVec.msb_eq_toInt (x := BitVec.ofInt 32 b)
  rw [BitVec.msb_xor, m2, m3, e1, e2] at m1
  have e3 : decide (b < 0) = false := by simp; omega
  rw [e3, Bool.xor_false] at m1
  by_cases h : a < 0
  · have : (BitVec.ofInt 32 a ^^^ BitVec.ofInt 32 b).toInt < 0 := by
      rw [decide_eq_true h] at m1
      exact of_decide_eq_true m1.symm
    omega
  · have : ¬ (BitVec.ofInt 32 a ^^^ BitVec.ofInt 32 b).toInt < 0 := by
      rw [decide_eq_false h] at m1
      exact of_decide_eq_false m1.symm
    omega
def btw (f t j n : Int) : Int := f + (2 * j * (t - f) + n) / (2 * n)
theorem btw_bd {f t j n : Int} (j0 : 0 ≤ j) (j1 : j ≤ n) (n0 : 1 ≤ n) : (f ≤ t → f ≤ btw f t j n ∧ btw f t j n ≤ t) ∧ (t ≤ f → t ≤ btw f t j n ∧ btw f t j n ≤ f) := by
  have e : ∀ z : Int, (2 * n * z + n) / (2 * n) = z := fun z => by
    rw [Int.add_comm, Int.add_mul_ediv_left _ _ (show 2 * n ≠ 0 by omega), Int.ediv_eq_zero_of_lt (by omega) (by omega)]
    omega
  unfold btw
  constructor
  · intro h
    have a1 : 2 * j * (t - f) ≤ 2 * n * (t - f) := Int.mul_le_mul_of_nonneg_right (by omega) (by omega)
    have a2 : 0 ≤ 2 * j * (t - f) := Int.mul_nonneg (by omega) (by omega)
    have b1 := Int.ediv_le_ediv (show 0 < 2 * n by omega) (show 2 * j * (t - f) + n ≤ 2 * n * (t - f) + n by omega)
    have b2 := Int.ediv_nonneg (show 0 ≤ 2 * j * (t - f) + n by omega) (show 0 ≤ 2 * n by omega)
    rw [e] at b1
    omega
  · intro h
    have a1 : 2 * j * (f - t) ≤ 2 * n * (f - t) := Int.mul_le_mul_of_nonneg_right (by omega) (by omega)
    have a2 : 0 ≤ 2 * j * (f - t) := Int.mul_nonneg (by omega) (by omega)
    have a3 : 2 * j * (t - f) = -(2 * j * (f - t)) := by rw [← Int.mul_neg]; congr 1; omega
    have a4 : 2 * n * (t - f) = -(2 * n * (f - t)) := by rw [← Int.mul_neg]; congr 1; omega
    have b1 := Int.ediv_le_ediv (show 0 < 2 * n by omega) (show 2 * n * (t - f) + n ≤ 2 * j * (t - f) + n by omega)
    have b2 := Int.ediv_le_ediv (show 0 < 2 * n by omega) (show 2 * j * (t - f) + n ≤ 2 * n * 0 + n by omega)
    rw [e] at b1 b2
    omega
theorem btw_0 {f t n : Int} (n0 : 1 ≤ n) : btw f t 0 n = f := by
  unfold btw
  rw [show 2 * 0 * (t - f) + n = n by rw [show (2 : Int) * 0 = 0 by decide, Int.zero_mul]; omega, Int.ediv_eq_zero_of_lt (by omega) (by omega)]
  omega
section
variable {X : qX} {d : Nat} {sh : qS} {pt h : qM}
theorem x_floorDiv {K : Int → qM → Prop} {a b : Int} (hst : St sh pt) (qa : qI a) (qb : qI b) (b0 : 0 < b) (k : K (a / b) h) : RunI X d mJ9_floorDiv_7cf53 [(0, a), (0, b)] sh pt h K := by
  have e := Int.tdiv_eq_ediv (a := a) (b := b)
  have sg := qixor_sg qa qb (by omega)
  have g1 : a / b * b ≤ a := Int.ediv_mul_le a (by omega)
  have g2 : a < (a / b + 1) * b := Int.lt_ediv_add_one_mul_self a b0
  have s1 : b.sign = 1 := Int.sign_eq_one_of_pos b0
  have bd : -2147483648 ≤ a / b ∧ a / b ≤ 2147483647 := by
    have := Int.ediv_le_self b (a := a)
    rcases Int.le_total 0 a with h0 | h0
    · have := Int.ediv_nonneg h0 (show 0 ≤ b by omega)
      have := Int.ediv_le_self b h0
      omega
    · have h1 : a / b ≤ 0 := by
        have := Int.ediv_le_ediv b0 h0
        rw [Int.zero_ediv] at this
        exact this
      have h2 : a ≤ a / b := by
        rw [Int.le_ediv_iff_mul_le b0]
        have := Int.mul_le_mul_of_nonneg_left (show 1 ≤ b by omega) (show 0 ≤ -a by omega)
        rw [Int.neg_mul, Int.neg_mul] at this
        omega
      omega
  by_cases h0 : 0 ≤ a
  · rw [if_pos (Or.inl h0)] at e
    refine b_J9_floorDiv_7cf53 hst ⟨⟨by omega, by omega, by omega⟩, fun _ => ?_, fun z => absurd z (by have := sg.mpr h0; omega)⟩
    rw [e, Int.add_zero]
    exact k
  · refine b_J9_floorDiv_7cf53 hst ⟨⟨by omega, ?_⟩, fun z => absurd (sg.mp z) h0, fun _ => ?_⟩
    · have h1 : a / b ≤ 0 := by
        have := Int.ediv_le_ediv b0 (show a ≤ 0 by omega)
        rw [Int.zero_ediv] at this
        exact this
      rw [e]
      split <;> constructor <;> omega
    · have mt := Int.mul_tdiv_add_tmod a b
      have m1 := Int.tmod_lt_of_pos a b0
      have m2 : -b < a.tmod b := by
        have := Int.tmod_lt_of_pos (-a) b0
        rw [Int.neg_tmod] at this
        omega
      have mc : b * a.tdiv b = a.tdiv b * b := Int.mul_comm _ _
      have m3 : a.tmod b ≤ 0 := by
        have := Int.tmod_nonneg b (show 0 ≤ -a by omega)
        rw [Int.neg_tmod] at this
        omega
      refine ⟨⟨by omega, by omega⟩, fun z => ?_, fun z => ?_⟩
      · have dv : b ∣ a := ⟨a.tdiv b, by omega⟩
        rw [if_pos (Or.inr dv)] at e
        rw [e, Int.add_zero]
        exact k
      · have nd : ¬ (0 ≤ a ∨ b ∣ a) := by
          intro y
          rcases y with y | y
          · exact h0 y
          · exact z (Int.tdiv_mul_cancel y)
        rw [if_neg nd, s1] at e
        refine ⟨⟨by omega, by omega⟩, ?_⟩
        rw [e, Int.add_sub_cancel]
        exact k
theorem x_between {K : Int → qM → Prop} {f t j n : Int} (hst : St sh pt) (j0 : 0 ≤ j) (j1 : j ≤ n) (n0 : 1 ≤ n) (n1 : n ≤ 150) (f0 : -1000 ≤ f) (f1 : f ≤ 1000) (t0 : -1000 ≤ t) (t1 : t ≤ 1000) (k : K (btw f t j n) h) : RunI X (d + 1) mX1_between [(0, f), (0, t), (0, j), (0, n)] sh pt h K := by
  have mb := mul_bd (x := 2 * j) (y := t - f) (a := 300) (b := 2000) (by omega) (by omega) (by omega) (by omega)
  have bb := btw_bd (f := f) (t := t) j0 j1 n0
  have e : btw f t j n = f + (2 * j * (t - f) + n) / (2 * n) := rfl
  refine b_X1_between hst ⟨fun _ => ⟨⟨by omega, by omega⟩, ⟨by omega, by omega⟩, ⟨by omega, by omega⟩, ⟨by omega, by omega⟩, ⟨by omega, by omega⟩, x_floorDiv hst ⟨by omega, by omega⟩ ⟨by omega, by omega⟩ (by omega) ?_⟩, fun z => absurd z (by omega)⟩
  rw [← e]
  exact ⟨⟨by omega, by omega⟩, k⟩
theorem m_between {K : Int → qM → Prop} {f w j n : Int} (hst : St sh pt) (j0 : 0 ≤ j) (j1 : j ≤ n) (n0 : 1 ≤ n) (n1 : n ≤ 150) (f0 : -1000 ≤ f) (f1 : f ≤ 1000) (t0 : -1000 ≤ w) (t1 : w ≤ 1000) (k : K (btw f (f + w) j n) h) : RunI X (d + 1) mX11_between [(0, f), (0, w), (0, j), (0, n)] sh pt h K := by
  have mb := mul_bd (x := 2 * j) (y := w) (a := 300) (b := 2000) (by omega) (by omega) (by omega) (by omega)
  have bb := btw_bd (f := f) (t := f + w) j0 j1 n0
  have e : btw f (f + w) j n = f + (2 * j * w + n) / (2 * n) := by
    unfold btw
    rw [show f + w - f = w by omega]
  refine b_X11_between hst ⟨⟨by omega, by omega⟩, ⟨by omega, by omega⟩, ⟨by omega, by omega⟩, ⟨by omega, by omega⟩, x_floorDiv hst ⟨by omega, by omega⟩ ⟨by omega, by omega⟩ (by omega) ?_⟩
  rw [← e]
  exact ⟨⟨by omega, by omega⟩, k⟩
end
/-! who goes where, as it is reckoned -/
def wy (bE bN sE sN : Int → Int) (m s : Int) : Int := (sE s - bE m) * (sE s - bE m) + (sN s - bN m) * (sN s - bN m)
def ps2 (bE bN sE sN : Int → Int) (C m s j : Int) : Int := btw (bE m) (sE s) j C * 40 + btw (bN m) (sN s) j C
def mt1 (P : Int → Int → Int → Int) (m s n t j : Int) : Prop := P m s j = P n t j ∨ (0 < j ∧ P m s j = P n t (j - 1) ∧ P n t j = P m s (j - 1))
def mt (P : Int → Int → Int → Int) (C m s n t : Int) : Prop := ∃ j, 0 ≤ j ∧ j ≤ C ∧ mt1 P m s n t j
theorem mt_sym {P : Int → Int → Int → Int} {C m s n t : Int} (h : mt P C m s n t) : mt P C n t m s := by
  obtain ⟨j, a, b, q⟩ := h
  refine ⟨j, a, b, ?_⟩
  rcases q with q | q
  · exact Or.inl q.symm
  · exact Or.inr ⟨q.1, q.2.2, q.2.1⟩
def cfr (P : Int → Int → Int → Int) (C : Int) (r : Int → Int) (m s : Int) : Prop := ∀ j, 0 ≤ j → j < m → ¬ mt P C m s j (r j)
def rlf (P : Int → Int → Int → Int) (C n : Int) (r : Int → Int) : Prop := ∀ i j, 0 ≤ i → i < j → j < n → ¬ mt P C i (r i) j (r j)
abbrev bst : Type := Int × Int × (Int → Int)
noncomputable def gd (n : Int) (W : Int → Int → Int) (fr : (Int → Int) → Int → Int → Prop) (lf : (Int → Int) → Prop) : Nat → Int → Int → Int → Int → (Int → Int) → bst → bst
  | 0, _, _, mo, su, r, b => cif (lf r ∧ (b.1 < 0 ∨ mo < b.1 ∨ mo = b.1 ∧ su < b.2.1)) (mo, su, r) b
  | k + 1, m, u, mo, su, r, b => fo (fun s b => cif (tb u s = false ∧ fr r m s) (gd n W fr lf k (m + 1) (qior u (qishl 1 s)) (max mo (W m s)) (su + W m s) (rup r m s) b) b) 0 n b
theorem gd_bad {P : Int → Int → Int → Int} {C n : Int} {W : Int → Int → Int} (n0 : 0 ≤ n) : ∀ (k : Nat) (m u mo su : Int) (r : Int → Int) (b : bst), m + k = n → (∃ i j, 0 ≤ i ∧ i < j ∧ j < m ∧ mt P C i (r i) j (r j)) → gd n W (fun _ _ _ => True) (rlf P C n) k m u mo su r b = b := by
  intro k
  induction k with
  | zero =>
    intro m u mo su r b e ⟨i, j, i0, ij, jm, q⟩
    rw [gd, cif_f (fun z => z.1 i j i0 ij (by omega) q)]
  | succ k ih =>
    intro m u mo su r b e ⟨i, j, i0, ij, jm, q⟩
    rw [gd]
    refine fo_inv (fun _ b1 => b1 = b) (fun s b1 s0 s1 q1 => ?_) n0 rfl
    subst q1
    by_cases z : tb u s = false ∧ True
    · rw [cif_t z]
      refine ih _ _ _ _ _ _ (by omega) ⟨i, j, i0, ij, by omega, ?_⟩
      rw [rup_of (by omega), rup_of (by omega)]
      exact q
    · rw [cif_f z]
theorem gd_eq {P : Int → Int → Int → Int} {C n : Int} {W : Int → Int → Int} : ∀ (k : Nat) (m u mo su : Int) (r : Int → Int) (b : bst), 0 ≤ m → m + k = n → (∀ i j, 0 ≤ i → i < j → j < m → ¬ mt P C i (r i) j (r j)) → gd n W (fun _ _ _ => True) (rlf P C n) k m u mo su r b = gd n W (cfr P C) (fun _ => True) k m u mo su r b := by
  intro k
  induction k with
  | zero =>
    intro m u mo su r b m0 e q
    rw [gd, gd]
    have lf : rlf P C n r := fun i j i0 ij jn => q i j i0 ij (by omega)
    by_cases z : b.1 < 0 ∨ mo < b.1 ∨ mo = b.1 ∧ su < b.2.1
    · rw [cif_t ⟨lf, z⟩, cif_t ⟨trivial, z⟩]
    · rw [cif_f (fun y => z y.2), cif_f (fun y => z y.2)]
  | succ k ih =>
    intro m u mo su r b m0 e q
    rw [gd, gd]
    refine fo_eq (fun s b s0 s1 => ?_)
    by_cases z : tb u s = false
    · by_cases y : cfr P C r m s
      · rw [cif_t ⟨z, trivial⟩, cif_t ⟨z, y⟩]
        refine ih _ _ _ _ _ _ (by omega) (by omega) (fun i j i0 ij jm => ?_)
        by_cases e2 : j = m
        · rw [e2, rup_at, rup_of (by omega)]
          exact fun w => y i i0 (by omega) (mt_sym w)
        · rw [rup_of e2, rup_of (by omega)]
          exact q i j i0 ij (by omega)
      · rw [cif_t ⟨z, trivial⟩, cif_f (fun w => y w.2)]
        refine gd_bad (by omega) k _ _ _ _ _ _ (by omega) ?_
        have ⟨j, y2⟩ := Classical.not_forall.mp y
        have ⟨j0, y3⟩ := Classical.not_forall.mp y2
        have ⟨jm, y4⟩ := Classical.not_forall.mp y3
        refine ⟨j, m, j0, jm, by omega, ?_⟩
        rw [rup_at, rup_of (by omega)]
        exact mt_sym (Classical.not_not.mp y4)
    · rw [cif_f (fun w => z w.1), cif_f (fun w => z w.1)]
theorem gd_inv {n : Int} {W : Int → Int → Int} {fr : (Int → Int) → Int → Int → Prop} {lf : (Int → Int) → Prop} (J : bst → Prop) (n0 : 0 ≤ n) (w0 : ∀ m s, 0 ≤ m → m < n → 0 ≤ s → s < n → 0 ≤ W m s ∧ W m s ≤ 7200) : ∀ (k : Nat) (m u mo su : Int) (r : Int → Int) (b : bst), 0 ≤ m → m + k = n → 0 ≤ mo → mo ≤ 7200 → 0 ≤ su → su ≤ 7200 * m → (∀ j, 0 ≤ j → j < m → 0 ≤ r j ∧ r j < n) → (∀ mo su r, 0 ≤ mo → mo ≤ 7200 → 0 ≤ su → su ≤ 7200 * n → (∀ j, 0 ≤ j → j < n → 0 ≤ r j ∧ r j < n) → J (mo, su, r)) → J b → J (gd n W fr lf k m u mo su r b) := by
  intro k
  induction k with
  | zero =>
    intro m u mo su r b m0 e mo0 mo1 su0 su1 hr hj hb
    rw [gd]
    by_cases z : lf r ∧ (b.1 < 0 ∨ mo < b.1 ∨ mo = b.1 ∧ su < b.2.1)
    · rw [cif_t z]
      have e1 : m = n := by omega
      subst e1
      exact hj mo su r mo0 mo1 su0 su1 hr
    · rw [cif_f z]
      exact hb
  | succ k ih =>
    intro m u mo su r b m0 e mo0 mo1 su0 su1 hr hj hb
    rw [gd]
    refine fo_inv (fun _ b1 => J b1) (fun s b1 s0 s1 q1 => ?_) n0 hb
    try dsimp only
    by_cases z : tb u s = false ∧ fr r m s
    · rw [cif_t z]
      have w := w0 m s m0 (by omega) s0 s1
      refine ih _ _ _ _ _ _ (by omega) (by omega) (by omega) (by omega) (by omega) (by omega) (fun j j0 j1 => ?_) hj q1
      by_cases e2 : j = m
      · rw [e2, rup_at]; exact ⟨s0, s1⟩
      · rw [rup_of e2]; exact hr j j0 (by omega)
    · rw [cif_f z]
      exact q1
