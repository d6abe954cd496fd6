/-! a RUN, told in the shape of the reference -/
def eOf (f : Int) : Int := if f = 0 ∨ f = 4 then 0 else if f < 4 then 1 else -1
def nOf (f : Int) : Int := if f = 2 ∨ f = 6 then 0 else if 2 < f ∧ f < 6 then -1 else 1
theorem eOf_bd {f : Int} : -1 ≤ eOf f ∧ eOf f ≤ 1 := by
  unfold eOf
  repeat' split
  all_goals omega
theorem nOf_bd {f : Int} : -1 ≤ nOf f ∧ nOf f ≤ 1 := by
  unfold nOf
  repeat' split
  all_goals omega
def fl (v o : Int) (S : qM) : qM := if S 78 67 ≤ 0 then qup (qup S 78 67 v) 78 68 (S 98 o) else S
/-- cells: where the body's i-th is at the beginning; a count ahead of the j-th; at the j-th -/
def cB (S : qM) (i : Int) : Int := 20 * S 78 63 + S 112 i
def cA (S : qM) (i j : Int) : Int := 20 * (S 78 63 + j - 1) + S 112 i
def cT (S : qM) (i j : Int) : Int := 20 * (S 78 63 + j) + S 112 i
def xB (S : qM) (i : Int) : Int := S 109 (cB S i) - S 109 (cB S 0)
def yB (S : qM) (i : Int) : Int := S 110 (cB S i) - S 110 (cB S 0)
def wE (o i : Int) (S : qM) : Int := if S 94 o = 6 then S 96 o * yB S i - xB S i else if S 94 o = 7 then (S 96 o - 1) * xB S i else if S 94 o = 8 then (xB S i).tdiv (S 96 o) - xB S i else S 96 o
def wN (o i : Int) (S : qM) : Int := if S 94 o = 6 then (-(S 96 o)) * xB S i - yB S i else if S 94 o = 7 then (S 96 o - 1) * yB S i else if S 94 o = 8 then (yB S i).tdiv (S 96 o) - yB S i else S 97 o
def gF (o i j : Int) (S : qM) : Int := if S 94 o = 4 ∧ ¬ i = 0 then S 111 (cA S (i - 1) j) else S 111 (cA S i j)
def gE (o i j n : Int) (S : qM) : Int := if S 94 o = 0 then S 109 (cA S i j) + eOf (S 111 (cA S i j)) else if S 94 o = 1 then S 109 (cA S i j) - eOf (S 111 (cA S i j)) else if S 94 o = 4 then (if i = 0 then S 109 (cA S i j) + eOf (S 111 (cA S i j)) else S 109 (cA S (i - 1) j)) else if 6 ≤ S 94 o ∧ S 94 o ≤ 9 then btw (S 109 (cB S i)) (S 109 (cB S i) + wE o i S) j n else S 109 (cA S i j)
def gN (o i j n : Int) (S : qM) : Int := if S 94 o = 0 then S 110 (cA S i j) + nOf (S 111 (cA S i j)) else if S 94 o = 1 then S 110 (cA S i j) - nOf (S 111 (cA S i j)) else if S 94 o = 4 then (if i = 0 then S 110 (cA S i j) + nOf (S 111 (cA S i j)) else S 110 (cA S (i - 1) j)) else if 6 ≤ S 94 o ∧ S 94 o ≤ 9 then btw (S 110 (cB S i)) (S 110 (cB S i) + wN o i S) j n else S 110 (cA S i j)
def pt3 (S : qM) (x e n f : Int) : qM := qup (qup (qup S 111 x f) 109 x e) 110 x n
def gOne (o i j n : Int) (S : qM) : qM := pt3 S (cT S i j) (gE o i j n S) (gN o i j n S) (gF o i j S)
abbrev onG (e n : Int) : Prop := (0 ≤ e ∧ e < 60) ∧ (0 ≤ n ∧ n < 40)
def gI (o j n i : Int) (S : qM) : qM := if onG (gE o i j n S) (gN o i j n S) then gOne o i j n S else fl 4 o (gOne o i j n S)
def ftv (v : Int) : Int := if v = 1 then 2 else 1
def ftS (o : Int) (S : qM) : qM := qup S 78 65 (if S 94 o = 3 then 0 else ftv (S 78 65))
def gJ (o n j : Int) (S : qM) : qM := ftS o (fo (gI o j n) 0 (S 78 62) S)
def whl (S : qM) (b : Int) : Prop := ∀ i, 0 ≤ i → i < S 78 62 → (xB S i).tmod b = 0 ∧ (yB S i).tmod b = 0
def tnI (v t i : Int) (S : qM) : qM := qup S 111 (20 * t + S 112 i) ((S 111 (20 * t + S 112 i) + v) % 8)
noncomputable def gGo (o : Int) (S : qM) : qM := qup (cif (S 94 o = 6) (fo (tnI (8 + 2 * S 96 o) (S 78 63 + S 95 o)) 0 (S 78 62) (fo (gJ o (S 95 o)) 1 (S 95 o + 1) S)) (fo (gJ o (S 95 o)) 1 (S 95 o + 1) S)) 78 63 (S 78 63 + S 95 o)
noncomputable def goF (o : Int) (S : qM) : qM := cif (150 < S 78 63 + S 95 o) (fl 2 o S) (cif (S 94 o = 8 ∧ ¬ whl S (S 96 o)) (fl 3 o S) (gGo o S))
abbrev well (f n : Int) : Prop := f = 0 ∨ n = 4 ∨ (n < 4 ∧ f = 1) ∨ (4 < n ∧ f = 2)
def tuF (n : Int) (S : qM) : qM := fo (tnI n (S 78 63)) 0 (S 78 62) (qup S 78 66 (S 78 66 + (if well (S 78 65) n then 0 else 1)))
noncomputable def itn (f : qM → qM) (a : Int) (S : qM) : qM := fo (fun _ U => cif (U 78 67 = 0) (f U) U) 0 a S
noncomputable def stpF (rec : Int → Int → qM → qM) (o : Int) (S : qM) : qM := cif (S 78 64 = 500) (fl 1 o S) (cif (S 94 o = 10) (itn (rec (o + 1) (S 99 o)) (S 95 o) (qup S 78 64 (S 78 64 + 1))) (cif (S 94 o = 5) (tuF (S 95 o) (qup S 78 64 (S 78 64 + 1))) (goF o (qup S 78 64 (S 78 64 + 1)))))
noncomputable def rlp (f : Int → qM → qM) : Nat → Int → Int → qM → qM
  | 0, _, _, S => S
  | k + 1, o, to, S => cif (o < to ∧ S 78 67 = 0) (rlp f k (S 99 o) to (f o S)) S
noncomputable def roF : Nat → Int → Int → qM → qM
  | 0, o, to, S => rlp (stpF (fun _ _ U => U)) 60 o to S
  | w + 1, o, to, S => rlp (stpF (roF w)) 60 o to S
/-! what holds of it -/
def bnd (S : qM) (x b : Int) : Prop := (-b ≤ S 109 x ∧ S 109 x ≤ b) ∧ (-b ≤ S 110 x ∧ S 110 x ≤ b) ∧ (0 ≤ S 111 x ∧ S 111 x < 8)
def gnd (S : qM) (x : Int) : Prop := (0 ≤ S 109 x ∧ S 109 x < 60) ∧ (0 ≤ S 110 x ∧ S 110 x < 40) ∧ (0 ≤ S 111 x ∧ S 111 x < 8)
def bdB (S : qM) : Prop := (0 ≤ S 78 62 ∧ S 78 62 ≤ 20) ∧ ∀ i, 0 ≤ i → i < S 78 62 → 0 ≤ S 112 i ∧ S 112 i < 20
def oKs (k a b c : Int) : Prop := (0 ≤ k ∧ k ≤ 10) ∧ (k ≤ 4 → 1 ≤ a ∧ a ≤ 99) ∧ (k = 5 → 1 ≤ a ∧ a ≤ 7) ∧ (k = 6 → (b = -1 ∨ b = 1) ∧ 1 ≤ a ∧ a ≤ 99) ∧ (k = 7 ∨ k = 8 → (2 ≤ b ∧ b ≤ 5) ∧ 1 ≤ a ∧ a ≤ 99) ∧ (k = 9 → (-59 ≤ b ∧ b ≤ 59) ∧ (-59 ≤ c ∧ c ≤ 59) ∧ 1 ≤ a ∧ a ≤ 99) ∧ (k = 10 → 2 ≤ a ∧ a ≤ 20)
def oK (S : qM) (o : Int) : Prop := (0 ≤ o ∧ o < 60) ∧ oKs (S 94 o) (S 95 o) (S 96 o) (S 97 o)
/-- an order that takes counts may begin -/
def OC (S : qM) (o : Int) : Prop := bdB S ∧ oK S o ∧ (0 ≤ S 78 63 ∧ S 78 63 + S 95 o ≤ 150) ∧ (∀ i, 0 ≤ i → i < S 78 62 → gnd S (cB S i)) ∧ ¬ S 94 o = 5 ∧ ¬ S 94 o = 10
def bC (S : qM) (x : Int) : Prop := ∃ i t, 0 ≤ i ∧ i < S 78 62 ∧ x = 20 * t + S 112 i
def PGr (S : qM) (a i : Int) : Prop := (a = 78 ∧ (i = 65 ∨ i = 67 ∨ i = 68)) ∨ ((a = 109 ∨ a = 110 ∨ a = 111) ∧ 20 * (S 78 63 + 1) ≤ i ∧ bC S i)
def GIV (S0 : qM) (o j i : Int) (S : qM) : Prop := Fr (PGr S0) S0 S ∧ (∀ i' t', 0 ≤ i' → i' < S0 78 62 → 1 ≤ t' → (t' < j ∨ (t' = j ∧ i' < i)) → bnd S (20 * (S0 78 63 + t') + S0 112 i') (400 + t')) ∧ (S 78 67 = 0 → ∀ i' t', 0 ≤ i' → i' < S0 78 62 → 1 ≤ t' → (t' < j ∨ (t' = j ∧ i' < i)) → gnd S (20 * (S0 78 63 + t') + S0 112 i')) ∧ (S 78 67 = 0 ∨ (S 78 67 = 4 ∧ S 78 68 = S0 98 o))
theorem OC_n {S : qM} {o : Int} (c : OC S o) : 1 ≤ S 95 o ∧ S 95 o ≤ 99 := by
  obtain ⟨_, ⟨_, k⟩, _, _, k5, k10⟩ := c
  unfold oKs at k
  omega
theorem tdiv_bd {x b m : Int} (b0 : 1 ≤ b) (h0 : -m ≤ x) (h1 : x ≤ m) : -m ≤ x.tdiv b ∧ x.tdiv b ≤ m := by
  rcases Int.le_total 0 x with h | h
  · rw [Int.tdiv_eq_ediv_of_nonneg h]
    have a := Int.ediv_nonneg h (show 0 ≤ b by omega)
    have c := Int.ediv_le_self b h
    omega
  · have e : x.tdiv b = -((-x).tdiv b) := by rw [Int.neg_tdiv]; omega
    rw [e, Int.tdiv_eq_ediv_of_nonneg (show 0 ≤ -x by omega)]
    have a := Int.ediv_nonneg (show 0 ≤ -x by omega) (show 0 ≤ b by omega)
    have c := Int.ediv_le_self b (show 0 ≤ -x by omega)
    omega
section
variable {S0 S : qM} {o i j n : Int}
theorem GIV_at (g : GIV S0 o j i S) : (∀ x, ¬ x = 65 → ¬ x = 67 → ¬ x = 68 → S 78 x = S0 78 x) ∧ (∀ x, S 112 x = S0 112 x) ∧ (∀ a x, a < 109 → ¬ a = 78 → S a x = S0 a x) := by
  refine ⟨fun x a b c => g.1 _ _ (by unfold PGr; omega), fun x => g.1 _ _ (by unfold PGr; omega), fun a x q q2 => g.1 _ _ (by unfold PGr; omega)⟩
theorem GIV_B (c : OC S0 o) (g : GIV S0 o j i S) (i0 : 0 ≤ i) (i1 : i < S0 78 62) : ∀ i', 0 ≤ i' → i' < S0 78 62 → (cB S i' = cB S0 i' ∧ S 109 (cB S i') = S0 109 (cB S0 i') ∧ S 110 (cB S i') = S0 110 (cB S0 i') ∧ S 111 (cB S i') = S0 111 (cB S0 i')) ∧ gnd S (cB S i') := by
  obtain ⟨e1, e2, e3⟩ := GIV_at g
  intro i' a b
  have m := c.1.2 i' a b
  have eb : cB S i' = cB S0 i' := by unfold cB; rw [e1 63 (by decide) (by decide) (by decide), e2]
  have lt : ¬ 20 * (S0 78 63 + 1) ≤ cB S0 i' := by unfold cB; omega
  have f1 : ∀ a, (a = 109 ∨ a = 110 ∨ a = 111) → S a (cB S0 i') = S0 a (cB S0 i') := fun a q => g.1 _ _ (by unfold PGr; omega)
  rw [eb, f1 109 (by omega), f1 110 (by omega), f1 111 (by omega)]
  refine ⟨⟨rfl, rfl, rfl, rfl⟩, ?_⟩
  have := c.2.2.2.1 i' a b
  unfold gnd at this ⊢
  rw [f1 109 (by omega), f1 110 (by omega), f1 111 (by omega)]
  exact this
theorem GIV_A (c : OC S0 o) (g : GIV S0 o j i S) (i0 : 0 ≤ i) (i1 : i < S0 78 62) (j0 : 1 ≤ j) : ∀ i', 0 ≤ i' → i' < S0 78 62 → bnd S (cA S i' j) (399 + j) := by
  obtain ⟨e1, e2, e3⟩ := GIV_at g
  intro i' a b
  have ea : cA S i' j = 20 * (S0 78 63 + (j - 1)) + S0 112 i' := by
    unfold cA
    rw [e1 63 (by decide) (by decide) (by decide), e2]
    omega
  by_cases q : j = 1
  · have z := (GIV_B c g i0 i1 i' a b).2
    have eb : cA S i' j = cB S i' := by
      rw [ea, q]
      unfold cB
      rw [e1 63 (by decide) (by decide) (by decide), e2]
      omega
    rw [eb]
    unfold gnd at z
    unfold bnd
    omega
  · have z := g.2.1 i' (j - 1) a b (by omega) (Or.inl (by omega))
    rw [ea, show 399 + j = 400 + (j - 1) by omega]
    exact z
theorem wEN_bd (c : OC S0 o) (g : GIV S0 o j i S) (i0 : 0 ≤ i) (i1 : i < S0 78 62) (k : 6 ≤ S0 94 o ∧ S0 94 o ≤ 9) : (-59 ≤ xB S i ∧ xB S i ≤ 59) ∧ (-39 ≤ yB S i ∧ yB S i ≤ 39) ∧ (-300 ≤ wE o i S ∧ wE o i S ≤ 300) ∧ (-300 ≤ wN o i S ∧ wN o i S ≤ 300) := by
  obtain ⟨e1, e2, e3⟩ := GIV_at g
  have z := (GIV_B c g i0 i1 i i0 i1).2
  have z0 := (GIV_B c g i0 i1 0 (by decide) (by omega)).2
  have ok := c.2.1.2
  have xb : -59 ≤ xB S i ∧ xB S i ≤ 59 := by unfold gnd at z z0; unfold xB; omega
  have yb : -39 ≤ yB S i ∧ yB S i ≤ 39 := by unfold gnd at z z0; unfold yB; omega
  refine ⟨xb, yb, ?_⟩
  unfold wE wN
  rw [e3 94 o (by decide) (by decide), e3 96 o (by decide) (by decide), e3 97 o (by decide) (by decide)]
  generalize xB S i = x at *
  generalize yB S i = y at *
  unfold oKs at ok
  have m1 := fun (h : 2 ≤ S0 96 o ∧ S0 96 o ≤ 5) => mul_bd (x := S0 96 o - 1) (y := x) (a := 4) (b := 59) (by omega) (by omega) (by omega) (by omega)
  have m2 := fun (h : 2 ≤ S0 96 o ∧ S0 96 o ≤ 5) => mul_bd (x := S0 96 o - 1) (y := y) (a := 4) (b := 59) (by omega) (by omega) (by omega) (by omega)
  have t1 := fun (h : 2 ≤ S0 96 o ∧ S0 96 o ≤ 5) => tdiv_bd (x := x) (b := S0 96 o) (m := 59) (by omega) (by omega) (by omega)
  have t2 := fun (h : 2 ≤ S0 96 o ∧ S0 96 o ≤ 5) => tdiv_bd (x := y) (b := S0 96 o) (m := 59) (by omega) (by omega) (by omega)
  have cs : S0 94 o = 6 ∨ S0 94 o = 7 ∨ S0 94 o = 8 ∨ S0 94 o = 9 := by omega
  rcases cs with q | q | q | q <;> rw [q] at ok ⊢
  · have b6 := (ok.2.2.2.1 rfl).1
    simp only [reduceIte]
    rcases b6 with e | e <;> rw [e] <;> omega
  · have b6 := (ok.2.2.2.2.1 (Or.inl rfl)).1
    have := m1 b6
    have := m2 b6
    simp only [Int.reduceEq, reduceIte]
    omega
  · have b6 := (ok.2.2.2.2.1 (Or.inr rfl)).1
    have := t1 b6
    have := t2 b6
    simp only [Int.reduceEq, reduceIte]
    omega
  · have b6 := (ok.2.2.2.2.2.1 rfl)
    simp only [Int.reduceEq, reduceIte]
    omega
theorem gEN_bd (c : OC S0 o) (g : GIV S0 o j i S) (i0 : 0 ≤ i) (i1 : i < S0 78 62) (j0 : 1 ≤ j) (j1 : j ≤ S0 95 o) : (-(400 + j) ≤ gE o i j (S0 95 o) S ∧ gE o i j (S0 95 o) S ≤ 400 + j) ∧ (-(400 + j) ≤ gN o i j (S0 95 o) S ∧ gN o i j (S0 95 o) S ≤ 400 + j) ∧ (0 ≤ gF o i j S ∧ gF o i j S < 8) := by
  obtain ⟨e1, e2, e3⟩ := GIV_at g
  have nb := OC_n c
  have a1 := GIV_A c g i0 i1 j0 i i0 i1
  have eb := eOf_bd (f := S 111 (cA S i j))
  have nb2 := nOf_bd (f := S 111 (cA S i j))
  have z := (GIV_B c g i0 i1 i i0 i1).2
  unfold bnd at a1
  unfold gnd at z
  have ek : S 94 o = S0 94 o := e3 94 o (by decide) (by decide)
  refine ⟨?_, ?_, ?_⟩
  · unfold gE
    split
    · omega
    split
    · omega
    split
    · split
      · omega
      · have a2 := GIV_A c g i0 i1 j0 (i - 1) (by omega) (by omega)
        unfold bnd at a2
        omega
    split
    · rename_i k
      rw [ek] at k
      obtain ⟨_, _, w1, w2⟩ := wEN_bd c g i0 i1 k
      have bb := btw_bd (f := S 109 (cB S i)) (t := S 109 (cB S i) + wE o i S) (j := j) (n := S0 95 o) (by omega) j1 (by omega)
      omega
    · omega
  · unfold gN
    split
    · omega
    split
    · omega
    split
    · split
      · omega
      · have a2 := GIV_A c g i0 i1 j0 (i - 1) (by omega) (by omega)
        unfold bnd at a2
        omega
    split
    · rename_i k
      rw [ek] at k
      obtain ⟨_, _, w1, w2⟩ := wEN_bd c g i0 i1 k
      have bb := btw_bd (f := S 110 (cB S i)) (t := S 110 (cB S i) + wN o i S) (j := j) (n := S0 95 o) (by omega) j1 (by omega)
      omega
    · omega
  · unfold gF
    split
    · have a2 := GIV_A c g i0 i1 j0 (i - 1) (by omega) (by omega)
      unfold bnd at a2
      omega
    · omega
end
