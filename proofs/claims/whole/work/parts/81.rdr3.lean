/-! the reader: its steps in a row; readText of the class -/
theorem tkA_bd {B : Int → Int} {n p : Int} (p1 : p ≤ n) : p ≤ tkA B n p ∧ tkA B n p ≤ n := by
  have s := spn_ok (q := qBl B) (n - p).toNat p
  unfold tkA
  omega
theorem nvp3 {B : Int → Int} {a : Int} : ∀ k : Nat, k ≤ 3 → (∀ i, a ≤ i → i < a + k → 48 ≤ B i ∧ B i ≤ 57) → 0 ≤ nvp B a k ∧ nvp B a k ≤ 999 ∧ (k ≤ 2 → nvp B a k ≤ 99) ∧ (k ≤ 1 → nvp B a k ≤ 9) ∧ (k = 0 → nvp B a k = 0) := by
  intro k
  induction k with
  | zero => intro _ _; simp [nvp]
  | succ k ih =>
    intro k3 hB
    have i := ih (by omega) (fun j a b => hB j a (by omega))
    have b := hB (a + k) (by omega) (by omega)
    unfold nvp
    omega
theorem tkR_bd {B : Int → Int} {n a : Int} (a1 : a ≤ n) : (a ≤ (tkR B n a).2.1 ∧ (tkR B n a).2.1 ≤ n) ∧ (0 ≤ (tkR B n a).1 ∧ (tkR B n a).1 ≤ 4) ∧ ((tkR B n a).1 = 1 ↔ n ≤ a) ∧ ((tkR B n a).1 ≠ 1 → a < (tkR B n a).2.1) ∧ ((tkR B n a).1 = 3 → 0 ≤ (tkR B n a).2.2 ∧ (tkR B n a).2.2 ≤ 999) := by
  by_cases h : n ≤ a
  · rw [tkR, if_pos h]
    dsimp only
    omega
  by_cases l : qLt B a = true
  · have s := spn_ok (q := qLt B) (n - a).toNat a
    have s2 : a ≠ spn (qLt B) (n - a).toNat a := fun z => by
      have := s.2.2.2 (by omega)
      rw [← z, l] at this
      exact absurd this (by decide)
    rw [tkR, if_neg h, if_pos l]
    dsimp only
    unfold wEn
    omega
  by_cases g : qDg B a = true
  · have s := spn_ok (q := qDg B) (n - a).toNat a
    have s2 : a ≠ spn (qDg B) (n - a).toNat a := fun z => by
      have := s.2.2.2 (by omega)
      rw [← z, g] at this
      exact absurd this (by decide)
    rw [tkR, if_neg h, if_neg l, if_pos g]
    dsimp only
    unfold dEn
    generalize spn (qDg B) (n - a).toNat a = e at *
    by_cases c : e - a ≤ 3
    · rw [if_pos c]
      have b := nvp3 (B := B) (a := a) (e - a).toNat (by omega) (fun i i0 i1 => by
        have := s.2.2.1 i i0 (by omega)
        unfold qDg at this
        exact of_decide_eq_true this)
      omega
    · rw [if_neg c]
      omega
  · rw [tkR, if_neg h, if_neg l, if_neg g]
    dsimp only
    split <;> omega
def stp (B : Int → Int) (n t : Int) (S : qM) : qM := if ¬ S 9 2 = 0 ∨ ¬ S t 10 = 0 then S else if (tkR B n (tkA B n (S 9 5))).1 = 1 ∧ S 9 9 = 0 then qup (qup S 9 5 (tkR B n (tkA B n (S 9 5))).2.1) t 10 1 else tak t (tkA B n (S 9 5)) (tkR B n (tkA B n (S 9 5))) (qup S 9 5 (tkR B n (tkA B n (S 9 5))).2.1)
def its (B : Int → Int) (n t : Int) : Nat → qM → qM
  | 0, S => S
  | k + 1, S => stp B n t (its B n t k S)
def Rch (B : Int → Int) (n t : Int) (S0 S : qM) : Prop := ∃ k : Nat, its B n t k S0 = S
abbrev Std (t : Int) (S : qM) : Prop := ¬ S 9 2 = 0 ∨ ¬ S t 10 = 0
theorem Rch.rf {B : Int → Int} {n t : Int} {S : qM} : Rch B n t S S := ⟨0, rfl⟩
theorem Rch.st {B : Int → Int} {n t : Int} {S0 S : qM} (r : Rch B n t S0 S) : Rch B n t S0 (stp B n t S) := by
  obtain ⟨k, e⟩ := r
  exact ⟨k + 1, by rw [its, e]⟩
theorem its_std {B : Int → Int} {n t : Int} {S0 : qM} {k : Nat} (s : Std t (its B n t k S0)) : ∀ j, its B n t (k + j) S0 = its B n t k S0 := by
  intro j
  induction j with
  | zero => rfl
  | succ j ih =>
    show stp B n t (its B n t (k + j) S0) = _
    rw [ih, stp, if_pos s]
theorem Rch_uq {B : Int → Int} {n t : Int} {S0 S S' : qM} (r : Rch B n t S0 S) (r' : Rch B n t S0 S') (s : Std t S) (s' : Std t S') : S = S' := by
  obtain ⟨k, e⟩ := r
  obtain ⟨j, e'⟩ := r'
  subst e
  subst e'
  by_cases c : k ≤ j
  · have := its_std s (j - k)
    rw [show k + (j - k) = j by omega] at this
    exact this.symm
  · have := its_std s' (k - j)
    rw [show j + (k - j) = k by omega] at this
    exact this
/-- what a step may change -/
def PXk (t a i : Int) : Prop := (a = 9 ∧ (i = 2 ∨ i = 3 ∨ i = 9 ∨ i = 10 ∨ i = 11 ∨ i = 13 ∨ i = 14)) ∨ a = 11 ∨ (a = t ∧ (i = 8 ∨ i = 9 ∨ i = 11)) ∨ (t + 1 ≤ a ∧ a ≤ t + 8)
def PXt (t a i : Int) : Prop := PXk t a i ∨ (a = 9 ∧ i = 5)
theorem tak_fr {t a : Int} {T : Int × Int × Int} {S : qM} : Fr (PXk t) S (tak t a T S) := by
  have fl : ∀ v, Fr (PXk t) S (flt S v a) := fun v => Fr.up (Fr.up Fr.rf (by unfold PXk; omega)) (by unfold PXk; omega)
  unfold tak
  split
  · exact fl 1
  split
  · unfold tNm
    split
    · split
      · exact fl 3
      · exact Fr.up (Fr.up (Fr.up (Fr.up Fr.rf (by unfold PXk; omega)) (by unfold PXk; omega)) (by unfold PXk; omega)) (by unfold PXk; omega)
    · exact fl 2
  split
  · unfold tCo
    split
    · exact Fr.up Fr.rf (by unfold PXk; omega)
    · exact fl 2
  split
  · unfold tOr
    split
    · exact Fr.up (Fr.up (Fr.up Fr.rf (by unfold PXk; omega)) (by unfold PXk; omega)) (by unfold PXk; omega)
    split
    · exact Fr.up (Fr.up Fr.rf (by unfold PXk; omega)) (by unfold PXk; omega)
    generalize (if T.1 = 2 then kOf T.2.2 else -1) = kd
    unfold tOw
    split
    · exact fl 2
    split
    · exact fl 5
    split
    · exact fl 6
    · exact Fr.up (Fr.up (Fr.up (Fr.up (Fr.up (Fr.up (Fr.up (Fr.up (Fr.up Fr.rf (by unfold PXk; omega)) (by unfold PXk; omega)) (by unfold PXk; omega)) (by unfold PXk; omega)) (by unfold PXk; omega)) (by unfold PXk; omega)) (by unfold PXk; omega)) (by unfold PXk; omega)) (by unfold PXk; omega)
  split
  · unfold tBr
    split
    · exact Fr.up (Fr.up (Fr.up Fr.rf (by unfold PXk; omega)) (by unfold PXk; omega)) (by unfold PXk; omega)
    · exact fl 2
  split
  · unfold tSi
    split
    · exact Fr.up (Fr.up Fr.rf (by unfold PXk; omega)) (by unfold PXk; omega)
    split
    · exact Fr.up (Fr.up Fr.rf (by unfold PXk; omega)) (by unfold PXk; omega)
    · exact fl 2
  · unfold tNu
    split
    · exact Fr.up Fr.rf (by unfold PXk; omega)
    split
    · exact fl 2
    split
    · exact fl 4
    · have wr := wRw_bd (w := S 9 9)
      exact Fr.up (Fr.up (Fr.up Fr.rf (by unfold PXk; omega)) (by unfold PXk; omega)) (by unfold PXk; omega)
theorem flt_k {S : qM} {v a : Int} : flt S v a 9 2 = v ∧ flt S v a 9 3 = a := by
  unfold flt
  exact ⟨by rw [qup_of (by decide), qup_at], qup_at⟩
/-- at the end of the text a step is a fault -/
theorem tak_end {t a : Int} {T : Int × Int × Int} {S : qM} (e : T.1 = 1) (w : ¬ S 9 9 = 0) : tak t a T S = flt S 2 a := by
  have ns : ∀ v, ¬ isS T v := fun v z => by have := z.1; omega
  unfold tak
  rw [if_neg (by omega), if_neg w]
  split
  · rw [tCo, if_neg (ns _)]
  split
  · rw [tOr, if_neg (fun z => ns _ z.2), if_neg (fun z => ns _ z.2), if_neg (by omega), tOw, if_pos rfl]
  split
  · rw [tBr, if_neg (fun z => ns _ z.1)]
  split
  · rw [tSi, if_neg (by omega), if_neg (by omega)]
  · rw [tNu, if_neg (fun z => ns _ z.2.2), if_pos (by omega)]
section
variable {X : qX} {d : Nat} {sh : qS} {pt h : qM} {t n : Int} {B : Int → Int} {S0 : qM}
def PXs (t a i : Int) : Prop := PXt t a i ∨ (a = t ∧ i = 10)
theorem x_readLoop {K : qM → Prop} (hst : St sh pt) (ht : isT t) (tp : tpX S0 B n) (k : ∀ S h1, Rch B n t S0 S → Std t S → IV n t S → Fr (PXs t) S0 S → Fr jk S h1 → K h1) : ∀ (u : Nat) (v : Int) (S h : qM), n - S 9 5 + (if S 9 2 = 0 then 1 else 0) < u → Rch B n t S0 S → IV n t S → Fr (PXt t) S0 S → S t 10 = 0 → Fr jk S h → 0 ≤ v → v ≤ S 9 5 + (if S 9 2 = 0 then 0 else 1) → EvV X (d + 4) mX4_readText 54 [(2, 9), (8, -1), (2, t), (2, 2), (0, v)] [] sh pt h K := by
  have tn : t ≠ 9 ∧ t ≠ 10 ∧ t ≠ 11 ∧ t ≠ 2 ∧ 40 ≤ t := by rcases ht with e | e <;> omega
  intro u
  induction u with
  | zero =>
    intro v S h e r i
    have := i.2.2.2.2.2.2.2.2.1
    split at e <;> omega
  | succ u ih =>
    intro v S h eu r i fs t10 f v0 v1
    have tl := tp.2.1
    have pb := i.2.2.2.2.2.2.2.2.1
    have out : ¬ S 9 2 = 0 → K (qup h t 10 0) := fun q => k S _ r (Or.inl q) i (Fr.wk fs (fun x j z => Or.inl z)) (fun x j z => by
      by_cases c : x = t ∧ j = 10
      · rw [c.1, c.2, qup_at, t10]
      · rw [qup_of c]; exact f x j z)
    have e92 : h 9 2 = S 9 2 := f 9 2 (by unfold jk; omega)
    have e95 : h 9 5 = S 9 5 := f 9 5 (by unfold jk; omega)
    refine b_X4_readText_54 hst ht ?_
    rw [e92]
    refine ⟨fun c => ⟨fun q h1 e1 => by rw [e1]; exact out q, fun q => ?_⟩, fun c => ⟨fun q => ⟨fun _ h1 e1 => by rw [e1]; exact out q, fun z => absurd z q⟩, fun q => ?_⟩⟩
    · rw [if_pos q] at v1
      omega
    rw [if_pos q] at v1 eu
    have tpS : tpX h B n := by
      refine ⟨?_, tp.2.1, fun j j0 j1 => ?_⟩
      · rw [f 9 4 (by unfold jk; omega), fs 9 4 (by unfold PXt PXk; omega)]; exact tp.1
      · rw [f 10 j (by unfold jk; omega), fs 10 j (by unfold PXt PXk; omega)]; exact tp.2.2 j j0 j1
    have ab := tkA_bd (B := B) pb.2
    have tb := tkR_bd (B := B) (n := n) (a := tkA B n (S 9 5)) ab.2
    have nst : ¬ (¬ S 9 2 = 0 ∨ ¬ S t 10 = 0) := by omega
    refine x_nextToken hst tpS e95 pb.1 pb.2 (fun h5 f5 g1 g2 g3 g4 => ?_)
    have es : stp B n t S = (if (tkR B n (tkA B n (S 9 5))).1 = 1 ∧ S 9 9 = 0 then qup (qup S 9 5 (tkR B n (tkA B n (S 9 5))).2.1) t 10 1 else tak t (tkA B n (S 9 5)) (tkR B n (tkA B n (S 9 5))) (qup S 9 5 (tkR B n (tkA B n (S 9 5))).2.1)) := by rw [stp, if_neg nst]
    have rs := Rch.st r
    generalize tkR B n (tkA B n (S 9 5)) = T at *
    generalize tkA B n (S 9 5) = a at *
    have f6 : Fr jk (qup S 9 5 T.2.1) h5 := fun x j z => by
      by_cases c : x = 9 ∧ j = 5
      · rw [c.1, c.2, qup_at, g2]
      · rw [qup_of c, f5 x j (by unfold PTk; unfold jk at z; omega)]; exact f x j z
    have iv1 := IV_pos ht (q := T.2.1) (by omega) tb.1.2 i
    have w1 : qup S 9 5 T.2.1 9 9 = S 9 9 := qup_of (by decide)
    have h599 : h5 9 9 = S 9 9 := by rw [f6 9 9 (by unfold jk; omega), w1]
    have fs1 : Fr (PXt t) S0 (qup S 9 5 T.2.1) := Fr.up fs (by unfold PXt PXk; omega)
    have go : ¬ (T.1 = 1 ∧ S 9 9 = 0) → RunV X (d + 3) mX4_takeToken [(2, 9), (2, t), (2, 2)] sh pt h5 (fun h6 => (qI (v + 1)) ∧ EvV X (d + 4) mX4_readText 54 [(2, 9), (8, -1), (2, t), (2, 2), (0, (v + 1))] [] sh pt h6 K) := by
      intro ne
      rw [if_neg ne] at es
      rw [es] at rs
      refine x_takeToken hst ht f6 (IV_b iv1) (IV_l8 iv1) tb.2.2.2.2 g1 g3 g4 (fun h6 f7 => ⟨⟨by omega, by omega⟩, ?_⟩)
      have p5 : tak t a T (qup S 9 5 T.2.1) 9 5 = T.2.1 := by
        rw [tak_fr 9 5 (by unfold PXk; omega), qup_at]
      have ft : Fr (PXt t) S0 (tak t a T (qup S 9 5 T.2.1)) := Fr.tr fs1 (Fr.wk tak_fr (fun x j z => Or.inl z))
      have q10 : tak t a T (qup S 9 5 T.2.1) t 10 = 0 := by
        rw [tak_fr t 10 (by unfold PXk; omega), qup_of (by omega), t10]
      by_cases e1 : T.1 = 1
      · have w0 : ¬ S 9 9 = 0 := fun z => ne ⟨e1, z⟩
        have ef := tak_end (t := t) (a := a) (T := T) (S := qup S 9 5 T.2.1) e1 (by rw [w1]; exact w0)
        have ne2 : ¬ tak t a T (qup S 9 5 T.2.1) 9 2 = 0 := by rw [ef, flt_k.1]; decide
        exact ih (v + 1) _ h6 (by rw [p5, if_neg ne2]; omega) rs (IV_tak ht iv1) ft q10 f7 (by omega) (by rw [p5, if_neg ne2]; omega)
      · have lt := tb.2.2.2.1 e1
        refine ih (v + 1) _ h6 ?_ rs (IV_tak ht iv1) ft q10 f7 (by omega) ?_
        · rw [p5]; split <;> omega
        · rw [p5]; split <;> omega
    refine ⟨fun c1 => go (fun z => c1 (g1.trans z.1)), fun c1 => ⟨fun c2 => go (fun z => c2 (h599.trans z.2)), fun c2 => ⟨fun c3 => absurd ((f6 9 2 (by unfold jk; omega)).trans ((qup_of (by decide)).trans q)) c3, fun _ h9 e9 => ?_⟩⟩⟩
    rw [h599] at c2
    rw [g1] at c1
    rw [if_pos ⟨c1, c2⟩] at es
    rw [es] at rs
    refine k _ h9 rs (Or.inr (by rw [qup_at]; decide)) ?_ (Fr.up (Fr.wk fs1 (fun x j z => Or.inl z)) (Or.inr ⟨rfl, rfl⟩)) (by rw [e9]; exact Fr.cg f6)
    have iv2 : IV n t (qup (qup S 9 5 T.2.1) t 10 1) := by
      rcases ht with rfl | rfl <;> simpa [IV, qup] using iv1
    exact iv2
end
