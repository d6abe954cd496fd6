/-! the reader: one step of the class -/
def jk (a i : Int) : Prop := a = 9 ∧ (i = 6 ∨ i = 7 ∨ i = 8)
theorem Fr.cg {P : Int → Int → Prop} {h h1 : qM} {a i v : Int} (f : Fr P h h1) : Fr P (qup h a i v) (qup h1 a i v) := fun x j q => by
  by_cases e : x = a ∧ j = i
  · rw [e.1, e.2, qup_at, qup_at]
  · rw [qup_of e, qup_of e, f x j q]
def kOf (v : Int) : Int := fnd qstW v 11 0
def wbw (k : Int) : Int := if k = 5 then 6 else if k = 6 then 4 else if k = 7 then 7 else if k = 8 then 7 else if k = 9 then 8 else if k = 10 then 10 else 5
def wLo (w : Int) : Int := if w = 6 then 1 else if w = 7 then 2 else if w = 8 then -1 else if w = 9 then -1 else if w = 10 then 2 else 1
def wHi (w : Int) : Int := if w = 6 then 7 else if w = 7 then 5 else if w = 8 then 59 else if w = 9 then 59 else if w = 10 then 20 else 99
def wRw (w : Int) : Int := if w = 6 then 3 else if w = 7 then 3 else if w = 8 then 3 else if w = 9 then 4 else if w = 10 then 3 else 5
def wNx (w : Int) : Int := if w = 6 then 2 else if w = 7 then 5 else if w = 8 then 9 else if w = 9 then 5 else if w = 10 then 3 else 2
def flt (S : qM) (k a : Int) : qM := qup (qup S 9 2 k) 9 3 a
def tNm (t a : Int) (T : Int × Int × Int) (S : qM) : qM := if T.1 = 2 then (if fnd (S 7) T.2.2 (S 2 8).toNat 0 = -1 ∨ ¬ qiand (qiushr (S 9 14) (fnd (S 7) T.2.2 (S 2 8).toNat 0)) 1 = 0 then flt S 3 a else qup (qup (qup (qup S 9 14 (qior (S 9 14) (qishl 1 (fnd (S 7) T.2.2 (S 2 8).toNat 0)))) (t + 8) (S t 9) (qiand (S 8 (fnd (S 7) T.2.2 (S 2 8).toNat 0)) (qixor (S t 11) (-1)))) t 11 (qior (S t 11) (S 8 (fnd (S 7) T.2.2 (S 2 8).toNat 0)))) 9 9 1) else flt S 2 a
abbrev isS (T : Int × Int × Int) (v : Int) : Prop := T.1 = 4 ∧ T.2.2 = v
def tCo (a : Int) (T : Int × Int × Int) (S : qM) : qM := if isS T 58 then qup S 9 9 2 else flt S 2 a
def tAd (t a k : Int) (S : qM) : qM := qup (qup (qup (qup (qup (qup (qup (qup (qup S (t + 1) (S t 8) k) (t + 2) (S t 8) a) (t + 3) (S t 8) 0) (t + 4) (S t 8) 0) (t + 5) (S t 8) 0) (t + 6) (S t 8) (S t 8 + 1)) t 8 (S t 8 + 1)) 9 10 (S t 8)) 9 9 (wbw k)
def tOw (t a k : Int) (S : qM) : qM := if k = -1 then flt S 2 a else if 60 ≤ S t 8 then flt S 5 a else if k = 10 ∧ 3 ≤ S 9 13 then flt S 6 a else tAd t a k S
def tOr (t a : Int) (T : Int × Int × Int) (S : qM) : qM := if S 9 13 = 0 ∧ isS T 59 then qup (qup (qup S (t + 7) (S t 9) (S t 8)) t 9 (S t 9 + 1)) 9 9 0 else if 0 < S 9 13 ∧ isS T 125 then qup (qup S 9 13 (S 9 13 - 1)) (t + 6) (S 11 (S 9 13 - 1)) (S t 8) else tOw t a (if T.1 = 2 then kOf T.2.2 else -1) S
def tBr (a : Int) (T : Int × Int × Int) (S : qM) : qM := if isS T 123 ∧ S 9 13 < 3 then qup (qup (qup S 11 (S 9 13) (S 9 10)) 9 13 (S 9 13 + 1)) 9 9 2 else flt S 2 a
def tSi (t a : Int) (T : Int × Int × Int) (S : qM) : qM := if T.1 = 2 ∧ T.2.2 = 398548 then qup (qup S (t + 3) (S 9 10) 0) 9 9 5 else if T.1 = 2 ∧ T.2.2 = 19176724 then qup (qup S (t + 3) (S 9 10) 1) 9 9 5 else flt S 2 a
def tNu (t a : Int) (T : Int × Int × Int) (S : qM) : qM := if (S 9 9 = 8 ∨ S 9 9 = 9) ∧ S 9 11 = 0 ∧ isS T 45 then qup S 9 11 1 else if ¬ T.1 = 3 then flt S 2 a else if ¬ (wLo (S 9 9) ≤ T.2.2 ∧ T.2.2 ≤ wHi (S 9 9)) then flt S 4 a else qup (qup (qup S (t + wRw (S 9 9)) (S 9 10) (if S 9 11 = 0 then T.2.2 else -T.2.2)) 9 9 (wNx (S 9 9))) 9 11 0
def tak (t a : Int) (T : Int × Int × Int) (S : qM) : qM := if T.1 = 0 then flt S 1 a else if S 9 9 = 0 then tNm t a T S else if S 9 9 = 1 then tCo a T S else if S 9 9 = 2 then tOr t a T S else if S 9 9 = 3 then tBr a T S else if S 9 9 = 4 then tSi t a T S else tNu t a T S
section
variable {X : qX} {d : Nat} {sh : qS} {pt h S : qM} {t a : Int} {T : Int × Int × Int}
theorem x_kindOf {K : Int → qM → Prop} {v : Int} (hst : St sh pt) : ∀ (k : Nat) (i : Int), i + k = 11 → 0 ≤ i → K (fnd qstW v k i) h → EvI X d mX4_kindOf 2 [(1, v), (8, -1), (0, i)] [] sh pt h K := by
  intro k
  induction k with
  | zero =>
    intro i h1 h2 k
    exact b_X4_kindOf_2 hst ⟨fun _ => k, fun c => absurd c (by omega)⟩
  | succ k ih =>
    intro i h1 h2 k
    unfold fnd at k
    refine b_X4_kindOf_2 hst ⟨fun c => absurd c (by omega), fun _ => ⟨by omega, fun c => ⟨⟨by omega, by omega⟩, ?_⟩, fun c => ?_⟩⟩
    · rw [if_neg c] at k
      exact ih (i + 1) (by omega) (by omega) k
    · rw [if_pos c] at k
      exact k
theorem x_fail {K : qM → Prop} {v : Int} (hst : St sh pt) (f : Fr jk S h) (ha : h 9 7 = a) (k : ∀ h1, Fr jk (flt S v a) h1 → K h1) : RunV X d mX4_fail [(2, 9), (0, v)] sh pt h K := by
  refine b_X4_fail hst (fun h1 e1 h2 e2 => k _ ?_)
  rw [e2, e1, qup_of (by decide), ha]
  exact Fr.cg (Fr.cg f)
theorem x_isSign {K : Int → qM → Prop} {v : Int} (hst : St sh pt) (h6 : h 9 6 = T.1) (h8 : T.1 ≠ 0 → h 9 8 = T.2.2) (k1 : isS T v → K 1 h) (k0 : ¬ isS T v → K 0 h) : RunI X d mX4_isSign [(2, 9), (0, v)] sh pt h K := by
  refine b_X4_isSign hst ⟨fun q => k0 (fun z => q (h6.trans z.1)), fun q => ?_⟩
  rw [h6] at q
  rw [h8 (by omega)]
  exact ⟨fun z => k0 (fun y => z y.2), fun z => k1 ⟨q, z⟩⟩
/-- what holds of the places that are written -/
def IVb (t : Int) (S : qM) : Prop := (0 ≤ S t 8 ∧ S t 8 ≤ 60) ∧ (0 ≤ S 9 13 ∧ S 9 13 ≤ 3) ∧ (3 ≤ S 9 9 → 0 ≤ S 9 10 ∧ S 9 10 < S t 8) ∧ (∀ i, 0 ≤ i → i < S 9 13 → 0 ≤ S 11 i ∧ S 11 i < S t 8) ∧ (0 ≤ S t 9 ∧ S t 9 ≤ 8) ∧ (S 9 9 ≠ 0 → S t 9 < 8) ∧ (0 ≤ S 9 9 ∧ S 9 9 ≤ 10) ∧ (0 ≤ S 2 8 ∧ S 2 8 ≤ 8)
theorem x_takeToken {K : qM → Prop} (hst : St sh pt) (ht : isT t) (f : Fr jk S h) (iv : IVb t S) (l8 : S 9 9 = 0 → ∀ g, 0 ≤ g → g < 8 → qiand (qiushr (S 9 14) g) 1 = 0 → S t 9 < 8) (tb3 : T.1 = 3 → 0 ≤ T.2.2 ∧ T.2.2 ≤ 999) (h6 : h 9 6 = T.1) (h7 : h 9 7 = a) (h8 : T.1 ≠ 0 → h 9 8 = T.2.2) (k : ∀ h1, Fr jk (tak t a T S) h1 → K h1) : RunV X (d + 3) mX4_takeToken [(2, 9), (2, t), (2, 2)] sh pt h K := by
  obtain ⟨i1, i2, i3, i4, i5, i6, i7, i8⟩ := iv
  have tn : t ≠ 9 := by rcases ht with e | e <;> omega
  have e : ∀ x i : Int, x ≠ 9 → h x i = S x i := fun x i q => f x i (by unfold jk; omega)
  have e9 : ∀ i : Int, i ≠ 6 → i ≠ 7 → i ≠ 8 → h 9 i = S 9 i := fun i p q r => f 9 i (by unfold jk; omega)
  have w9 := e9 9 (by decide) (by decide) (by decide)
  refine b_X4_takeToken hst ht ⟨fun q => ?_, fun q => x_fail hst f h7 (fun h1 f1 => k _ (by rw [tak, if_pos (by omega)]; exact f1))⟩
  rw [h6] at q
  have v8 := h8 q
  rw [w9]
  have no : ∀ {d : Nat} (v : Int), flt S v a = tak t a T S → RunV X d mX4_fail [(2, 9), (0, v)] sh pt h K := fun v y => x_fail hst f h7 (fun h1 f1 => k _ (by rw [← y]; exact f1))
  refine ⟨fun w => ?_, fun w => ?_, fun w => ?_, fun w => ?_, fun w => ?_, fun w => ?_⟩
  · have ek : tak t a T S = tNm t a T S := by rw [tak, if_neg q, if_pos w]
    refine b_X4_takeName hst ht ⟨fun u => ?_, fun u => no 2 (by rw [ek, tNm, if_neg (by omega)])⟩
    rw [h6] at u
    rw [v8]
    refine b_X2_groupNamed hst (x_groupNamed hst (by rw [e 2 8 (by decide)]; omega) (h 2 8).toNat 0 (by rw [e 2 8 (by decide)]; omega) (by decide) ?_)
    have e7 : h 7 = S 7 := by funext i; exact e 7 i (by decide)
    rw [e7, e 2 8 (by decide), e9 14 (by decide) (by decide) (by decide)]
    have fo := fnd_ok (f := S 7) (v := T.2.2) (S 2 8).toNat 0
    rw [ek] at k no
    unfold tNm at k no
    rw [if_pos u] at k no
    generalize fnd (S 7) T.2.2 (S 2 8).toNat 0 = g at *
    refine ⟨fun z => no 3 (by rw [if_pos (Or.inl z)]), fun z => ⟨fun y => ?_, fun y => no 3 (by rw [if_pos (Or.inr y)])⟩⟩
    have gb : 0 ≤ g ∧ g < 8 := by omega
    intro h4 e4
    have l9 := l8 w g gb.1 gb.2 y
    rw [if_neg (by omega)] at k
    have f4 : Fr jk (qup S 9 14 (qior (S 9 14) (qishl 1 g))) h4 := by rw [e4]; exact Fr.cg f
    have t9 : h4 t 9 = S t 9 := by rw [e4, qup_of (by omega), e _ _ tn]
    have t11 : h4 t 11 = S t 11 := by rw [e4, qup_of (by omega), e _ _ tn]
    have t8 : h4 8 g = S 8 g := by rw [e4, qup_of (by omega), e _ _ (by decide)]
    refine ⟨gb, b_X7_beginLine hst ht ?_⟩
    rw [t9, t11, t8]
    refine ⟨by omega, fun h5 e5 h6 e6 h7 e7 => k _ ?_⟩
    have t12 : h5 t 11 = S t 11 := by rw [e5, qup_of (by omega), t11]
    rw [e7, e6, t12, e5]
    exact Fr.cg (Fr.cg (Fr.cg f4))
  · have ek : tak t a T S = tCo a T S := by rw [tak, if_neg q, if_neg (by omega), if_pos w]
    rw [ek] at k no
    unfold tCo at k no
    exact b_X4_takeColon hst (x_isSign hst h6 h8 (fun z => ⟨fun _ h3 e3 => k _ (by rw [if_pos z, e3]; exact Fr.cg f), fun y => absurd y (by decide)⟩) (fun z => ⟨fun y => absurd rfl y, fun _ => no 2 (by rw [if_neg z])⟩))
  · have ek : tak t a T S = tOr t a T S := by rw [tak, if_neg q, if_neg (by omega), if_neg (by omega), if_pos w]
    rw [ek] at k no
    have m13 := e9 13 (by decide) (by decide) (by decide)
    have wd : ¬ (S 9 13 = 0 ∧ isS T 59) → ¬ (0 < S 9 13 ∧ isS T 125) → EvV X (d + 2) mX4_takeOrder 75 [(2, 9), (2, t)] [] sh pt h K := by
      intro n1 n2
      unfold tOr at k no
      rw [if_neg n1, if_neg n2] at k no
      have ow : ∀ kd : Int, kd = (if T.1 = 2 then kOf T.2.2 else -1) → RunV X (d + 1) mX4_takeOrderWord [(2, 9), (2, t), (0, kd)] sh pt h K := by
        intro kd ekd
        rw [← ekd] at k no
        unfold tOw at k no
        have ad : ¬ kd = -1 → S t 8 < 60 → ¬ (kd = 10 ∧ 3 ≤ S 9 13) → EvV X (d + 1) mX4_takeOrderWord 53 [(2, 9), (2, t), (0, kd)] [] sh pt h K := by
          intro z1 z2 z3
          rw [if_neg z1, if_neg (by omega), if_neg z3] at k
          have t8 := e t 8 tn
          refine b_X4_takeOrderWord_53 hst ht (b_X7_addOrder hst ht ?_)
          rw [t8, h7]
          refine ⟨by omega, fun h2 e2 => ⟨by omega, fun h4 e4 => ⟨by omega, fun h6 e6 => ⟨by omega, fun h8 e8 => ⟨by omega, fun h10 e10 => ⟨⟨by omega, by omega⟩, by omega, fun h12 e12 => ?_⟩⟩⟩⟩⟩⟩
          have u8 : h12 t 8 = S t 8 := by rw [e12, qup_of (by omega), e10, qup_of (by omega), e8, qup_of (by omega), e6, qup_of (by omega), e4, qup_of (by omega), e2, qup_of (by omega), t8]
          rw [u8]
          refine ⟨⟨by omega, by omega⟩, fun h13 e13 h14 e14 => ?_⟩
          have fin : ∀ r, r = wbw kd → ∀ h15, h15 = qup h14 9 9 r → K h15 := by
            intro r er h15 e15
            refine k _ ?_
            rw [e15, er, e14, e13, e12, e10, e8, e6, e4, e2]
            exact Fr.cg (Fr.cg (Fr.cg (Fr.cg (Fr.cg (Fr.cg (Fr.cg (Fr.cg (Fr.cg f))))))))
          refine b_X4_wantedBehindWord hst ?_
          refine ⟨fun y => fin _ (by rw [wbw, if_pos y]), fun y => fin _ (by rw [wbw, if_neg (by omega), if_pos y]), fun y => fin _ (by rw [wbw, if_neg (by omega), if_neg (by omega), if_pos y]), fun y => fin _ (by rw [wbw, if_neg (by omega), if_neg (by omega), if_neg (by omega), if_pos y]), fun y => fin _ (by rw [wbw, if_neg (by omega), if_neg (by omega), if_neg (by omega), if_neg (by omega), if_pos y]), fun y => fin _ (by rw [wbw, if_neg (by omega), if_neg (by omega), if_neg (by omega), if_neg (by omega), if_neg (by omega), if_pos y]), fun y => fin _ (by rw [wbw, if_neg (by omega), if_neg (by omega), if_neg (by omega), if_neg (by omega), if_neg (by omega), if_neg (by omega)])⟩
        refine b_X4_takeOrderWord hst ht ⟨fun z => ?_, fun z => no 2 (by rw [if_pos z])⟩
        rw [e t 8 tn, m13]
        refine ⟨fun y => ⟨fun x => ad z y (fun c => x c.1), fun x => ⟨fun c => ad z y (by omega), fun c => no 6 (by rw [if_neg z, if_neg (by omega), if_pos ⟨x, c⟩])⟩⟩, fun y => no 5 (by rw [if_neg z, if_pos y])⟩
      refine b_X4_takeOrder_75 hst ht ⟨fun z => ow _ (by rw [if_neg (by omega)]), fun z => ?_⟩
      rw [v8]
      exact b_X4_kindOf hst (x_kindOf hst 11 0 (by decide) (by decide) (ow _ (by rw [if_pos (by omega)]; rfl)))
    have br : ¬ (S 9 13 = 0 ∧ isS T 59) → EvV X (d + 2) mX4_takeOrder 28 [(2, 9), (2, t)] [] sh pt h K := by
      intro n1
      refine b_X4_takeOrder_28 hst ht ?_
      rw [m13]
      refine ⟨fun z => wd n1 (by omega), fun z => x_isSign hst h6 h8 (fun y => ⟨fun c => absurd c (by decide), fun _ => ⟨⟨by omega, by omega⟩, fun h3 e3 => ?_⟩⟩) (fun y => ⟨fun _ => wd n1 (fun c => y c.2), fun c => absurd rfl c⟩)⟩
      rw [m13] at e3
      have d13 : h3 9 13 = S 9 13 - 1 := by rw [e3, qup_at]
      have d11 : h3 11 (S 9 13 - 1) = S 11 (S 9 13 - 1) := by rw [e3, qup_of (by omega), e _ _ (by decide)]
      have d8 : h3 t 8 = S t 8 := by rw [e3, qup_of (by omega), e _ _ tn]
      have b4 := i4 (S 9 13 - 1) (by omega) (by omega)
      rw [d13, d11, d8]
      refine ⟨by omega, by omega, fun h6 e6 => k _ ?_⟩
      rw [tOr, if_neg n1, if_pos ⟨z, y⟩, e6, e3]
      exact Fr.cg (Fr.cg f)
    refine b_X4_takeOrder hst ht ?_
    rw [m13]
    refine ⟨fun z => br (fun c => z c.1), fun z => x_isSign hst h6 h8 (fun y => ⟨fun c => absurd c (by decide), fun _ => b_X7_endLine hst ht ?_⟩) (fun y => ⟨fun _ => br (fun c => y c.2), fun c => absurd rfl c⟩)⟩
    rw [e t 9 tn, e t 8 tn]
    have i6' := i6 (by omega)
    refine ⟨by omega, fun h2 e2 => ?_⟩
    have u9 : h2 t 9 = S t 9 := by rw [e2, qup_of (by omega), e _ _ tn]
    rw [u9]
    refine ⟨⟨by omega, by omega⟩, fun h3 e3 h4 e4 => k _ ?_⟩
    rw [tOr, if_pos ⟨z, y⟩, e4, e3, e2]
    exact Fr.cg (Fr.cg (Fr.cg f))
  · have ek : tak t a T S = tBr a T S := by rw [tak, if_neg q, if_neg (by omega), if_neg (by omega), if_neg (by omega), if_pos w]
    rw [ek] at k no
    unfold tBr at k no
    refine b_X4_takeBrace hst (x_isSign hst h6 h8 (fun z => ⟨fun y => absurd y (by decide), fun _ => ?_⟩) (fun z => ⟨fun _ => no 2 (by rw [if_neg (fun c => z c.1)]), fun y => absurd rfl y⟩))
    rw [e9 13 (by decide) (by decide) (by decide), e9 10 (by decide) (by decide) (by decide)]
    refine ⟨fun y => ⟨by omega, fun h5 e5 => ?_⟩, fun y => no 2 (by rw [if_neg (fun c => by omega)])⟩
    have u : h5 9 13 = S 9 13 := by rw [e5, qup_of (by omega), e9 13 (by decide) (by decide) (by decide)]
    rw [u]
    refine ⟨⟨by omega, by omega⟩, fun h6 e6 h7 e7 => k _ ?_⟩
    rw [if_pos ⟨z, y⟩, e7, e6, e5]
    exact Fr.cg (Fr.cg (Fr.cg f))
  · have ek : tak t a T S = tSi t a T S := by rw [tak, if_neg q, if_neg (by omega), if_neg (by omega), if_neg (by omega), if_neg (by omega), if_pos w]
    rw [ek] at k no
    unfold tSi at k no
    have m10 := e9 10 (by decide) (by decide) (by decide)
    have bo := i3 (by omega)
    have sd : T.1 = 2 → (T.2.2 = 398548 ∨ T.2.2 = 19176724) → EvV X (d + 2) mX4_takeSide 36 [(2, 9), (2, t)] [] sh pt h K := by
      intro z1 z2
      refine b_X4_takeSide_36 hst ht ?_
      rw [v8, m10]
      refine ⟨fun z => ⟨by omega, fun h2 e2 h3 e3 => k _ ?_⟩, fun z => ⟨by omega, fun h2 e2 h3 e3 => k _ ?_⟩⟩
      · rw [if_neg (by omega), if_pos (by omega), e3, e2]
        exact Fr.cg (Fr.cg f)
      · rw [if_pos (by omega), e3, e2]
        exact Fr.cg (Fr.cg f)
    refine b_X4_takeSide hst ht ?_
    rw [h6, v8]
    refine ⟨fun z => no 2 (by rw [if_neg (by omega), if_neg (by omega)]), fun z => ⟨fun y => sd z (Or.inl y), fun y => ⟨fun x => sd z (Or.inr x), fun x => no 2 (by rw [if_neg (by omega), if_neg (by omega)])⟩⟩⟩
  · have ek : tak t a T S = tNu t a T S := by rw [tak, if_neg q, if_neg (by omega), if_neg (by omega), if_neg (by omega), if_neg (by omega), if_neg (by omega)]
    rw [ek] at k no
    have m10 := e9 10 (by decide) (by decide) (by decide)
    have m11 := e9 11 (by decide) (by decide) (by decide)
    have bo := i3 (by omega)
    have nu : ¬ ((S 9 9 = 8 ∨ S 9 9 = 9) ∧ S 9 11 = 0 ∧ isS T 45) → EvV X (d + 2) mX4_takeNumber 52 [(2, 9), (2, t), (8, -1)] [] sh pt h K := by
      intro n1
      unfold tNu at k no
      rw [if_neg n1] at k no
      refine b_X4_takeNumber_52 hst ht ⟨fun z => ?_, fun z => no 2 (by rw [if_pos (by omega)])⟩
      rw [h6] at z
      have tb := tb3 z
      have ql : ql2i (h 9 8) = T.2.2 := by rw [v8]; exact ql2i_id ⟨by omega, by omega⟩
      rw [ql]
      rw [if_neg (fun c => c z)] at k no
      have bad : ¬ (wLo (S 9 9) ≤ T.2.2 ∧ T.2.2 ≤ wHi (S 9 9)) → RunV X (d + 1) mX4_fail [(2, 9), (0, 4)] sh pt h K := fun c => no 4 (by rw [if_pos c])
      have kp : ∀ v : Int, v = (if S 9 11 = 0 then T.2.2 else -T.2.2) → (wLo (S 9 9) ≤ T.2.2 ∧ T.2.2 ≤ wHi (S 9 9)) → RunV X (d + 1) mX4_keepNumber [(2, 9), (2, t), (0, v)] sh pt h (fun h3 => ∀ h4 : qM, h4 = qup h3 9 11 0 → K h4) := by
        intro v ev c
        rw [if_neg (fun y => y c), ← ev] at k
        have fin : ∀ rw nx, rw = wRw (S 9 9) → nx = wNx (S 9 9) → ∀ h2, h2 = qup h (t + rw) (S 9 10) v → ∀ h3, h3 = qup h2 9 9 nx → ∀ h4 : qM, h4 = qup h3 9 11 0 → K h4 := by
          intro rw1 nx e1 e2 h2 e3 h3 e4 h4 e5
          refine k _ ?_
          rw [e5, e4, e3, e1, e2]
          exact Fr.cg (Fr.cg (Fr.cg f))
        refine b_X4_keepNumber hst ht ?_
        rw [w9, m10]
        refine ⟨fun y => ⟨by omega, fin 3 2 (by rw [wRw, if_pos y]) (by rw [wNx, if_pos y])⟩, fun y => ⟨by omega, fin 3 5 (by rw [wRw, if_neg (by omega), if_pos y]) (by rw [wNx, if_neg (by omega), if_pos y])⟩, fun y => ⟨by omega, fin 3 9 (by rw [wRw, if_neg (by omega), if_neg (by omega), if_pos y]) (by rw [wNx, if_neg (by omega), if_neg (by omega), if_pos y])⟩, fun y => ⟨by omega, fin 4 5 (by rw [wRw, if_neg (by omega), if_neg (by omega), if_neg (by omega), if_pos y]) (by rw [wNx, if_neg (by omega), if_neg (by omega), if_neg (by omega), if_pos y])⟩, fun y => ⟨by omega, fin 3 3 (by rw [wRw, if_neg (by omega), if_neg (by omega), if_neg (by omega), if_neg (by omega), if_pos y]) (by rw [wNx, if_neg (by omega), if_neg (by omega), if_neg (by omega), if_neg (by omega), if_pos y])⟩, fun y => ⟨by omega, fin 5 2 (by rw [wRw, if_neg (by omega), if_neg (by omega), if_neg (by omega), if_neg (by omega), if_neg (by omega)]) (by rw [wNx, if_neg (by omega), if_neg (by omega), if_neg (by omega), if_neg (by omega), if_neg (by omega)])⟩⟩
      have no0 : ¬ (wLo (S 9 9) ≤ T.2.2 ∧ T.2.2 ≤ wHi (S 9 9)) → ((¬ (0 : Int) = 0 → ((h 9 11 = 0 → RunV X (d + 1) mX4_keepNumber [(2, 9), (2, t), (0, ql2i (h 9 8))] sh pt h (fun h3 => ∀ h4 : qM, h4 = qup h3 9 11 0 → K h4)) ∧ (¬ h 9 11 = 0 → (qI (-(ql2i (h 9 8)))) ∧ RunV X (d + 1) mX4_keepNumber [(2, 9), (2, t), (0, -(ql2i (h 9 8)))] sh pt h (fun h5 => ∀ h6 : qM, h6 = qup h5 9 11 0 → K h6)))) ∧ ((0 : Int) = 0 → RunV X (d + 1) mX4_fail [(2, 9), (0, 4)] sh pt h (fun h7 => K h7))) := by
        rw [m11, ql]
        exact fun c => ⟨fun y => absurd rfl y, fun _ => bad c⟩
      have ok1 : (wLo (S 9 9) ≤ T.2.2 ∧ T.2.2 ≤ wHi (S 9 9)) → ((¬ (1 : Int) = 0 → ((h 9 11 = 0 → RunV X (d + 1) mX4_keepNumber [(2, 9), (2, t), (0, ql2i (h 9 8))] sh pt h (fun h3 => ∀ h4 : qM, h4 = qup h3 9 11 0 → K h4)) ∧ (¬ h 9 11 = 0 → (qI (-(ql2i (h 9 8)))) ∧ RunV X (d + 1) mX4_keepNumber [(2, 9), (2, t), (0, -(ql2i (h 9 8)))] sh pt h (fun h5 => ∀ h6 : qM, h6 = qup h5 9 11 0 → K h6)))) ∧ ((1 : Int) = 0 → RunV X (d + 1) mX4_fail [(2, 9), (0, 4)] sh pt h (fun h7 => K h7))) := by
        rw [m11, ql]
        exact fun c => ⟨fun _ => ⟨fun y => kp _ (by rw [if_pos y]) c, fun y => ⟨⟨by omega, by omega⟩, kp _ (by rw [if_neg y]) c⟩⟩, fun y => absurd y (by decide)⟩
      refine b_X4_isWithin hst ?_
      rw [w9]
      refine ⟨fun y => ?_, fun y => ?_, fun y => ?_, fun y => ?_, fun y => ?_, fun y => ?_⟩
      · have l : wLo (S 9 9) = 1 := by rw [wLo, if_pos y]
        have u : wHi (S 9 9) = 7 := by rw [wHi, if_pos y]
        exact ⟨fun c => no0 (by omega), fun c1 => ⟨fun c => no0 (by omega), fun c => ok1 (by omega)⟩⟩
      · have l : wLo (S 9 9) = 2 := by rw [wLo, if_neg (by omega), if_pos y]
        have u : wHi (S 9 9) = 5 := by rw [wHi, if_neg (by omega), if_pos y]
        exact ⟨fun c => no0 (by omega), fun c1 => ⟨fun c => no0 (by omega), fun c => ok1 (by omega)⟩⟩
      · have l : wLo (S 9 9) = -1 := by rw [wLo, if_neg (by omega), if_neg (by omega), if_pos y]
        have u : wHi (S 9 9) = 59 := by rw [wHi, if_neg (by omega), if_neg (by omega), if_pos y]
        exact ⟨fun c => no0 (by omega), fun c => ok1 (by omega)⟩
      · have l : wLo (S 9 9) = -1 := by rw [wLo, if_neg (by omega), if_neg (by omega), if_neg (by omega), if_pos y]
        have u : wHi (S 9 9) = 59 := by rw [wHi, if_neg (by omega), if_neg (by omega), if_neg (by omega), if_pos y]
        exact ⟨fun c => no0 (by omega), fun c => ok1 (by omega)⟩
      · have l : wLo (S 9 9) = 2 := by rw [wLo, if_neg (by omega), if_neg (by omega), if_neg (by omega), if_neg (by omega), if_pos y]
        have u : wHi (S 9 9) = 20 := by rw [wHi, if_neg (by omega), if_neg (by omega), if_neg (by omega), if_neg (by omega), if_pos y]
        exact ⟨fun c => no0 (by omega), fun c1 => ⟨fun c => no0 (by omega), fun c => ok1 (by omega)⟩⟩
      · have l : wLo (S 9 9) = 1 := by rw [wLo, if_neg (by omega), if_neg (by omega), if_neg (by omega), if_neg (by omega), if_neg (by omega)]
        have u : wHi (S 9 9) = 99 := by rw [wHi, if_neg (by omega), if_neg (by omega), if_neg (by omega), if_neg (by omega), if_neg (by omega)]
        exact ⟨fun c => no0 (by omega), fun c1 => ⟨fun c => no0 (by omega), fun c => ok1 (by omega)⟩⟩
    have wh : (S 9 9 = 8 ∨ S 9 9 = 9) → EvV X (d + 2) mX4_takeNumber 23 [(2, 9), (2, t), (8, -1)] [(0, 1)] sh pt h K := by
      intro z
      refine b_X4_takeNumber_23 hst ht ?_
      rw [m11]
      refine ⟨fun y => absurd y (by decide), fun _ => ⟨fun y => nu (fun c => y c.2.1), fun y => x_isSign hst h6 h8 (fun x => ⟨fun c => absurd c (by decide), fun _ h3 e3 => k _ ?_⟩) (fun x => ⟨fun _ => nu (fun c => x c.2.2), fun c => absurd rfl c⟩)⟩⟩
      rw [tNu, if_pos ⟨z, y, x⟩, e3]
      exact Fr.cg f
    refine b_X4_takeNumber hst ht ?_
    rw [w9]
    refine ⟨fun y => wh (Or.inl y), fun y => ⟨fun x => b_X4_takeNumber_23 hst ht ⟨fun _ => nu (by omega), fun c => absurd rfl c⟩, fun x => wh (Or.inr x)⟩⟩
end
