/-! TOKENS -/
def spn (q : Int → Bool) : Nat → Int → Int
  | 0, p => p
  | f + 1, p => if q p then spn q f (p + 1) else p
theorem spn_ok {q : Int → Bool} : ∀ (f : Nat) (p : Int), p ≤ spn q f p ∧ spn q f p ≤ p + f ∧ (∀ i, p ≤ i → i < spn q f p → q i = true) ∧ (spn q f p < p + f → q (spn q f p) = false) := by
  intro f
  induction f with
  | zero => intro p; exact ⟨Int.le_refl _, by show p ≤ p + 0; omega, fun i a b => absurd b (by show ¬ i < p; omega), fun h => absurd h (by show ¬ p < p + 0; omega)⟩
  | succ f ih =>
    intro p
    unfold spn
    by_cases c : q p = true
    · rw [if_pos c]
      have i := ih (p + 1)
      refine ⟨by omega, by omega, fun j a b => ?_, fun h => i.2.2.2 (by omega)⟩
      by_cases e : j = p
      · rw [e]; exact c
      · exact i.2.2.1 j (by omega) b
    · rw [if_neg c]
      exact ⟨Int.le_refl _, by omega, fun j a b => by omega, fun _ => by simpa using c⟩
def qBl (B : Int → Int) (i : Int) : Bool := decide (B i = 10 ∨ B i = 32)
def qLt (B : Int → Int) (i : Int) : Bool := decide (97 ≤ B i ∧ B i ≤ 122)
def qDg (B : Int → Int) (i : Int) : Bool := decide (48 ≤ B i ∧ B i ≤ 57)
def wvp (B : Int → Int) (a : Int) : Nat → Int
  | 0 => 0
  | k + 1 => 32 * wvp B a k + B (a + k) - 96
def nvp (B : Int → Int) (a : Int) : Nat → Int
  | 0 => 0
  | k + 1 => 10 * nvp B a k + B (a + k) - 48
def tkA (B : Int → Int) (n p : Int) : Int := spn (qBl B) (n - p).toNat p
def wEn (B : Int → Int) (n a : Int) : Int := spn (qLt B) (n - a).toNat a
def dEn (B : Int → Int) (n a : Int) : Int := spn (qDg B) (n - a).toNat a
def isSg (v : Int) : Bool := decide (v = 58 ∨ v = 59 ∨ v = 123 ∨ v = 125 ∨ v = 45)
/-- kind (0 none, 1 the end, 2 a word, 3 a number, 4 a sign), where it ends, its value -/
def tkR (B : Int → Int) (n a : Int) : Int × Int × Int := if n ≤ a then (1, a, 0) else if qLt B a then (2, wEn B n a, if wEn B n a - a ≤ 8 then wvp B a (wEn B n a - a).toNat else -1) else if qDg B a then (if dEn B n a - a ≤ 3 then 3 else 0, dEn B n a, nvp B a (dEn B n a - a).toNat) else (if isSg (B a) then 4 else 0, a + 1, B a)
theorem spn_at {q : Int → Bool} {n p i : Int} (p1 : p ≤ n) (i0 : p ≤ i) (i1 : i ≤ n) (hq : ∀ j, p ≤ j → j < i → q j = true) (he : i < n → q i = false) : spn q (n - p).toNat p = i := by
  have s := spn_ok (q := q) (n - p).toNat p
  generalize spn q (n - p).toNat p = x at s
  by_cases c : x < i
  · have := s.2.2.2 (by omega)
    rw [hq x s.1 c] at this
    exact absurd this (by decide)
  · by_cases c2 : i < x
    · have := s.2.2.1 i i0 c2
      rw [he (by omega)] at this
      exact absurd this (by decide)
    · omega
theorem ipow {b : Int} (hb : 1 ≤ b) : ∀ (k j : Nat), j ≤ k → b ^ j ≤ b ^ k ∧ 0 < b ^ j := by
  have pos : ∀ j : Nat, 0 < b ^ j := by
    intro j
    induction j with
    | zero => rw [Int.pow_zero]; decide
    | succ j ih => rw [Int.pow_succ]; exact Int.mul_pos ih (by omega)
  intro k
  induction k with
  | zero => intro j h; rw [show j = 0 by omega]; exact ⟨Int.le_refl _, pos 0⟩
  | succ k ih =>
    intro j h
    by_cases e : j = k + 1
    · rw [e]; exact ⟨Int.le_refl _, pos _⟩
    · have i := ih j (by omega)
      refine ⟨Int.le_trans i.1 ?_, i.2⟩
      rw [Int.pow_succ]
      have := Int.mul_le_mul_of_nonneg_left hb (Int.le_of_lt (pos k))
      omega
theorem wvp_bd {B : Int → Int} {a : Int} : ∀ k : Nat, (∀ i, a ≤ i → i < a + k → qLt B i = true) → 0 ≤ wvp B a k ∧ wvp B a k < 32 ^ k := by
  intro k
  induction k with
  | zero => intro _; exact ⟨Int.le_refl _, show (0 : Int) < 1 by decide⟩
  | succ k ih =>
    intro h
    have i := ih (fun j x y => h j x (by omega))
    have w := of_decide_eq_true (h (a + k) (by omega) (by omega))
    rw [wvp, Int.pow_succ]
    omega
theorem nvp_bd {B : Int → Int} {a : Int} : ∀ k : Nat, (∀ i, a ≤ i → i < a + k → qDg B i = true) → 0 ≤ nvp B a k ∧ nvp B a k < 10 ^ k := by
  intro k
  induction k with
  | zero => intro _; exact ⟨Int.le_refl _, show (0 : Int) < 1 by decide⟩
  | succ k ih =>
    intro h
    have i := ih (fun j x y => h j x (by omega))
    have w := of_decide_eq_true (h (a + k) (by omega) (by omega))
    rw [nvp, Int.pow_succ]
    omega
theorem nat_or_32 {s b : Nat} (h : b < 32) : 32 * s ||| b = 32 * s + b := by
  have e := Nat.shiftLeft_add_eq_or_of_lt (i := 5) (b := b) (by omega) s
  rw [Nat.shiftLeft_eq] at e
  have e2 : 32 * s = s * 2 ^ 5 := by omega
  rw [e2, ← e]
theorem qlor_32 {s b : Int} (h0 : 0 ≤ s) (h1 : s ≤ 200000000000000000) (h2 : 0 ≤ b) (h3 : b < 32) : qlor (32 * s) b = 32 * s + b := by
  rw [qlor_nat (by omega) (by omega) h2 (by omega)]
  have e : (32 * s).toNat = 32 * s.toNat := by omega
  rw [e, nat_or_32 (by omega)]
  omega
section
variable {X : qX} {d : Nat} {sh : qS} {pt h : qM} {B : Int → Int} {n p : Int}
def PTk (a i : Int) : Prop := a = 9 ∧ (i = 5 ∨ i = 6 ∨ i = 7 ∨ i = 8)
def tpX (h : qM) (B : Int → Int) (n : Int) : Prop := h 9 4 = n ∧ n ≤ 500 ∧ ∀ i, 0 ≤ i → i < n → h 10 i = B i ∧ 0 ≤ B i ∧ B i ≤ 255
theorem tpX_fr {h1 : qM} (t : tpX h B n) (f : Fr PTk h h1) : tpX h1 B n := ⟨by rw [f _ _ (by unfold PTk; omega)]; exact t.1, t.2.1, fun i a b => by rw [f _ _ (by unfold PTk; omega)]; exact t.2.2 i a b⟩
theorem x_nextToken {K : qM → Prop} (hst : St sh pt) (tp : tpX h B n) (hp : h 9 5 = p) (p0 : 0 ≤ p) (p1 : p ≤ n) (k : ∀ h1, Fr PTk h h1 → h1 9 6 = (tkR B n (tkA B n p)).1 → h1 9 5 = (tkR B n (tkA B n p)).2.1 → h1 9 7 = tkA B n p → ((tkR B n (tkA B n p)).1 ≠ 0 → h1 9 8 = (tkR B n (tkA B n p)).2.2) → K h1) : RunV X (d + 2) mX4_nextToken [(2, 9)] sh pt h K := by
  have n5 := tp.2.1
  have s := spn_ok (q := qBl B) (n - p).toNat p
  have ea : spn (qBl B) (n - p).toNat p = tkA B n p := rfl
  rw [ea] at s
  generalize ta : tkA B n p = a at *
  have a0 : 0 ≤ a ∧ a ≤ n := by omega
  refine b_X4_nextToken hst (b_X4_skipBlanks hst ?_)
  rw [hp]
  have fin : ∀ h1, Fr PTk h h1 → h1 9 5 = a → ∀ h2 : qM, h2 = qup h1 9 7 (h1 9 5) → ∀ h3 : qM, h3 = qup h2 9 8 0 → (((h3 9 5) < (h3 9 4) → (0 ≤ (h3 9 5) ∧ (h3 9 5) < 500) ∧ RunI X (d + 1) mX4_isLetter [(0, (h3 10 (h3 9 5)))] sh pt h3 (fun r6 h5 => ((r6 = 0 → (0 ≤ (h5 9 5) ∧ (h5 9 5) < 500) ∧ RunI X (d + 1) mX4_isDigit [(0, (h5 10 (h5 9 5)))] sh pt h5 (fun r9 h8 => ((r9 = 0 → RunV X (d + 1) mX4_scanSign [(2, 9)] sh pt h8 (fun h10 => K h10)) ∧ (¬ r9 = 0 → RunV X (d + 1) mX4_scanNumber [(2, 9)] sh pt h8 (fun h11 => K h11))))) ∧ (¬ r6 = 0 → RunV X (d + 1) mX4_scanWord [(2, 9)] sh pt h5 (fun h12 => K h12))))) ∧ ((h3 9 4) ≤ (h3 9 5) → ∀ h13 : qM, h13 = qup h3 9 6 1 → K h13)) := fun h1 f1 c1 h2 e2 h3 e3 => by
    have f3 : Fr PTk h h3 := by rw [e3, e2]; exact (f1.up (by unfold PTk; omega)).up (by unfold PTk; omega)
    have t3 := tpX_fr tp f3
    have c3 : h3 9 5 = a := by rw [e3, e2, qup_of (by omega), qup_of (by omega)]; exact c1
    have p3 : h3 9 7 = a := by rw [e3, e2, qup_of (by omega), qup_at]; exact c1
    have v3 : h3 9 8 = 0 := by rw [e3, qup_at]
    rw [c3, t3.1]
    refine ⟨fun q => ?_, fun q h13 e13 => ?_⟩
    · have bb := t3.2.2 a a0.1 q
      rw [bb.1]
      -- what kind
      have word : 97 ≤ B a → B a ≤ 122 → RunV X (d + 1) mX4_scanWord [(2, 9)] sh pt h3 (fun h12 => K h12) := fun x y => by
        have lt : qLt B a = true := decide_eq_true ⟨x, y⟩
        have eR : tkR B n a = (2, wEn B n a, if wEn B n a - a ≤ 8 then wvp B a (wEn B n a - a).toNat else -1) := by rw [tkR, if_neg (by omega), if_pos lt]
        rw [eR] at k
        have sw := spn_ok (q := qLt B) (n - a).toNat a
        have ew : spn (qLt B) (n - a).toNat a = wEn B n a := rfl
        rw [ew] at sw
        generalize wEn B n a = e at *
        refine b_X4_scanWord hst ?_
        rw [c3]
        have done : ∀ h4, Fr PTk h h4 → h4 9 5 = e → h4 9 7 = a → (e - a ≤ 8 → h4 9 8 = wvp B a (e - a).toNat) → ∀ h6 : qM, h6 = qup h4 9 6 2 → (qI ((h6 9 5) - a)) ∧ ((((h6 9 5) - a) ≤ 8 → K h6) ∧ (8 < ((h6 9 5) - a) → ∀ h7 : qM, h7 = qup h6 9 8 (-1) → K h7)) := fun h4 f4 c4 p4 v4 h6 e6 => by
          have c6 : h6 9 5 = e := by rw [e6, qup_of (by omega)]; exact c4
          rw [c6]
          refine ⟨⟨by omega, by omega⟩, fun w => ?_, fun w h7 e7 => ?_⟩
          · rw [if_pos w] at k
            exact k h6 (by rw [e6]; exact f4.up (by unfold PTk; omega)) (by rw [e6, qup_at]) c6 (by rw [e6, qup_of (by omega)]; exact p4) (fun _ => by rw [e6, qup_of (by omega)]; exact v4 w)
          · rw [if_neg (by omega)] at k
            exact k h7 (by rw [e7, e6]; exact (f4.up (by unfold PTk; omega)).up (by unfold PTk; omega)) (by rw [e7, e6, qup_of (by omega), qup_at]) (by rw [e7, qup_of (by omega)]; exact c6) (by rw [e7, e6, qup_of (by omega), qup_of (by omega)]; exact p4) (fun _ => by rw [e7, qup_at])
        refine lp (σ := qM) (J := fun i h4 => Fr PTk h h4 ∧ h4 9 5 = i ∧ h4 9 7 = a ∧ (i - a ≤ 8 → h4 9 8 = wvp B a (i - a).toNat)) (C := fun i h4 => EvV X (d + 1) mX4_scanWord 7 [(2, 9), (0, a), (0, i)] [] sh pt h4 (fun h12 => K h12)) (n := e) sw.1 ?_ ?_ h3 ⟨f3, c3, p3, fun _ => by rw [v3, show (a - a).toNat = 0 by omega]; rfl⟩
        · intro i h4 i0 i1 ⟨f4, c4, p4, v4⟩ kk
          have t4 := tpX_fr tp f4
          have bi := t4.2.2 i (by omega) (by omega)
          have li := of_decide_eq_true (sw.2.2.1 i i0 i1)
          refine b_X4_scanWord_7 hst ⟨fun z => absurd z (by rw [t4.1]; omega), fun _ => ⟨⟨by omega, by omega⟩, ?_⟩⟩
          rw [bi.1]
          refine b_X4_isLetter hst ⟨fun z => absurd z (by omega), fun _ => ⟨fun z => absurd z (by omega), fun _ => ⟨fun z => absurd z (by decide), fun _ => ⟨⟨by omega, by omega⟩, ?_⟩⟩⟩⟩
          rw [bi.1]
          refine ⟨⟨by omega, by omega⟩, ⟨by omega, by omega⟩, fun h9 e9 => ⟨⟨by omega, by omega⟩, fun h10 e10 => ⟨⟨by omega, by omega⟩, kk h10 ⟨by rw [e10, e9]; exact (f4.up (by unfold PTk; omega)).up (by unfold PTk; omega), by rw [e10, qup_at], by rw [e10, e9, qup_of (by omega), qup_of (by omega)]; exact p4, fun w => ?_⟩⟩⟩⟩
          have vi := v4 (by omega)
          have bd := wvp_bd (B := B) (a := a) (i - a).toNat (fun j x y => sw.2.2.1 j x (by omega))
          have pw : (32 : Int) ^ (i - a).toNat ≤ 32 ^ 7 := (ipow (by decide) _ _ (by omega)).1
          have pv : (32 : Int) ^ 7 = 34359738368 := by decide
          rw [e10, e9, qup_of (by omega), qup_at, vi, qlshl_5 (by omega) (by omega), qlor_32 (by omega) (by omega) (by omega) (by omega), show (i + 1 - a).toNat = (i - a).toNat + 1 by omega, wvp, show a + (((i - a).toNat : Nat) : Int) = i by omega]
          omega
        · intro h4 ⟨f4, c4, p4, v4⟩
          have t4 := tpX_fr tp f4
          refine b_X4_scanWord_7 hst ⟨fun _ => done h4 f4 c4 p4 v4, fun z => ?_⟩
          rw [t4.1] at z
          have bi := t4.2.2 e (by omega) z
          have ni := of_decide_eq_false (sw.2.2.2 (by omega))
          rw [bi.1]
          exact ⟨⟨by omega, by omega⟩, b_X4_isLetter hst ⟨fun _ => ⟨fun _ => done h4 f4 c4 p4 v4, fun z => absurd rfl z⟩, fun x2 => ⟨fun _ => ⟨fun _ => done h4 f4 c4 p4 v4, fun z => absurd rfl z⟩, fun x3 => absurd ⟨x2, x3⟩ ni⟩⟩⟩
      have num : 48 ≤ B a → B a ≤ 57 → RunV X (d + 1) mX4_scanNumber [(2, 9)] sh pt h3 (fun h12 => K h12) := fun x y => by
        have nl : qLt B a = false := decide_eq_false (by omega)
        have dg : qDg B a = true := decide_eq_true ⟨x, y⟩
        have eR : tkR B n a = (if dEn B n a - a ≤ 3 then 3 else 0, dEn B n a, nvp B a (dEn B n a - a).toNat) := by rw [tkR, if_neg (by omega), if_neg (by rw [nl]; decide), if_pos dg]
        rw [eR] at k
        have sw := spn_ok (q := qDg B) (n - a).toNat a
        have ew : spn (qDg B) (n - a).toNat a = dEn B n a := rfl
        rw [ew] at sw
        generalize dEn B n a = e at *
        refine b_X4_scanNumber hst ?_
        rw [c3]
        have done : ∀ h4, Fr PTk h h4 → h4 9 5 = e → h4 9 7 = a → (e - a ≤ 3 → h4 9 8 = nvp B a (e - a).toNat) → (qI ((h4 9 5) - a)) ∧ ((((h4 9 5) - a) ≤ 3 → ∀ h6 : qM, h6 = qup h4 9 6 3 → K h6) ∧ (3 < ((h4 9 5) - a) → ∀ h7 : qM, h7 = qup h4 9 6 0 → K h7)) := fun h4 f4 c4 p4 v4 => by
          rw [c4]
          refine ⟨⟨by omega, by omega⟩, fun w h6 e6 => ?_, fun w h6 e6 => ?_⟩
          · rw [if_pos w] at k
            exact k h6 (by rw [e6]; exact f4.up (by unfold PTk; omega)) (by rw [e6, qup_at]) (by rw [e6, qup_of (by omega)]; exact c4) (by rw [e6, qup_of (by omega)]; exact p4) (fun _ => by rw [e6, qup_of (by omega)]; exact v4 w)
          · rw [if_neg (by omega)] at k
            exact k h6 (by rw [e6]; exact f4.up (by unfold PTk; omega)) (by rw [e6, qup_at]) (by rw [e6, qup_of (by omega)]; exact c4) (by rw [e6, qup_of (by omega)]; exact p4) (fun z => absurd rfl z)
        refine lp (σ := qM) (J := fun i h4 => Fr PTk h h4 ∧ h4 9 5 = i ∧ h4 9 7 = a ∧ (0 ≤ h4 9 8 ∧ h4 9 8 < 1000) ∧ (i - a ≤ 3 → h4 9 8 = nvp B a (i - a).toNat)) (C := fun i h4 => EvV X (d + 1) mX4_scanNumber 7 [(2, 9), (0, a), (0, i)] [] sh pt h4 (fun h12 => K h12)) (n := e) sw.1 ?_ ?_ h3 ⟨f3, c3, p3, by rw [v3]; decide, fun _ => by rw [v3, show (a - a).toNat = 0 by omega]; rfl⟩
        · intro i h4 i0 i1 ⟨f4, c4, p4, w4, v4⟩ kk
          have t4 := tpX_fr tp f4
          have bi := t4.2.2 i (by omega) (by omega)
          have li := of_decide_eq_true (sw.2.2.1 i i0 i1)
          refine b_X4_scanNumber_7 hst ⟨fun z => absurd z (by rw [t4.1]; omega), fun _ => ⟨⟨by omega, by omega⟩, ?_⟩⟩
          rw [bi.1]
          refine b_X4_isDigit hst ⟨fun z => absurd z (by omega), fun _ => ⟨fun z => absurd z (by omega), fun _ => ⟨fun z => absurd z (by decide), fun _ => ⟨⟨by omega, by omega⟩, ⟨by omega, by omega⟩, ?_⟩⟩⟩⟩
          rw [bi.1]
          refine ⟨⟨by omega, by omega⟩, ⟨by omega, by omega⟩, by omega, fun h9 e9 => ⟨⟨by omega, by omega⟩, fun h10 e10 => ⟨⟨by omega, by omega⟩, kk h10 ⟨by rw [e10, e9]; exact (f4.up (by unfold PTk; omega)).up (by unfold PTk; omega), by rw [e10, qup_at], by rw [e10, e9, qup_of (by omega), qup_of (by omega)]; exact p4, by rw [e10, e9, qup_of (by omega), qup_at]; omega, fun w => ?_⟩⟩⟩⟩
          have vi := v4 (by omega)
          have bd := nvp_bd (B := B) (a := a) (i - a).toNat (fun j x y => sw.2.2.1 j x (by omega))
          have pw : (10 : Int) ^ (i - a).toNat ≤ 10 ^ 2 := (ipow (by decide) _ _ (by omega)).1
          have pv : (10 : Int) ^ 2 = 100 := by decide
          rw [e10, e9, qup_of (by omega), qup_at, vi, show (i + 1 - a).toNat = (i - a).toNat + 1 by omega, nvp, show a + (((i - a).toNat : Nat) : Int) = i by omega]
          omega
        · intro h4 ⟨f4, c4, p4, w4, v4⟩
          have t4 := tpX_fr tp f4
          refine b_X4_scanNumber_7 hst ⟨fun _ => done h4 f4 c4 p4 v4, fun z => ?_⟩
          rw [t4.1] at z
          have bi := t4.2.2 e (by omega) z
          have ni := of_decide_eq_false (sw.2.2.2 (by omega))
          rw [bi.1]
          exact ⟨⟨by omega, by omega⟩, b_X4_isDigit hst ⟨fun _ => ⟨fun _ => done h4 f4 c4 p4 v4, fun z => absurd rfl z⟩, fun x2 => ⟨fun _ => ⟨fun _ => done h4 f4 c4 p4 v4, fun z => absurd rfl z⟩, fun x3 => absurd ⟨x2, x3⟩ ni⟩⟩⟩
      have sig : ¬ (97 ≤ B a ∧ B a ≤ 122) → ¬ (48 ≤ B a ∧ B a ≤ 57) → RunV X (d + 1) mX4_scanSign [(2, 9)] sh pt h3 (fun h12 => K h12) := fun x y => by
        have nl : qLt B a = false := decide_eq_false x
        have nd : qDg B a = false := decide_eq_false y
        have eR : tkR B n a = (if isSg (B a) then 4 else 0, a + 1, B a) := by rw [tkR, if_neg (by omega), if_neg (by rw [nl]; decide), if_neg (by rw [nd]; decide)]
        rw [eR] at k
        have yes : isSg (B a) = true → EvV X (d + 1) mX4_scanSign 45 [(2, 9), (0, B a), (8, -1)] [(0, 1)] sh pt h3 (fun h12 => K h12) := fun g => by
          refine b_X4_scanSign_45 hst ⟨fun z => absurd z (by decide), fun _ h4 e4 h5 e5 => ?_⟩
          have c5 : h5 9 5 = a := by rw [e5, e4, qup_of (by omega), qup_of (by omega)]; exact c3
          rw [c5]
          rw [if_pos g] at k
          refine ⟨⟨by omega, by omega⟩, fun h6 e6 => k h6 (by rw [e6, e5, e4]; exact ((f3.up (by unfold PTk; omega)).up (by unfold PTk; omega)).up (by unfold PTk; omega)) (by rw [e6, e5, e4, qup_of (by omega), qup_of (by omega), qup_at]) (by rw [e6, qup_at]) (by rw [e6, e5, e4, qup_of (by omega), qup_of (by omega), qup_of (by omega)]; exact p3) (fun _ => by rw [e6, e5, qup_of (by omega), qup_at])⟩
        have noo : isSg (B a) = false → EvV X (d + 1) mX4_scanSign 45 [(2, 9), (0, B a), (8, -1)] [(0, 0)] sh pt h3 (fun h12 => K h12) := fun g => by
          refine b_X4_scanSign_45 hst ⟨fun _ h4 e4 h5 e5 => ?_, fun z => absurd rfl z⟩
          have c5 : h5 9 5 = a := by rw [e5, e4, qup_of (by omega), qup_of (by omega)]; exact c3
          rw [c5]
          rw [if_neg (by rw [g]; decide)] at k
          refine ⟨⟨by omega, by omega⟩, fun h6 e6 => k h6 (by rw [e6, e5, e4]; exact ((f3.up (by unfold PTk; omega)).up (by unfold PTk; omega)).up (by unfold PTk; omega)) (by rw [e6, e5, e4, qup_of (by omega), qup_of (by omega), qup_at]) (by rw [e6, qup_at]) (by rw [e6, e5, e4, qup_of (by omega), qup_of (by omega), qup_of (by omega)]; exact p3) (fun z => absurd rfl z)⟩
        refine b_X4_scanSign hst ?_
        rw [c3, bb.1]
        exact ⟨⟨by omega, by omega⟩, fun g => yes (decide_eq_true (by omega)), fun g => ⟨fun g2 => yes (decide_eq_true (by omega)), fun g2 => ⟨fun g3 => yes (decide_eq_true (by omega)), fun g3 => ⟨fun g4 => yes (decide_eq_true (by omega)), fun g4 => ⟨fun g5 => noo (decide_eq_false (by omega)), fun g5 => yes (decide_eq_true (by omega))⟩⟩⟩⟩⟩
      have dig : ¬ (97 ≤ B a ∧ B a ≤ 122) → (0 ≤ (h3 9 5) ∧ (h3 9 5) < 500) ∧ RunI X (d + 1) mX4_isDigit [(0, (h3 10 (h3 9 5)))] sh pt h3 (fun r9 h8 => ((r9 = 0 → RunV X (d + 1) mX4_scanSign [(2, 9)] sh pt h8 (fun h10 => K h10)) ∧ (¬ r9 = 0 → RunV X (d + 1) mX4_scanNumber [(2, 9)] sh pt h8 (fun h11 => K h11)))) := fun x => by
        rw [c3, bb.1]
        exact ⟨⟨by omega, by omega⟩, b_X4_isDigit hst ⟨fun y => ⟨fun _ => sig x (by omega), fun z => absurd rfl z⟩, fun y => ⟨fun y2 => ⟨fun _ => sig x (by omega), fun z => absurd rfl z⟩, fun y2 => ⟨fun z => absurd z (by decide), fun _ => num y y2⟩⟩⟩⟩
      exact ⟨⟨by omega, by omega⟩, b_X4_isLetter hst ⟨fun x => ⟨fun _ => dig (by omega), fun z => absurd rfl z⟩, fun x => ⟨fun y => ⟨fun _ => dig (by omega), fun z => absurd rfl z⟩, fun y => ⟨fun z => absurd z (by decide), fun _ => word x y⟩⟩⟩⟩
    · have eR : tkR B n a = (1, a, 0) := by rw [tkR, if_pos q]
      rw [eR] at k
      exact k h13 (by rw [e13]; exact f3.up (by unfold PTk; omega)) (by rw [e13, qup_at]) (by rw [e13, qup_of (by omega)]; exact c3) (by rw [e13, qup_of (by omega)]; exact p3) (fun _ => by rw [e13, qup_of (by omega)]; exact v3)
  refine lp (σ := qM) (J := fun i h1 => Fr PTk h h1 ∧ h1 9 5 = i) (C := fun i h1 => EvV X (d + 1) mX4_skipBlanks 5 [(2, 9), (0, i)] [] sh pt h1 (fun h1 => ∀ h2 : qM, h2 = qup h1 9 7 (h1 9 5) → ∀ h3 : qM, h3 = qup h2 9 8 0 → (((h3 9 5) < (h3 9 4) → (0 ≤ (h3 9 5) ∧ (h3 9 5) < 500) ∧ RunI X (d + 1) mX4_isLetter [(0, (h3 10 (h3 9 5)))] sh pt h3 (fun r6 h5 => ((r6 = 0 → (0 ≤ (h5 9 5) ∧ (h5 9 5) < 500) ∧ RunI X (d + 1) mX4_isDigit [(0, (h5 10 (h5 9 5)))] sh pt h5 (fun r9 h8 => ((r9 = 0 → RunV X (d + 1) mX4_scanSign [(2, 9)] sh pt h8 (fun h10 => K h10)) ∧ (¬ r9 = 0 → RunV X (d + 1) mX4_scanNumber [(2, 9)] sh pt h8 (fun h11 => K h11))))) ∧ (¬ r6 = 0 → RunV X (d + 1) mX4_scanWord [(2, 9)] sh pt h5 (fun h12 => K h12))))) ∧ ((h3 9 4) ≤ (h3 9 5) → ∀ h13 : qM, h13 = qup h3 9 6 1 → K h13)))) (n := a) s.1 ?_ ?_ h ⟨Fr.rf, hp⟩
  · intro i h1 i0 i1 ⟨f1, c1⟩ kk
    have t1 := tpX_fr tp f1
    have bi := t1.2.2 i (by omega) (by omega)
    have li := of_decide_eq_true (s.2.2.1 i i0 i1)
    have nx : ∀ h2, h2 = qup h1 9 5 (i + 1) → Fr PTk h h2 ∧ h2 9 5 = i + 1 := fun h2 e2 => ⟨by rw [e2]; exact f1.up (by unfold PTk; omega), by rw [e2, qup_at]⟩
    refine b_X4_skipBlanks_5 hst ⟨fun z => absurd z (by rw [t1.1]; omega), fun _ => ⟨⟨by omega, by omega⟩, ?_⟩⟩
    rw [bi.1]
    exact ⟨fun z => ⟨⟨by omega, by omega⟩, fun h2 e2 => ⟨⟨by omega, by omega⟩, kk h2 (nx h2 e2)⟩⟩, fun z => ⟨⟨by omega, by omega⟩, fun z2 => absurd li (by omega), fun z2 => ⟨⟨by omega, by omega⟩, fun h2 e2 => ⟨⟨by omega, by omega⟩, kk h2 (nx h2 e2)⟩⟩⟩⟩
  · intro h1 ⟨f1, c1⟩
    have t1 := tpX_fr tp f1
    refine b_X4_skipBlanks_5 hst ⟨fun _ => fin h1 f1 c1, fun z => ?_⟩
    rw [t1.1] at z
    have bi := t1.2.2 a a0.1 z
    have ni := of_decide_eq_false (s.2.2.2 (by omega))
    rw [bi.1]
    exact ⟨⟨by omega, by omega⟩, fun z2 => absurd (Or.inl z2) ni, fun z2 => ⟨⟨by omega, by omega⟩, fun _ => fin h1 f1 c1, fun z3 => absurd (Or.inr z3) ni⟩⟩
end
