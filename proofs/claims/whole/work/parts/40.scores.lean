/-! MARKS -/
theorem mulb {a b A B : Int} (h1 : 0 ≤ a) (h2 : a ≤ A) (h3 : 0 ≤ b) (h4 : b ≤ B) : 0 ≤ a * b ∧ a * b ≤ A * B := ⟨Int.mul_nonneg h1 h3, Int.mul_le_mul h2 h4 h3 (Int.le_trans h1 h2)⟩
/-- of the marks of k judges: how many, their sum, the least, the greatest -/
def sc (f : Int → Int) : Nat → Int × Int × Int × Int
  | 0 => (0, 0, 100, 0)
  | k + 1 => if f k < 0 then sc f k else ((sc f k).1 + 1, (sc f k).2.1 + f k, min (sc f k).2.2.1 (f k), max (sc f k).2.2.2 (f k))
theorem sc_ok {f : Int → Int} : ∀ (k : Nat), (∀ j : Int, 0 ≤ j → j < k → -1 ≤ f j ∧ f j ≤ 100) →
    (0 ≤ (sc f k).1 ∧ (sc f k).1 ≤ k) ∧ (0 ≤ (sc f k).2.1 ∧ (sc f k).2.1 ≤ 100 * (sc f k).1) ∧ (0 ≤ (sc f k).2.2.1 ∧ (sc f k).2.2.1 ≤ 100) ∧ (0 ≤ (sc f k).2.2.2 ∧ (sc f k).2.2.2 ≤ 100) ∧
    ((sc f k).1 = 0 → (sc f k).2.1 = 0 ∧ (sc f k).2.2.1 = 100 ∧ (sc f k).2.2.2 = 0) ∧ ((sc f k).1 = 1 → (sc f k).2.2.1 = (sc f k).2.1 ∧ (sc f k).2.2.2 = (sc f k).2.1) ∧ (2 ≤ (sc f k).1 → (sc f k).2.2.1 + (sc f k).2.2.2 ≤ (sc f k).2.1) := by
  intro k
  induction k with
  | zero =>
    intro _
    simp [sc]
  | succ k ih =>
    intro hf
    have h1 := ih (fun j h0 h1 => hf j h0 (by omega))
    have h2 := hf k (by omega) (by omega)
    unfold sc
    split
    · omega
    · simp only
      omega
def adj (q : Int × Int × Int × Int) : Int × Int := if 3 ≤ q.1 then (q.1 - 2, q.2.1 - (q.2.2.1 + q.2.2.2)) else (q.1, q.2.1)
theorem adj_ok {f : Int → Int} (hf : ∀ j : Int, 0 ≤ j → j < 9 → -1 ≤ f j ∧ f j ≤ 100) : (0 ≤ (adj (sc f 9)).1 ∧ (adj (sc f 9)).1 ≤ 7) ∧ (0 ≤ (adj (sc f 9)).2 ∧ (adj (sc f 9)).2 ≤ 900) ∧ ((adj (sc f 9)).1 = 0 ↔ (sc f 9).1 = 0) := by
  have h := sc_ok 9 hf
  unfold adj
  by_cases c : 3 ≤ (sc f 9).1
  · rw [if_pos c]
    exact ⟨⟨by dsimp only; omega, by dsimp only; omega⟩, ⟨by dsimp only; omega, by dsimp only; omega⟩, by dsimp only; omega⟩
  · rw [if_neg c]
    exact ⟨⟨by dsimp only; omega, by dsimp only; omega⟩, ⟨by dsimp only; omega, by dsimp only; omega⟩, Iff.rfl⟩
/-- the total of three traits, as a fraction -/
def tT (N S w : Int → Int) : Nat → Int × Int
  | 0 => (0, 1)
  | k + 1 => ((tT N S w k).1 * N k + (tT N S w k).2 * S k * w k, (tT N S w k).2 * N k)
theorem tT_ok {N S w : Int → Int} (hN : ∀ j : Int, 0 ≤ j → j < 3 → 0 ≤ N j ∧ N j ≤ 7) (hS : ∀ j : Int, 0 ≤ j → j < 3 → 0 ≤ S j ∧ S j ≤ 900) (hw : ∀ j : Int, 0 ≤ j → j < 3 → 1 ≤ w j ∧ w j ≤ 9) : ∀ k : Nat, k ≤ 3 → (0 ≤ (tT N S w k).1 ∧ (tT N S w k).1 ≤ 8100 * 8 ^ k) ∧ (0 ≤ (tT N S w k).2 ∧ (tT N S w k).2 ≤ 7 ^ k) := by
  intro k
  induction k with
  | zero => intro _; simp [tT]
  | succ k ih =>
    intro hk
    have h1 := ih (by omega)
    have n1 := hN k (by omega) (by omega)
    have s1 := hS k (by omega) (by omega)
    have w1 := hw k (by omega) (by omega)
    unfold tT
    simp only
    have a1 := mulb h1.1.1 h1.1.2 n1.1 n1.2
    have a2 := mulb h1.2.1 h1.2.2 s1.1 s1.2
    have a3 := mulb a2.1 a2.2 (by omega : 0 ≤ w k) w1.2
    have a4 := mulb h1.2.1 h1.2.2 n1.1 n1.2
    have hk3 : k = 0 ∨ k = 1 ∨ k = 2 := by omega
    rcases hk3 with rfl | rfl | rfl <;> omega
section
variable {X : qX} {d : Nat} {sh : qS} {pt h : qM}
theorem x_min {K : Int → qM → Prop} {a b : Int} (hst : St sh pt) (k : K (min a b) h) : RunI X d mJ9_min_7cf53 [(0, a), (0, b)] sh pt h K := by
  refine b_J9_min_7cf53 hst  ?_
  refine And.intro (fun c1_ => ?_) (fun c1_ => ?_)
  · (first | (rw [show min a b = a by omega] at k; exact k) | (rw [show min a b = b by omega] at k; exact k))
  · (first | (rw [show min a b = a by omega] at k; exact k) | (rw [show min a b = b by omega] at k; exact k))
theorem x_max {K : Int → qM → Prop} {a b : Int} (hst : St sh pt) (k : K (max a b) h) : RunI X d mJ9_max_7cf53 [(0, a), (0, b)] sh pt h K := by
  refine b_J9_max_7cf53 hst  ?_
  refine And.intro (fun c1_ => ?_) (fun c1_ => ?_)
  · (first | (rw [show max a b = a by omega] at k; exact k) | (rw [show max a b = b by omega] at k; exact k))
  · (first | (rw [show max a b = a by omega] at k; exact k) | (rw [show max a b = b by omega] at k; exact k))
theorem x_weight {K : Int → qM → Prop} {v1 v2 : Int} (hst : St sh pt) (k1 : ¬ (0 ≤ v1 ∧ v1 < 3) → K 0 (qup h 0 12 2)) (k2 : 0 ≤ v1 → v1 < 3 → ¬ (1 ≤ v2 ∧ v2 ≤ 9) → K 0 (qup h 0 12 5))
    (k3 : 0 ≤ v1 → v1 < 3 → 1 ≤ v2 → v2 ≤ 9 → K 1 (qup (qup h 42 v1 v2) 0 12 0)) : RunI X (d + 1) mX10_weight [(2, 0), (0, v1), (0, v2)] sh pt h K := by
  refine b_X10_weight hst  ?_
  refine b_X6_isTrait hst  ?_
  refine And.intro (fun c1_ => ?_) (fun c1_ => ?_)
  · refine And.intro (fun c_ => absurd c_ (by decide)) (fun _ => ?_)
    refine b_X10_refuse hst  ?_
    intro h2_ eh2_
    subst eh2_
    refine And.intro (by first | omega | exact ⟨by omega, by omega⟩) ?_
    first | exact k1 (by omega) | exact k2 (by omega) (by omega) (by omega) | exact k3 (by omega) (by omega) (by omega) (by omega)
  · refine And.intro (fun c3_ => ?_) (fun c3_ => ?_)
    · refine And.intro (fun c_ => absurd c_ (by decide)) (fun _ => ?_)
      refine b_X10_refuse hst  ?_
      intro h4_ eh4_
      subst eh4_
      refine And.intro (by first | omega | exact ⟨by omega, by omega⟩) ?_
      first | exact k1 (by omega) | exact k2 (by omega) (by omega) (by omega) | exact k3 (by omega) (by omega) (by omega) (by omega)
    · refine And.intro (fun _ => ?_) (fun c_ => absurd c_ (by decide))
      refine And.intro (fun c5_ => ?_) (fun c5_ => ?_)
      · refine b_X10_refuse hst  ?_
        intro h6_ eh6_
        subst eh6_
        refine And.intro (by first | omega | exact ⟨by omega, by omega⟩) ?_
        first | exact k1 (by omega) | exact k2 (by omega) (by omega) (by omega) | exact k3 (by omega) (by omega) (by omega) (by omega)
      · refine And.intro (fun c7_ => ?_) (fun c7_ => ?_)
        · refine And.intro (by first | omega | exact ⟨by omega, by omega⟩) ?_
          intro h8_ eh8_
          subst eh8_
          refine b_X10_agree hst  ?_
          intro h9_ eh9_
          subst eh9_
          refine And.intro (by first | omega | exact ⟨by omega, by omega⟩) ?_
          first | exact k1 (by omega) | exact k2 (by omega) (by omega) (by omega) | exact k3 (by omega) (by omega) (by omega) (by omega)
        · refine b_X10_refuse hst  ?_
          intro h10_ eh10_
          subst eh10_
          refine And.intro (by first | omega | exact ⟨by omega, by omega⟩) ?_
          first | exact k1 (by omega) | exact k2 (by omega) (by omega) (by omega) | exact k3 (by omega) (by omega) (by omega) (by omega)
theorem m_weight {K : Int → qM → Prop} {v1 v2 : Int} (hst : St sh pt) (k1 : ¬ (0 ≤ v1 ∧ v1 < 3) → K 0 (qup (qup (qup h 78 1 0) 78 0 0) 78 0 2)) (k2 : 0 ≤ v1 → v1 < 3 → ¬ (1 ≤ v2 ∧ v2 ≤ 9) → K 0 (qup (qup (qup h 78 1 0) 78 0 0) 78 0 5))
    (k3 : 0 ≤ v1 → v1 < 3 → 1 ≤ v2 → v2 ≤ 9 → K 1 (qup (qup (qup h 78 1 0) 78 0 0) 135 v1 v2)) : RunI X (d + 1) mX11_weight [(2, 78), (0, v1), (0, v2)] sh pt h K := by
  refine b_X11_weight hst  ?_
  intro h1_ eh1_
  subst eh1_
  intro h2_ eh2_
  subst eh2_
  refine b_X11_isIn hst  ?_
  refine And.intro (fun c3_ => ?_) (fun c3_ => ?_)
  · refine And.intro (fun c_ => absurd c_ (by decide)) (fun _ => ?_)
    refine b_X11_no hst  ?_
    intro h4_ eh4_
    subst eh4_
    refine And.intro (by first | omega | exact ⟨by omega, by omega⟩) ?_
    first | exact k1 (by omega) | exact k2 (by omega) (by omega) (by omega) | exact k3 (by omega) (by omega) (by omega) (by omega)
  · refine And.intro (fun c5_ => ?_) (fun c5_ => ?_)
    · refine And.intro (fun c_ => absurd c_ (by decide)) (fun _ => ?_)
      refine b_X11_no hst  ?_
      intro h6_ eh6_
      subst eh6_
      refine And.intro (by first | omega | exact ⟨by omega, by omega⟩) ?_
      first | exact k1 (by omega) | exact k2 (by omega) (by omega) (by omega) | exact k3 (by omega) (by omega) (by omega) (by omega)
    · refine And.intro (fun _ => ?_) (fun c_ => absurd c_ (by decide))
      refine b_X11_isIn hst  ?_
      refine And.intro (fun c7_ => ?_) (fun c7_ => ?_)
      · refine And.intro (fun c_ => absurd c_ (by decide)) (fun _ => ?_)
        refine b_X11_no hst  ?_
        intro h8_ eh8_
        subst eh8_
        refine And.intro (by first | omega | exact ⟨by omega, by omega⟩) ?_
        first | exact k1 (by omega) | exact k2 (by omega) (by omega) (by omega) | exact k3 (by omega) (by omega) (by omega) (by omega)
      · refine And.intro (fun c9_ => ?_) (fun c9_ => ?_)
        · refine And.intro (fun c_ => absurd c_ (by decide)) (fun _ => ?_)
          refine b_X11_no hst  ?_
          intro h10_ eh10_
          subst eh10_
          refine And.intro (by first | omega | exact ⟨by omega, by omega⟩) ?_
          first | exact k1 (by omega) | exact k2 (by omega) (by omega) (by omega) | exact k3 (by omega) (by omega) (by omega) (by omega)
        · refine And.intro (fun _ => ?_) (fun c_ => absurd c_ (by decide))
          refine And.intro (by first | omega | exact ⟨by omega, by omega⟩) ?_
          intro h11_ eh11_
          subst eh11_
          first | exact k1 (by omega) | exact k2 (by omega) (by omega) (by omega) | exact k3 (by omega) (by omega) (by omega) (by omega)
theorem x_mark {K : Int → qM → Prop} {s j t v : Int} (hst : St sh pt) (k1 : ¬ (0 ≤ s ∧ s < 6 ∧ 0 ≤ j ∧ j < 9 ∧ 0 ≤ t ∧ t < 3) → K 0 (qup h 0 12 2)) (k2 : 0 ≤ s ∧ s < 6 ∧ 0 ≤ j ∧ j < 9 ∧ 0 ≤ t ∧ t < 3 → ¬ (-1 ≤ v ∧ v ≤ 100) → K 0 (qup h 0 12 5))
    (k3 : 0 ≤ s ∧ s < 6 ∧ 0 ≤ j ∧ j < 9 ∧ 0 ≤ t ∧ t < 3 → -1 ≤ v → v ≤ 100 → K 1 (qup (qup h 43 ((((s * 3) + t) * 9) + j) v) 0 12 0)) : RunI X (d + 1) mX10_mark [(2, 0), (0, s), (0, j), (0, t), (0, v)] sh pt h K := by
  refine b_X10_mark hst  ?_
  refine b_X6_isShow hst  ?_
  refine And.intro (fun c1_ => ?_) (fun c1_ => ?_)
  · refine And.intro (fun _ => ?_) (fun c_ => absurd c_ (by decide))
    refine b_X10_refuse hst  ?_
    intro h2_ eh2_
    subst eh2_
    refine And.intro (by first | omega | exact ⟨by omega, by omega⟩) ?_
    first | exact k1 (by omega) | exact k2 (by omega) (by omega) | exact k3 (by omega) (by omega) (by omega)
  · refine And.intro (fun c3_ => ?_) (fun c3_ => ?_)
    · refine And.intro (fun _ => ?_) (fun c_ => absurd c_ (by decide))
      refine b_X10_refuse hst  ?_
      intro h4_ eh4_
      subst eh4_
      refine And.intro (by first | omega | exact ⟨by omega, by omega⟩) ?_
      first | exact k1 (by omega) | exact k2 (by omega) (by omega) | exact k3 (by omega) (by omega) (by omega)
    · refine And.intro (fun c_ => absurd c_ (by decide)) (fun _ => ?_)
      refine b_X6_isJudge hst  ?_
      refine And.intro (fun c5_ => ?_) (fun c5_ => ?_)
      · refine And.intro (fun _ => ?_) (fun c_ => absurd c_ (by decide))
        refine b_X10_refuse hst  ?_
        intro h6_ eh6_
        subst eh6_
        refine And.intro (by first | omega | exact ⟨by omega, by omega⟩) ?_
        first | exact k1 (by omega) | exact k2 (by omega) (by omega) | exact k3 (by omega) (by omega) (by omega)
      · refine And.intro (fun c7_ => ?_) (fun c7_ => ?_)
        · refine And.intro (fun _ => ?_) (fun c_ => absurd c_ (by decide))
          refine b_X10_refuse hst  ?_
          intro h8_ eh8_
          subst eh8_
          refine And.intro (by first | omega | exact ⟨by omega, by omega⟩) ?_
          first | exact k1 (by omega) | exact k2 (by omega) (by omega) | exact k3 (by omega) (by omega) (by omega)
        · refine And.intro (fun c_ => absurd c_ (by decide)) (fun _ => ?_)
          refine b_X6_isTrait hst  ?_
          refine And.intro (fun c9_ => ?_) (fun c9_ => ?_)
          · refine And.intro (fun c_ => absurd c_ (by decide)) (fun _ => ?_)
            refine b_X10_refuse hst  ?_
            intro h10_ eh10_
            subst eh10_
            refine And.intro (by first | omega | exact ⟨by omega, by omega⟩) ?_
            first | exact k1 (by omega) | exact k2 (by omega) (by omega) | exact k3 (by omega) (by omega) (by omega)
          · refine And.intro (fun c11_ => ?_) (fun c11_ => ?_)
            · refine And.intro (fun c_ => absurd c_ (by decide)) (fun _ => ?_)
              refine b_X10_refuse hst  ?_
              intro h12_ eh12_
              subst eh12_
              refine And.intro (by first | omega | exact ⟨by omega, by omega⟩) ?_
              first | exact k1 (by omega) | exact k2 (by omega) (by omega) | exact k3 (by omega) (by omega) (by omega)
            · refine And.intro (fun _ => ?_) (fun c_ => absurd c_ (by decide))
              refine And.intro (fun c13_ => ?_) (fun c13_ => ?_)
              · refine b_X10_refuse hst  ?_
                intro h14_ eh14_
                subst eh14_
                refine And.intro (by first | omega | exact ⟨by omega, by omega⟩) ?_
                first | exact k1 (by omega) | exact k2 (by omega) (by omega) | exact k3 (by omega) (by omega) (by omega)
              · refine And.intro (fun c15_ => ?_) (fun c15_ => ?_)
                · refine b_X6_give hst  ?_
                  refine And.intro (by first | omega | exact ⟨by omega, by omega⟩) ?_
                  refine And.intro (by first | omega | exact ⟨by omega, by omega⟩) ?_
                  refine And.intro (by first | omega | exact ⟨by omega, by omega⟩) ?_
                  refine And.intro (by first | omega | exact ⟨by omega, by omega⟩) ?_
                  refine And.intro (by first | omega | exact ⟨by omega, by omega⟩) ?_
                  intro h16_ eh16_
                  subst eh16_
                  refine b_X10_agree hst  ?_
                  intro h17_ eh17_
                  subst eh17_
                  refine And.intro (by first | omega | exact ⟨by omega, by omega⟩) ?_
                  first | exact k1 (by omega) | exact k2 (by omega) (by omega) | exact k3 (by omega) (by omega) (by omega)
                · refine b_X10_refuse hst  ?_
                  intro h18_ eh18_
                  subst eh18_
                  refine And.intro (by first | omega | exact ⟨by omega, by omega⟩) ?_
                  first | exact k1 (by omega) | exact k2 (by omega) (by omega) | exact k3 (by omega) (by omega) (by omega)
theorem m_mark {K : Int → qM → Prop} {s j t v : Int} (hst : St sh pt) (k1 : ¬ (0 ≤ s ∧ s < 6 ∧ 0 ≤ j ∧ j < 9 ∧ 0 ≤ t ∧ t < 3) → K 0 (qup (qup (qup h 78 1 0) 78 0 0) 78 0 2)) (k2 : 0 ≤ s ∧ s < 6 ∧ 0 ≤ j ∧ j < 9 ∧ 0 ≤ t ∧ t < 3 → ¬ (-1 ≤ v ∧ v ≤ 100) → K 0 (qup (qup (qup h 78 1 0) 78 0 0) 78 0 5))
    (k3 : 0 ≤ s ∧ s < 6 ∧ 0 ≤ j ∧ j < 9 ∧ 0 ≤ t ∧ t < 3 → -1 ≤ v → v ≤ 100 → K 1 (qup (qup (qup h 78 1 0) 78 0 0) 134 (((27 * s) + (3 * j)) + t) v)) : RunI X (d + 1) mX11_mark [(2, 78), (0, s), (0, j), (0, t), (0, v)] sh pt h K := by
  refine b_X11_mark hst  ?_
  intro h1_ eh1_
  subst eh1_
  intro h2_ eh2_
  subst eh2_
  refine b_X11_isIn hst  ?_
  refine And.intro (fun c3_ => ?_) (fun c3_ => ?_)
  · refine And.intro (fun _ => ?_) (fun c_ => absurd c_ (by decide))
    refine b_X11_no hst  ?_
    intro h4_ eh4_
    subst eh4_
    refine And.intro (by first | omega | exact ⟨by omega, by omega⟩) ?_
    first | exact k1 (by omega) | exact k2 (by omega) (by omega) | exact k3 (by omega) (by omega) (by omega)
  · refine And.intro (fun c5_ => ?_) (fun c5_ => ?_)
    · refine And.intro (fun _ => ?_) (fun c_ => absurd c_ (by decide))
      refine b_X11_no hst  ?_
      intro h6_ eh6_
      subst eh6_
      refine And.intro (by first | omega | exact ⟨by omega, by omega⟩) ?_
      first | exact k1 (by omega) | exact k2 (by omega) (by omega) | exact k3 (by omega) (by omega) (by omega)
    · refine And.intro (fun c_ => absurd c_ (by decide)) (fun _ => ?_)
      refine b_X11_isIn hst  ?_
      refine And.intro (fun c7_ => ?_) (fun c7_ => ?_)
      · refine And.intro (fun _ => ?_) (fun c_ => absurd c_ (by decide))
        refine b_X11_no hst  ?_
        intro h8_ eh8_
        subst eh8_
        refine And.intro (by first | omega | exact ⟨by omega, by omega⟩) ?_
        first | exact k1 (by omega) | exact k2 (by omega) (by omega) | exact k3 (by omega) (by omega) (by omega)
      · refine And.intro (fun c9_ => ?_) (fun c9_ => ?_)
        · refine And.intro (fun _ => ?_) (fun c_ => absurd c_ (by decide))
          refine b_X11_no hst  ?_
          intro h10_ eh10_
          subst eh10_
          refine And.intro (by first | omega | exact ⟨by omega, by omega⟩) ?_
          first | exact k1 (by omega) | exact k2 (by omega) (by omega) | exact k3 (by omega) (by omega) (by omega)
        · refine And.intro (fun c_ => absurd c_ (by decide)) (fun _ => ?_)
          refine b_X11_isIn hst  ?_
          refine And.intro (fun c11_ => ?_) (fun c11_ => ?_)
          · refine And.intro (fun c_ => absurd c_ (by decide)) (fun _ => ?_)
            refine b_X11_no hst  ?_
            intro h12_ eh12_
            subst eh12_
            refine And.intro (by first | omega | exact ⟨by omega, by omega⟩) ?_
            first | exact k1 (by omega) | exact k2 (by omega) (by omega) | exact k3 (by omega) (by omega) (by omega)
          · refine And.intro (fun c13_ => ?_) (fun c13_ => ?_)
            · refine And.intro (fun c_ => absurd c_ (by decide)) (fun _ => ?_)
              refine b_X11_no hst  ?_
              intro h14_ eh14_
              subst eh14_
              refine And.intro (by first | omega | exact ⟨by omega, by omega⟩) ?_
              first | exact k1 (by omega) | exact k2 (by omega) (by omega) | exact k3 (by omega) (by omega) (by omega)
            · refine And.intro (fun _ => ?_) (fun c_ => absurd c_ (by decide))
              refine b_X11_isIn hst  ?_
              refine And.intro (fun c15_ => ?_) (fun c15_ => ?_)
              · refine And.intro (fun c_ => absurd c_ (by decide)) (fun _ => ?_)
                refine b_X11_no hst  ?_
                intro h16_ eh16_
                subst eh16_
                refine And.intro (by first | omega | exact ⟨by omega, by omega⟩) ?_
                first | exact k1 (by omega) | exact k2 (by omega) (by omega) | exact k3 (by omega) (by omega) (by omega)
              · refine And.intro (fun c17_ => ?_) (fun c17_ => ?_)
                · refine And.intro (fun c_ => absurd c_ (by decide)) (fun _ => ?_)
                  refine b_X11_no hst  ?_
                  intro h18_ eh18_
                  subst eh18_
                  refine And.intro (by first | omega | exact ⟨by omega, by omega⟩) ?_
                  first | exact k1 (by omega) | exact k2 (by omega) (by omega) | exact k3 (by omega) (by omega) (by omega)
                · refine And.intro (fun _ => ?_) (fun c_ => absurd c_ (by decide))
                  refine And.intro (by first | omega | exact ⟨by omega, by omega⟩) ?_
                  refine And.intro (by first | omega | exact ⟨by omega, by omega⟩) ?_
                  refine And.intro (by first | omega | exact ⟨by omega, by omega⟩) ?_
                  refine And.intro (by first | omega | exact ⟨by omega, by omega⟩) ?_
                  refine And.intro (by first | omega | exact ⟨by omega, by omega⟩) ?_
                  intro h19_ eh19_
                  subst eh19_
                  first | exact k1 (by omega) | exact k2 (by omega) (by omega) | exact k3 (by omega) (by omega) (by omega)
/-- what the marks of a show and a trait are, of the class and of the reference -/
def xmk (h : qM) (s t : Int) : Int → Int := fun j => h 43 ((((s * 3) + t) * 9) + j)
def mmk (h : qM) (s t : Int) : Int → Int := fun j => h 134 (((27 * s) + (3 * j)) + t)
theorem x_addTrait_l {K : Int → qM → Prop} {s t : Int} (hst : St sh pt) (hs : 0 ≤ s ∧ s < 6) (ht : 0 ≤ t ∧ t < 3) (hf : ∀ j : Int, 0 ≤ j → j < 9 → -1 ≤ xmk h s t j ∧ xmk h s t j ≤ 100)
    (k : EvI X (d + 1) mX6_addTrait 98 [(2, 41), (8, -1), (0, t), (0, (adj (sc (xmk h s t) 9)).1), (0, (adj (sc (xmk h s t) 9)).2), (8, -1), (8, -1), (8, -1), (8, -1)] [] sh pt h K) :
    ∀ (n j : Nat), n + j = 9 → EvI X (d + 1) mX6_addTrait 15 [(2, 41), (0, s), (0, t), (0, (sc (xmk h s t) j).1), (0, (sc (xmk h s t) j).2.1), (0, (sc (xmk h s t) j).2.2.1), (0, (sc (xmk h s t) j).2.2.2), (0, (j : Int)), (8, -1)] [] sh pt h K := by
  intro n
  induction n with
  | zero =>
    intro j hj
    have e : j = 9 := by omega
    subst e
    have h1 := sc_ok 9 hf
    refine b_X6_addTrait_15 hst ⟨fun _ => ⟨fun c => ?_, fun c => ?_⟩, fun c => absurd c (by omega)⟩
    · have e : adj (sc (xmk h s t) 9) = ((sc (xmk h s t) 9).1, (sc (xmk h s t) 9).2.1) := by
        unfold adj
        rw [if_neg (by omega)]
      rw [e] at k
      exact k
    · have e : adj (sc (xmk h s t) 9) = ((sc (xmk h s t) 9).1 + (-2), (sc (xmk h s t) 9).2.1 - ((sc (xmk h s t) 9).2.2.1 + (sc (xmk h s t) 9).2.2.2)) := by
        unfold adj
        rw [if_pos c]
        rfl
      rw [e] at k
      exact ⟨⟨by omega, by omega⟩, ⟨by omega, by omega⟩, ⟨by omega, by omega⟩, k⟩
  | succ n ih =>
    intro j hj
    have h1 := sc_ok j (fun i h0 h1 => hf i h0 (by omega))
    have h2 := hf j (by omega) (by omega)
    have k2 := ih (j + 1) (by omega)
    have ej : ((j + 1 : Nat) : Int) = (j : Int) + 1 := by omega
    rw [ej] at k2
    refine b_X6_addTrait_15 hst ⟨fun c => absurd c (by omega), fun _ => ⟨⟨by omega, by omega⟩, ⟨by omega, by omega⟩, ⟨by omega, by omega⟩, ⟨by omega, by omega⟩, by omega, fun x ex => ⟨fun c => ⟨⟨by omega, by omega⟩, ?_⟩, fun c => ⟨⟨by omega, by omega⟩, ?_, ?_⟩⟩⟩⟩
    · have e : sc (xmk h s t) (j + 1) = sc (xmk h s t) j := by
        show (if xmk h s t j < 0 then _ else _) = _
        rw [if_pos (by show h 43 _ < 0; omega)]
      rw [e] at k2
      exact k2
    · have e : xmk h s t j = x := ex.symm
      exact ⟨by omega, by omega⟩
    · have e0 : xmk h s t j = x := ex.symm
      have e : sc (xmk h s t) (j + 1) = ((sc (xmk h s t) j).1 + 1, (sc (xmk h s t) j).2.1 + x, min (sc (xmk h s t) j).2.2.1 x, max (sc (xmk h s t) j).2.2.2 x) := by
        show (if xmk h s t j < 0 then _ else _) = _
        rw [if_neg (by omega), e0]
      rw [e] at k2
      exact x_min hst (x_max hst ⟨⟨by omega, by omega⟩, k2⟩)
theorem qup_w {h : qM} {a i v b : Int} (e : b ≠ a) : qup h a i v b = h b := qup_ne e
theorem x_addTrait {K : Int → qM → Prop} {s t : Int} (hst : St sh pt) (hs : 0 ≤ s ∧ s < 6) (ht : 0 ≤ t ∧ t < 3) (hf : ∀ j : Int, 0 ≤ j → j < 9 → -1 ≤ xmk h s t j ∧ xmk h s t j ≤ 100)
    (hw : 1 ≤ h 42 t ∧ h 42 t ≤ 9) (hT : 0 ≤ h 41 4 ∧ h 41 4 ≤ 100000000) (hB : 0 ≤ h 41 5 ∧ h 41 5 ≤ 1000)
    (k : K (qB (0 < (adj (sc (xmk h s t) 9)).1)) (qup (qup h 41 4 (h 41 4 * (adj (sc (xmk h s t) 9)).1 + h 41 5 * (adj (sc (xmk h s t) 9)).2 * h 42 t)) 41 5 (h 41 5 * (adj (sc (xmk h s t) 9)).1))) :
    RunI X (d + 1) mX6_addTrait [(2, 41), (0, s), (0, t)] sh pt h K := by
  refine b_X6_addTrait hst (x_addTrait_l hst hs ht hf ?_ 9 0 rfl)
  have a := adj_ok hf
  have m1 := mulb hT.1 hT.2 a.1.1 a.1.2
  have m2 := mulb hB.1 hB.2 a.2.1.1 a.2.1.2
  have m3 := mulb m2.1 m2.2 (show 0 ≤ h 42 t by omega) hw.2
  have m4 := mulb hB.1 hB.2 a.1.1 a.1.2
  refine b_X6_addTrait_98 hst ⟨⟨by omega, by omega⟩, ⟨by omega, by omega⟩, ht, ⟨by omega, by omega⟩, ⟨by omega, by omega⟩, ?_⟩
  intro h2 e2
  have e3 : h2 41 5 = h 41 5 := by rw [e2]; simp [qup]
  rw [e3]
  refine ⟨⟨by omega, by omega⟩, fun h3 e4 => ⟨fun c => ?_, fun c => ?_⟩⟩
  · rw [qB_f (by omega)] at k
    rw [e4, e2]
    exact k
  · rw [qB_t c] at k
    rw [e4, e2]
    exact k
/-- the total as reckon() and totals() reckon it: none where a trait has no mark -/
def tot (f : Int → Int → Int) (w : Int → Int) : Nat → Int × Int := tT (fun t => (adj (sc (f t) 9)).1) (fun t => (adj (sc (f t) 9)).2) w
def totOk (f : Int → Int → Int) : Prop := ∀ t : Int, 0 ≤ t → t < 3 → 0 < (sc (f t) 9).1
theorem tot_ok {f : Int → Int → Int} {w : Int → Int} (hf : ∀ t j : Int, 0 ≤ t → t < 3 → 0 ≤ j → j < 9 → -1 ≤ f t j ∧ f t j ≤ 100) (hw : ∀ j : Int, 0 ≤ j → j < 3 → 1 ≤ w j ∧ w j ≤ 9) (k : Nat) (hk : k ≤ 3) : (0 ≤ (tot f w k).1 ∧ (tot f w k).1 ≤ 8100 * 8 ^ k) ∧ (0 ≤ (tot f w k).2 ∧ (tot f w k).2 ≤ 7 ^ k) :=
  tT_ok (fun j h0 h1 => (adj_ok (fun i a b => hf j i h0 h1 a b)).1) (fun j h0 h1 => (adj_ok (fun i a b => hf j i h0 h1 a b)).2.1) hw k hk
def PS (a i : Int) : Prop := a = 41 ∧ (i = 4 ∨ i = 5)
theorem x_reckon_l {K : Int → qM → Prop} {s : Int} (hst : St sh pt) (hs : 0 ≤ s ∧ s < 6) (hf : ∀ t j : Int, 0 ≤ t → t < 3 → 0 ≤ j → j < 9 → -1 ≤ xmk h s t j ∧ xmk h s t j ≤ 100) (hw : ∀ t : Int, 0 ≤ t → t < 3 → 1 ≤ h 42 t ∧ h 42 t ≤ 9)
    (k1 : totOk (xmk h s) → ∀ h1, Fr PS h h1 → h1 41 4 = (tot (xmk h s) (h 42) 3).1 → h1 41 5 = (tot (xmk h s) (h 42) 3).2 → K 1 h1) (k0 : ¬ totOk (xmk h s) → ∀ h1, Fr PS h h1 → K 0 h1) :
    ∀ (n t : Nat) (h1 : qM), n + t = 3 → Fr PS h h1 → h1 41 4 = (tot (xmk h s) (h 42) t).1 → h1 41 5 = (tot (xmk h s) (h 42) t).2 → (∀ j : Int, 0 ≤ j → j < t → 0 < (sc (xmk h s j) 9).1) → EvI X (d + 2) mX6_reckon 12 [(2, 41), (0, s), (0, (t : Int))] [] sh pt h1 K := by
  intro n
  induction n with
  | zero =>
    intro t h1 hn hF hT hB hg
    have e : t = 3 := by omega
    subst e
    exact b_X6_reckon_12 hst ⟨fun _ => k1 (fun j a b => hg j a (by omega)) h1 hF hT hB, fun c => absurd c (by omega)⟩
  | succ n ih =>
    intro t h1 hn hF hT hB hg
    have ht : 0 ≤ (t : Int) ∧ (t : Int) < 3 := ⟨by omega, by omega⟩
    have bd := tot_ok hf hw t (by omega)
    have p8 : (8 : Int) ^ t ≤ 512 ∧ (7 : Int) ^ t ≤ 343 := by
      have : t = 0 ∨ t = 1 ∨ t = 2 := by omega
      rcases this with rfl | rfl | rfl <;> decide
    have em : ∀ u : Int, xmk h1 s u = xmk h s u := fun u => by
      funext j
      exact hF _ _ (by unfold PS; omega)
    have ew : h1 42 = h 42 := by
      funext j
      exact hF _ _ (by unfold PS; omega)
    refine b_X6_reckon_12 hst ⟨fun c => absurd c (by omega), fun _ => ?_⟩
    refine x_addTrait hst hs ht (fun j a b => by rw [em]; exact hf t j ht.1 ht.2 a b) (by rw [ew]; exact hw t ht.1 ht.2) (by rw [hT]; omega) (by rw [hB]; omega) ?_
    rw [em, hT, hB, ew]
    have a1 := adj_ok (f := xmk h s t) (fun j a b => hf t j ht.1 ht.2 a b)
    have s0 := (sc_ok (f := xmk h s t) 9 (fun j a b => hf t j ht.1 ht.2 a b)).1
    have hF2 : Fr PS h (qup (qup h1 41 4 ((tot (xmk h s) (h 42) t).1 * (adj (sc (xmk h s t) 9)).1 + (tot (xmk h s) (h 42) t).2 * (adj (sc (xmk h s t) 9)).2 * h 42 t)) 41 5 ((tot (xmk h s) (h 42) t).2 * (adj (sc (xmk h s t) 9)).1)) := (hF.up (by unfold PS; omega)).up (by unfold PS; omega)
    refine ⟨fun c => ⟨⟨by omega, by omega⟩, ?_⟩, fun c => ?_⟩
    · rw [qB0] at c
      have k2 := ih (t + 1) _ (by omega) hF2 (by simp [qup]; rfl) (by simp [qup]; rfl) (fun j a b => by
        by_cases e : j = t
        · subst e
          omega
        · exact hg j a (by omega))
      have ej : ((t + 1 : Nat) : Int) = (t : Int) + 1 := by omega
      rw [ej] at k2
      exact k2
    · rw [qB0] at c
      refine k0 (fun z => ?_) _ hF2
      have z1 := z t ht.1 ht.2
      omega
theorem x_reckon {K : Int → qM → Prop} {s : Int} (hst : St sh pt) (hs : 0 ≤ s ∧ s < 6) (hf : ∀ t j : Int, 0 ≤ t → t < 3 → 0 ≤ j → j < 9 → -1 ≤ xmk h s t j ∧ xmk h s t j ≤ 100) (hw : ∀ t : Int, 0 ≤ t → t < 3 → 1 ≤ h 42 t ∧ h 42 t ≤ 9)
    (k1 : totOk (xmk h s) → ∀ h1, Fr PS h h1 → h1 41 4 = (tot (xmk h s) (h 42) 3).1 → h1 41 5 = (tot (xmk h s) (h 42) 3).2 → K 1 h1) (k0 : ¬ totOk (xmk h s) → ∀ h1, Fr PS h h1 → K 0 h1) : RunI X (d + 2) mX6_reckon [(2, 41), (0, s)] sh pt h K := by
  refine b_X6_reckon hst (fun h1 e1 h2 e2 => ?_)
  exact x_reckon_l hst hs hf hw k1 k0 3 0 h2 rfl (by rw [e2, e1]; exact (Fr.rf.up (by unfold PS; omega)).up (by unfold PS; omega)) (by rw [e2, e1]; simp [qup]; rfl) (by rw [e2]; simp [qup]; rfl) (fun j a b => by omega)
theorem tT_pos {N S w : Int → Int} : ∀ k : Nat, (∀ j : Int, 0 ≤ j → j < k → 0 < N j) → 0 < (tT N S w k).2 := by
  intro k
  induction k with
  | zero => intro _; simp [tT]
  | succ k ih =>
    intro hN
    unfold tT
    exact Int.mul_pos (ih (fun j a b => hN j a (by omega))) (hN k (by omega) (by omega))
theorem tot_pos {f : Int → Int → Int} {w : Int → Int} (hf : ∀ t j : Int, 0 ≤ t → t < 3 → 0 ≤ j → j < 9 → -1 ≤ f t j ∧ f t j ≤ 100) (ho : totOk f) : 0 < (tot f w 3).2 := by
  refine tT_pos 3 (fun j a b => ?_)
  have a1 := adj_ok (f := f j) (fun i c d => hf j i a (by omega) c d)
  have a2 := ho j a (by omega)
  show 0 < (adj (sc (f j) 9)).1
  omega
/-- Euclid -/
def eg : Nat → Int → Int → Int
  | 0, x, _ => x
  | n + 1, x, y => if y = 0 then x else eg n y (x % y)
theorem eg_pos : ∀ (n : Nat) (x y : Int), 0 ≤ x → 0 ≤ y → (0 < x ∨ 0 < y) → y < n → 0 < eg n x y := by
  intro n
  induction n with
  | zero => intro x y h1 h2 h3 h4; omega
  | succ n ih =>
    intro x y h1 h2 h3 h4
    unfold eg
    split
    · omega
    · have e1 := Int.emod_nonneg x (show y ≠ 0 by omega)
      have e2 := Int.emod_lt_of_pos x (show 0 < y by omega)
      exact ih y (x % y) h2 e1 (Or.inl (by omega)) (by omega)
theorem x_common {K : Int → qM → Prop} (hst : St sh pt) : ∀ (n : Nat) (x y i : Int), 0 ≤ x → 0 ≤ y → y < n → i + n = 1000 → 0 ≤ i → K (eg n x y) h → EvL X d mX6_commonDivisor 9 [(8, -1), (8, -1), (8, -1), (8, -1), (1, x), (8, -1), (1, y), (8, -1), (0, i), (8, -1), (8, -1)] [] sh pt h K := by
  intro n
  induction n with
  | zero => intro x y i h1 h2 h3; omega
  | succ n ih =>
    intro x y i h1 h2 h3 h4 h5 k
    unfold eg at k
    refine b_X6_commonDivisor_9 hst ⟨fun c => absurd c (by omega), fun _ => ⟨fun c => ?_, fun c => ⟨⟨h1, by omega⟩, ⟨by omega, by omega⟩, ?_⟩⟩⟩
    · rw [if_pos c] at k
      exact k
    · rw [if_neg c] at k
      have e1 := Int.emod_nonneg x (show y ≠ 0 by omega)
      have e2 := Int.emod_lt_of_pos x (show 0 < y by omega)
      exact ih y (x % y) (i + 1) h2 e1 (by omega) (by omega) (by omega) k
theorem m_common {K : Int → qM → Prop} (hst : St sh pt) : ∀ (n : Nat) (x y : Int), 0 ≤ x → 0 ≤ y → y < n → K (eg n x y) h → EvL X d mX11_common 6 [(8, -1), (8, -1), (8, -1), (8, -1), (1, x), (8, -1), (1, y), (8, -1), (8, -1), (8, -1)] [] sh pt h K := by
  intro n
  induction n with
  | zero => intro x y h1 h2 h3; omega
  | succ n ih =>
    intro x y h1 h2 h3 k
    unfold eg at k
    refine b_X11_common_6 hst ⟨fun c => ?_, fun c => ⟨⟨h1, by omega⟩, ?_⟩⟩
    · rw [if_pos c] at k
      exact k
    · rw [if_neg c] at k
      have e1 := Int.emod_nonneg x (show y ≠ 0 by omega)
      have e2 := Int.emod_lt_of_pos x (show 0 < y by omega)
      exact ih y (x % y) h2 e1 (by omega) k
theorem x_tell {K : qM → Prop} (hst : St sh pt) (hT : 0 ≤ h 41 4) (hB : 0 < h 41 5 ∧ h 41 5 ≤ 343) (k : K (qup (qup h 41 1 (h 41 4 / eg 1000 (h 41 4) (h 41 5))) 41 2 (h 41 5 / eg 1000 (h 41 4) (h 41 5)))) : RunV X (d + 1) mX6_tellFraction [(2, 41)] sh pt h K := by
  have g := eg_pos 1000 (h 41 4) (h 41 5) hT (by omega) (Or.inr hB.1) (by omega)
  refine b_X6_tellFraction hst (b_X6_commonDivisor hst (x_common hst 1000 _ _ 0 hT (by omega) (by omega) (by omega) (by omega) ?_))
  refine ⟨fun c => absurd c (by omega), fun c => ⟨⟨hT, c⟩, fun h3 e3 => ?_⟩⟩
  have e : h3 41 5 = h 41 5 := by rw [e3]; simp [qup]
  rw [e]
  exact ⟨⟨by omega, c⟩, fun h4 e4 => by rw [e4, e3]; exact k⟩
/-- the rank: how many shows have a greater total -/
def rkO (f : Int → Int → Int → Int) (w : Int → Int) (s o : Int) : Prop := totOk (f o) ∧ (tot (f s) w 3).1 * (tot (f o) w 3).2 < (tot (f o) w 3).1 * (tot (f s) w 3).2
noncomputable def rk (f : Int → Int → Int → Int) (w : Int → Int) (s : Int) : Nat → Int
  | 0 => 1
  | k + 1 => rk f w s k + (@ite _ (rkO f w s k) (Classical.propDecidable _) 1 0)
end
