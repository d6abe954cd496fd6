/-! a RUN of the class: one order, whole -/
def ftn (x : Int) : Int := if x = 0 then 0 else if x % 2 = 1 then 1 else 2
theorem ftn_st {x : Int} (h : 0 ≤ x) : ftv (ftn x) = ftn (x + 1) := by
  unfold ftn ftv
  by_cases a : x = 0
  · rw [if_pos a, if_neg (show ¬ (0 : Int) = 1 by decide), if_neg (by omega), if_pos (by omega)]
  · by_cases b : x % 2 = 1
    · rw [if_neg a, if_pos b, if_pos rfl, if_neg (by omega), if_neg (by omega)]
    · rw [if_neg a, if_neg b, if_neg (show ¬ (2 : Int) = 1 by decide), if_neg (by omega), if_pos (by omega)]
def TXr (t : Int) (S h : qM) (o : Int) : Prop := h (t + 1) o = S 94 o ∧ h (t + 2) o = S 98 o ∧ h (t + 6) o = S 99 o ∧ oK S o ∧ (S 94 o ≤ 4 → h (t + 5) o = S 95 o) ∧ (S 94 o = 5 → h (t + 3) o = S 95 o ∧ h (t + 5) o = 0) ∧ (S 94 o = 6 → h (t + 5) o = S 95 o ∧ ((h (t + 3) o = 0 ∧ S 96 o = -1) ∨ (h (t + 3) o = 1 ∧ S 96 o = 1))) ∧ (S 94 o = 7 ∨ S 94 o = 8 → h (t + 5) o = S 95 o ∧ h (t + 3) o = S 96 o) ∧ (S 94 o = 9 → h (t + 5) o = S 95 o ∧ h (t + 3) o = S 96 o ∧ h (t + 4) o = S 97 o) ∧ (S 94 o = 10 → h (t + 3) o = S 95 o ∧ h (t + 5) o = 0)
def XOr (c : Int) (S h : qM) : Prop := bdR S h ∧ SBc c h ∧ h 12 0 = S 78 67 ∧ (0 ≤ h 12 10 ∧ h 12 10 ≤ 150) ∧ (S 78 67 = 0 → h 12 10 = S 78 63 ∧ (0 ≤ h 12 12 ∧ h 12 12 ≤ h 12 10) ∧ S 78 65 = ftn (h 12 12) ∧ h c 6 = S 78 66 ∧ ∀ i t, 0 ≤ i → i < S 78 62 → 0 ≤ t → t ≤ S 78 63 → CGr c S h (20 * t + S 112 i))
def XOw (c : Int) (S : qM) (a x : Int) : Prop := (a = 12 ∧ (x = 0 ∨ x = 10 ∨ x = 12)) ∨ a = 14 ∨ a = 15 ∨ (a = c ∧ x = 6) ∨ (a = c + 1 ∧ bC S x)
section
variable {S : qM} {o n x : Int}
theorem gJs_ft {m : Int} (m0 : 0 ≤ m) (x0 : 0 ≤ x) (e : S 78 65 = ftn x) (s0 : 0 ≤ S 78 62) : fo (gJ o n) 1 (m + 1) S 78 65 = if S 94 o = 3 then (if m = 0 then ftn x else 0) else ftn (x + m) := by
  have z := fo_inv (f := gJ o n) (i := 1) (n := m + 1) (a := S) (fun j U => (U 94 o = S 94 o ∧ 0 ≤ U 78 62) ∧ U 78 65 = if S 94 o = 3 then (if j = 1 then ftn x else 0) else ftn (x + (j - 1))) (fun j U a b q => ?_) (by omega) ⟨⟨rfl, s0⟩, ?_⟩
  · rw [z.2, show m + 1 - 1 = m by omega]
    by_cases c : S 94 o = 3
    · rw [if_pos c, if_pos c]
      by_cases d : m = 0
      · rw [if_pos d, if_pos (by omega)]
      · rw [if_neg d, if_neg (by omega)]
    · rw [if_neg c, if_neg c]
  · have y := fo_inv (f := gI o j n) (i := 0) (n := U 78 62) (a := U) (fun _ V => V 94 o = U 94 o ∧ V 78 62 = U 78 62 ∧ V 78 65 = U 78 65) (fun i V _ _ r => by
      try dsimp only at r ⊢
      rw [gI_of (by omega) (by omega), gI_of (by omega) (by omega), gI_of (by omega) (by omega)]
      exact r) q.1.2 ⟨rfl, rfl, rfl⟩
    unfold gJ ftS
    generalize fo (gI o j n) 0 (U 78 62) U = V at *
    rw [qup_of (by omega), qup_of (by decide), qup_at, y.1, y.2.1, y.2.2, q.1.1]
    refine ⟨⟨rfl, q.1.2⟩, ?_⟩
    by_cases c : S 94 o = 3
    · rw [if_pos c, if_pos c, if_neg (by omega)]
    · have q2 := q.2
      rw [if_neg c] at q2
      rw [if_neg c, if_neg c, q2, ftn_st (by omega), show x + (j - 1) + 1 = x + (j + 1 - 1) by omega]
  · by_cases c : S 94 o = 3
    · rw [if_pos c, if_pos rfl]; exact e
    · rw [if_neg c, show x + (1 - 1) = x by omega]; exact e
end
section
variable {X : qX} {d : Nat} {sh : qS} {pt h0 S0 S S1 h : qM} {W c o i j n w t m v v1 : Int}
theorem x_turnFace {K : qM → Prop} (hst : St sh pt) (hc : isC c) (t0 : 0 ≤ t ∧ t ≤ 150) (m0 : 0 ≤ m ∧ m < 20) (v0 : -7 ≤ v ∧ v ≤ 7) (x0 : 0 ≤ h (c + 1) (20 * t + m) ∧ h (c + 1) (20 * t + m) < 19200) (k : K (qup h (c + 1) (20 * t + m) (8 * (h (c + 1) (20 * t + m) / 8) + (h (c + 1) (20 * t + m) + v) % 8))) : RunV X d mX0_turnFace [(2, c), (0, t), (0, m), (0, v)] sh pt h K := by
  refine b_X0_turnFace hst hc ?_
  rw [show t * 20 + m = 20 * t + m by omega]
  refine ⟨⟨by omega, by omega⟩, ⟨by omega, by omega⟩, ⟨by omega, by omega⟩, fun x2 e2 => ⟨⟨by omega, by omega⟩, ⟨by omega, by omega⟩, ⟨by omega, by omega⟩, ⟨by omega, by omega⟩, fun h4 d4 => ?_⟩⟩
  rw [e2, qiand_m8 x0.1 (by omega), qiand_7] at d4
  generalize h (c + 1) (20 * t + m) = y at *
  rw [show y - y % 8 = 8 * (y / 8) by omega, qior_8 (by omega) (by omega) (by omega) (by omega)] at d4
  rw [d4]
  exact k
theorem x_turnBody {K : qM → Prop} {P : Prop} (hst : St sh pt) (hc : isC c) (bb : bdB S1) (bd : bdR S1 h0) (hn : h0 12 10 = t) (t0 : 0 ≤ t ∧ t ≤ 150) (v0 : -7 ≤ v ∧ v ≤ 7) (hv : (v1 - v) % 8 = 0) (sb : SBc c h0) (cg : P → ∀ i' t', 0 ≤ i' → i' < S1 78 62 → 0 ≤ t' → t' ≤ t → CGr c S1 h0 (20 * t' + S1 112 i')) (k : ∀ h, Fr (fun a x => a = c + 1 ∧ bC S1 x) h0 h → SBc c h → (P → ∀ i' t', 0 ≤ i' → i' < S1 78 62 → 0 ≤ t' → t' ≤ t → CGr c (fo (tnI v1 t) 0 (S1 78 62) S1) h (20 * t' + S1 112 i')) → K h) : RunV X (d + 1) mX1_turnBody [(2, 12), (2, c), (0, v)] sh pt h0 K := by
  have sz := bb.1
  have cn : c ≠ 11 ∧ c ≠ 12 ∧ 60 ≤ c := by rcases hc with e | e <;> omega
  refine b_X1_turnBody hst hc ?_
  refine lp (σ := qM × qM) (i := 0) (n := S1 78 62) (J := fun i s => Fr (fun a x => a = c + 1 ∧ bC S1 x) h0 s.2 ∧ SBc c s.2 ∧ (∀ a x, ¬ a = 111 → s.1 a x = S1 a x) ∧ (P → ∀ i' t', 0 ≤ i' → i' < S1 78 62 → 0 ≤ t' → t' ≤ t → CGr c s.1 s.2 (20 * t' + S1 112 i')) ∧ fo (tnI v1 t) i (S1 78 62) s.1 = fo (tnI v1 t) 0 (S1 78 62) S1) (C := fun i s => EvV X (d + 1) mX1_turnBody 2 [(2, 12), (2, c), (0, v), (0, i)] [] sh pt s.2 K) sz.1 ?_ ?_ (S1, h0) ⟨Fr.rf, sb, fun _ _ _ => rfl, cg, rfl⟩
  · intro i ⟨U, h⟩ i0 i1 ⟨f, s, u, g, e⟩ ih
    dsimp only at f s u g e ih ⊢
    have h5 : h 12 5 = S1 78 62 := (f _ _ (by omega)).trans bd.1
    have h13 : h 13 i = S1 112 i := (f _ _ (by omega)).trans (bd.2 i i0 i1)
    have h10 : h 12 10 = t := (f _ _ (by omega)).trans hn
    have mi := bb.2 i i0 i1
    have si := s (20 * t + S1 112 i) (by omega) (by omega)
    have u12 := u 112 i (by decide)
    have fin : ∀ h1, h1 = qup h (c + 1) (20 * t + S1 112 i) (8 * (h (c + 1) (20 * t + S1 112 i) / 8) + (h (c + 1) (20 * t + S1 112 i) + v) % 8) → EvV X (d + 1) mX1_turnBody 2 [(2, 12), (2, c), (0, v), (0, i + 1)] [] sh pt h1 K := by
      intro h1 d1
      have hx : ∀ x, ¬ x = 20 * t + S1 112 i → h1 (c + 1) x = h (c + 1) x := fun x q => by rw [d1, qup_of (by omega)]
      have ha : h1 (c + 1) (20 * t + S1 112 i) = 8 * (h (c + 1) (20 * t + S1 112 i) / 8) + (h (c + 1) (20 * t + S1 112 i) + v) % 8 := by rw [d1, qup_at]
      have f1 : Fr (fun a x => a = c + 1 ∧ bC S1 x) h0 h1 := by rw [d1]; exact Fr.up f ⟨rfl, i, t, i0, i1, rfl⟩
      have s1 : SBc c h1 := fun x a b => by
        by_cases q : x = 20 * t + S1 112 i
        · rw [q, ha]; omega
        · rw [hx x q]; exact s x a b
      have g1 : P → ∀ i' t', 0 ≤ i' → i' < S1 78 62 → 0 ≤ t' → t' ≤ t → CGr c (tnI v1 t i U) h1 (20 * t' + S1 112 i') := fun p i' t' a0 a1 b0 b1 => by
        have z := g p i' t' a0 a1 b0 b1
        unfold tnI
        rw [u12]
        unfold CGr gnd at z ⊢
        by_cases q : 20 * t' + S1 112 i' = 20 * t + S1 112 i
        · rw [q] at z
          rw [q, ha, qup_of (by omega), qup_of (by omega), qup_at]
          generalize h (c + 1) (20 * t + S1 112 i) = y at *
          generalize U 109 (20 * t + S1 112 i) = e1 at *
          generalize U 110 (20 * t + S1 112 i) = e2 at *
          generalize U 111 (20 * t + S1 112 i) = e3 at *
          omega
        · rw [hx _ q, qup_of (by omega), qup_of (by omega), qup_of (by omega)]
          exact z
      exact ih (tnI v1 t i U, h1) ⟨f1, s1, fun a x q => by
        dsimp only
        unfold tnI
        rw [qup_of (by omega)]
        exact u a x q, g1, by dsimp only; rw [← e, fo_step (n := S1 78 62) i1]⟩
    refine b_X1_turnBody_2 hst hc ?_
    rw [h5, h13, h10]
    exact ⟨fun z => absurd z (by omega), fun _ => ⟨⟨by omega, by omega⟩, x_turnFace hst hc t0 mi v0 si ⟨⟨by omega, by omega⟩, fin _ rfl⟩⟩⟩
  · intro ⟨U, h⟩ ⟨f, s, u, g, e⟩
    dsimp only at f s u g e ⊢
    rw [fo_end (by omega)] at e
    have h5 : h 12 5 = S1 78 62 := (f _ _ (by omega)).trans bd.1
    rw [← e] at k
    exact b_X1_turnBody_2 hst hc ⟨fun _ => k h f s g, fun z => absurd z (by omega)⟩
theorem x_judgeTurn {K : qM → Prop} {x : Int} (hst : St sh pt) (hc : isC c) (f0 : 0 ≤ h 12 12) (n0 : 1 ≤ n ∧ n ≤ 7) (w0 : 0 ≤ h c 6 ∧ h c 6 ≤ 10000) (k : K (qup h c 6 (h c 6 + (if well (ftn (h 12 12)) n then 0 else 1)))) : RunV X d mX1_judgeTurn [(2, 12), (2, c), (0, n)] sh pt h K := by
  have y1 : well (ftn (h 12 12)) n → EvV X d mX1_judgeTurn 47 [(8, -1), (2, c), (8, -1), (8, -1), (8, -1)] [(0, 1)] sh pt h K := by
    intro w
    rw [if_pos w] at k
    refine b_X1_judgeTurn_47 hst hc ⟨fun z => absurd z (by decide), fun _ => ⟨⟨by omega, by omega⟩, fun h2 d2 => ?_⟩⟩
    rw [d2]
    exact k
  have y0 : ¬ well (ftn (h 12 12)) n → EvV X d mX1_judgeTurn 47 [(8, -1), (2, c), (8, -1), (8, -1), (8, -1)] [(0, 0)] sh pt h K := by
    intro w
    rw [if_neg w] at k
    refine b_X1_judgeTurn_47 hst hc ⟨fun _ => ⟨⟨by omega, by omega⟩, fun h2 d2 => ?_⟩, fun z => absurd rfl z⟩
    rw [d2]
    exact k
  have fv : (h 12 12 = 0 → ftn (h 12 12) = 0) ∧ (¬ h 12 12 = 0 → h 12 12 % 2 = 1 → ftn (h 12 12) = 1) ∧ (¬ h 12 12 = 0 → ¬ h 12 12 % 2 = 1 → ftn (h 12 12) = 2) := by
    unfold ftn
    refine ⟨fun z => if_pos z, fun z z2 => by rw [if_neg z, if_pos z2], fun z z2 => by rw [if_neg z, if_neg z2]⟩
  unfold well at y1 y0
  generalize ftn (h 12 12) = q at *
  have st15 : ∀ u : Int, (u = 0 ∨ u = 1) → (u = 1 ↔ h 12 12 % 2 = 1) → EvV X d mX1_judgeTurn 15 [(2, 12), (2, c), (0, n), (8, -1), (8, -1)] [(0, u)] sh pt h K := by
    intro u u0 u1
    refine b_X1_judgeTurn_15 hst hc ⟨fun z => y1 (by omega), fun z => ⟨fun z2 => y1 (by omega), fun z2 => ⟨fun z3 => ⟨fun z4 => y0 ?_, fun z4 => y1 ?_⟩, fun z3 => ⟨fun z4 => y0 ?_, fun z4 => y1 ?_⟩⟩⟩⟩
    · by_cases o : h 12 12 % 2 = 1
      · have := fv.2.1 z o; omega
      · omega
    · by_cases o : h 12 12 % 2 = 1
      · omega
      · have := fv.2.2 z o; omega
    · by_cases o : h 12 12 % 2 = 1
      · omega
      · have := fv.2.2 z o; omega
    · by_cases o : h 12 12 % 2 = 1
      · have := fv.2.1 z o; omega
      · omega
  refine b_X1_judgeTurn hst hc ?_
  rw [qiand_1]
  exact ⟨fun z => st15 0 (Or.inl rfl) (by omega), fun z => st15 1 (Or.inr rfl) (by omega)⟩
end
