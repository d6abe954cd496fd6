/-! a RUN of the class: aims, slides, turns -/
def AIMs (S0 : qM) (o : Int) (u : Int) (h : qM) : Prop := ∀ i, 0 ≤ i → i < u → h 14 i = S0 109 (20 * S0 78 63 + S0 112 i) + wE o i S0 ∧ h 15 i = S0 110 (20 * S0 78 63 + S0 112 i) + wN o i S0
section
variable {X : qX} {d : Nat} {sh : qS} {pt h0 S0 S h : qM} {c o i j n w t m v : Int}
/-- what a body needs to be looked at -/
def LKb (c : Int) (S0 h : qM) : Prop := bdR S0 h ∧ bdB S0 ∧ (0 ≤ S0 78 63 ∧ S0 78 63 ≤ 150) ∧ h 12 10 = S0 78 63 ∧ ∀ i, 0 ≤ i → i < S0 78 62 → CGr c S0 h (20 * S0 78 63 + S0 112 i)
theorem LKb_fr {h1 : qM} (hc : isC c) (l : LKb c S0 h) (f : Fr (fun a x => a = 14 ∨ a = 15 ∨ (a = 12 ∧ x = 0)) h h1) : LKb c S0 h1 := by
  have cn : c ≠ 11 ∧ c ≠ 12 ∧ 60 ≤ c := by rcases hc with e | e <;> omega
  obtain ⟨l1, l2, l3, l4, l5⟩ := l
  refine ⟨⟨by rw [f 12 5 (by omega)]; exact l1.1, fun i a b => by rw [f 13 i (by omega)]; exact l1.2 i a b⟩, l2, l3, by rw [f 12 10 (by omega)]; exact l4, fun i a b => ?_⟩
  have z := l5 i a b
  unfold CGr at z ⊢
  rw [f (c + 1) _ (by omega)]
  exact z
theorem x_eastP {K : Int → qM → Prop} (hst : St sh pt) (hc : isC c) (l : LKb c S0 h) (i0 : 0 ≤ i) (i1 : i < S0 78 62) (k : K (S0 109 (20 * S0 78 63 + S0 112 i)) h) : RunI X d mX0_eastOf [(2, c), (0, h 12 10), (0, h 13 i)] sh pt h K := by
  obtain ⟨l1, l2, l3, l4, l5⟩ := l
  rw [l4, l1.2 i i0 i1]
  exact x_eastR hst hc l3 (l2.2 i i0 i1) (l5 i i0 i1) k
theorem x_northP {K : Int → qM → Prop} (hst : St sh pt) (hc : isC c) (l : LKb c S0 h) (i0 : 0 ≤ i) (i1 : i < S0 78 62) (k : K (S0 110 (20 * S0 78 63 + S0 112 i)) h) : RunI X d mX0_northOf [(2, c), (0, h 12 10), (0, h 13 i)] sh pt h K := by
  obtain ⟨l1, l2, l3, l4, l5⟩ := l
  rw [l4, l1.2 i i0 i1]
  exact x_northR hst hc l3 (l2.2 i i0 i1) (l5 i i0 i1) k
theorem LKb_b (l : LKb c S0 h) (i0 : 0 ≤ i) (i1 : i < S0 78 62) : ((0 ≤ S0 109 (20 * S0 78 63 + S0 112 i) ∧ S0 109 (20 * S0 78 63 + S0 112 i) < 60) ∧ (0 ≤ S0 110 (20 * S0 78 63 + S0 112 i) ∧ S0 110 (20 * S0 78 63 + S0 112 i) < 40)) ∧ (-59 ≤ xB S0 i ∧ xB S0 i ≤ 59) ∧ (-39 ≤ yB S0 i ∧ yB S0 i ≤ 39) ∧ xB S0 i = S0 109 (20 * S0 78 63 + S0 112 i) - S0 109 (20 * S0 78 63 + S0 112 0) ∧ yB S0 i = S0 110 (20 * S0 78 63 + S0 112 i) - S0 110 (20 * S0 78 63 + S0 112 0) := by
  have a := (l.2.2.2.2 i i0 i1).2
  have b := (l.2.2.2.2 0 (by decide) (by omega)).2
  unfold gnd at a b
  unfold xB yB cB
  exact ⟨⟨a.1, a.2.1⟩, by omega, by omega, rfl, rfl⟩
theorem x_eastFP {K : Int → qM → Prop} (hst : St sh pt) (hc : isC c) (l : LKb c S0 h) (i0 : 0 ≤ i) (i1 : i < S0 78 62) (k : K (xB S0 i) h) : RunI X (d + 1) mX1_eastFromPivot [(2, 12), (2, c), (0, i)] sh pt h K := by
  have b := LKb_b l i0 i1
  have b0 := LKb_b l (show (0 : Int) ≤ 0 by decide) (by omega)
  have sz := l.2.1.1
  refine b_X1_eastFromPivot hst hc ⟨⟨by omega, by omega⟩, x_eastP hst hc l i0 i1 (x_eastP hst hc l (by decide) (by omega) ⟨⟨by omega, by omega⟩, ?_⟩)⟩
  rw [← b.2.2.2.1]
  exact k
theorem x_northFP {K : Int → qM → Prop} (hst : St sh pt) (hc : isC c) (l : LKb c S0 h) (i0 : 0 ≤ i) (i1 : i < S0 78 62) (k : K (yB S0 i) h) : RunI X (d + 1) mX1_northFromPivot [(2, 12), (2, c), (0, i)] sh pt h K := by
  have b := LKb_b l i0 i1
  have b0 := LKb_b l (show (0 : Int) ≤ 0 by decide) (by omega)
  have sz := l.2.1.1
  refine b_X1_northFromPivot hst hc ⟨⟨by omega, by omega⟩, x_northP hst hc l i0 i1 (x_northP hst hc l (by decide) (by omega) ⟨⟨by omega, by omega⟩, ?_⟩)⟩
  rw [← b.2.2.2.2]
  exact k
theorem AIMs_st {h2 : qM} {e n : Int} (q : AIMs S0 o i h) (e1 : e = S0 109 (20 * S0 78 63 + S0 112 i) + wE o i S0) (n1 : n = S0 110 (20 * S0 78 63 + S0 112 i) + wN o i S0) (d2 : h2 = qup (qup h 14 i e) 15 i n) : AIMs S0 o (i + 1) h2 := fun i' a b => by
  rw [d2]
  by_cases z : i' = i
  · rw [z, qup_of (by omega), qup_at, qup_at]
    exact ⟨e1, n1⟩
  · rw [qup_of (by omega), qup_of (by omega), qup_of (by omega), qup_of (by omega)]
    exact q i' a (by omega)
theorem x_aimWheel {K : qM → Prop} (hst : St sh pt) (hc : isC c) (l : LKb c S0 h0) (k6 : S0 94 o = 6) (b6 : S0 96 o = -1 ∨ S0 96 o = 1) (hw : w = -(S0 96 o)) (k : ∀ h, Fr (fun a _ => a = 14 ∨ a = 15) h0 h → AIMs S0 o (S0 78 62) h → K h) : RunV X (d + 2) mX1_aimWheel [(2, 12), (2, c), (0, w)] sh pt h0 K := by
  have sz := l.2.1.1
  refine b_X1_aimWheel hst hc ?_
  refine lp (σ := qM) (n := S0 78 62) (J := fun i h => Fr (fun a _ => a = 14 ∨ a = 15) h0 h ∧ AIMs S0 o i h) (C := fun i h => EvV X (d + 2) mX1_aimWheel 2 [(2, 12), (2, c), (0, w), (0, i)] [] sh pt h K) sz.1 ?_ ?_ h0 ⟨Fr.rf, fun i _ _ => by omega⟩
  · intro i h i0 i1 ⟨f, a⟩ ih
    have l1 := LKb_fr hc l (Fr.wk f (fun a x z => by omega))
    have bi := LKb_b l i0 i1
    have b0 := LKb_b l (show (0 : Int) ≤ 0 by decide) (by omega)
    have p1 : w * yB S0 i = -(S0 96 o * yB S0 i) := by rw [hw, Int.neg_mul]
    have p2 : w * xB S0 i = (-(S0 96 o)) * xB S0 i := by rw [hw]
    have q1 : -39 ≤ S0 96 o * yB S0 i ∧ S0 96 o * yB S0 i ≤ 39 := by rcases b6 with e | e <;> rw [e] <;> omega
    have q2 : -59 ≤ (-(S0 96 o)) * xB S0 i ∧ (-(S0 96 o)) * xB S0 i ≤ 59 := by rcases b6 with e | e <;> rw [e] <;> omega
    refine b_X1_aimWheel_2 hst hc ?_
    rw [l1.1.1]
    refine ⟨fun z => absurd z (by omega), fun _ => x_eastP hst hc l1 (by decide) (by omega) (x_northFP hst hc l1 i0 i1 ⟨⟨by omega, by omega⟩, ⟨by omega, by omega⟩, ⟨by omega, by omega⟩, fun h6 d6 => ?_⟩)⟩
    have l2 : LKb c S0 h6 := LKb_fr hc l1 (by rw [d6]; exact Fr.up Fr.rf (by omega))
    refine x_northP hst hc l2 (by decide) (by omega) (x_eastFP hst hc l2 i0 i1 ⟨⟨by omega, by omega⟩, ⟨by omega, by omega⟩, ⟨by omega, by omega⟩, fun h12 d12 => ⟨⟨by omega, by omega⟩, ih h12 ⟨?_, ?_⟩⟩⟩)
    · rw [d12, d6]
      exact Fr.up (Fr.up f (by omega)) (by omega)
    · refine AIMs_st a ?_ ?_ (by rw [d12, d6])
      · rw [wE, if_pos k6]; omega
      · rw [wN, if_pos k6]; omega
  · intro h ⟨f, a⟩
    have h5 : h 12 5 = S0 78 62 := (f _ _ (by omega)).trans l.1.1
    exact b_X1_aimWheel_2 hst hc ⟨fun _ => k h f a, fun z => absurd z (by omega)⟩
theorem x_aimOpen {K : qM → Prop} (hst : St sh pt) (hc : isC c) (l : LKb c S0 h0) (k6 : S0 94 o = 7) (b6 : 2 ≤ S0 96 o ∧ S0 96 o ≤ 5) (k : ∀ h, Fr (fun a _ => a = 14 ∨ a = 15) h0 h → AIMs S0 o (S0 78 62) h → K h) : RunV X (d + 2) mX1_aimOpen [(2, 12), (2, c), (0, S0 96 o)] sh pt h0 K := by
  have sz := l.2.1.1
  refine b_X1_aimOpen hst hc ?_
  refine lp (σ := qM) (n := S0 78 62) (J := fun i h => Fr (fun a _ => a = 14 ∨ a = 15) h0 h ∧ AIMs S0 o i h) (C := fun i h => EvV X (d + 2) mX1_aimOpen 2 [(2, 12), (2, c), (0, S0 96 o), (0, i)] [] sh pt h K) sz.1 ?_ ?_ h0 ⟨Fr.rf, fun i _ _ => by omega⟩
  · intro i h i0 i1 ⟨f, a⟩ ih
    have l1 := LKb_fr hc l (Fr.wk f (fun a x z => by omega))
    have bi := LKb_b l i0 i1
    have b0 := LKb_b l (show (0 : Int) ≤ 0 by decide) (by omega)
    have p1 : (S0 96 o - 1) * xB S0 i = S0 96 o * xB S0 i - xB S0 i := by rw [Int.sub_mul, Int.one_mul]
    have p2 : (S0 96 o - 1) * yB S0 i = S0 96 o * yB S0 i - yB S0 i := by rw [Int.sub_mul, Int.one_mul]
    have q1 := mul_bd (x := S0 96 o) (y := xB S0 i) (a := 5) (b := 59) (by omega) (by omega) (by omega) (by omega)
    have q2 := mul_bd (x := S0 96 o) (y := yB S0 i) (a := 5) (b := 59) (by omega) (by omega) (by omega) (by omega)
    refine b_X1_aimOpen_2 hst hc ?_
    rw [l1.1.1]
    refine ⟨fun z => absurd z (by omega), fun _ => x_eastP hst hc l1 (by decide) (by omega) (x_eastFP hst hc l1 i0 i1 ⟨⟨by omega, by omega⟩, ⟨by omega, by omega⟩, ⟨by omega, by omega⟩, fun h6 d6 => ?_⟩)⟩
    have l2 : LKb c S0 h6 := LKb_fr hc l1 (by rw [d6]; exact Fr.up Fr.rf (by omega))
    refine x_northP hst hc l2 (by decide) (by omega) (x_northFP hst hc l2 i0 i1 ⟨⟨by omega, by omega⟩, ⟨by omega, by omega⟩, ⟨by omega, by omega⟩, fun h12 d12 => ⟨⟨by omega, by omega⟩, ih h12 ⟨?_, ?_⟩⟩⟩)
    · rw [d12, d6]
      exact Fr.up (Fr.up f (by omega)) (by omega)
    · refine AIMs_st a ?_ ?_ (by rw [d12, d6])
      · rw [wE, if_neg (by omega), if_pos k6]; omega
      · rw [wN, if_neg (by omega), if_pos k6]; omega
  · intro h ⟨f, a⟩
    have h5 : h 12 5 = S0 78 62 := (f _ _ (by omega)).trans l.1.1
    exact b_X1_aimOpen_2 hst hc ⟨fun _ => k h f a, fun z => absurd z (by omega)⟩
theorem x_aimShift {K : qM → Prop} (hst : St sh pt) (hc : isC c) (l : LKb c S0 h0) (k6 : S0 94 o = 9) (b6 : (-59 ≤ S0 96 o ∧ S0 96 o ≤ 59) ∧ (-59 ≤ S0 97 o ∧ S0 97 o ≤ 59)) (k : ∀ h, Fr (fun a _ => a = 14 ∨ a = 15) h0 h → AIMs S0 o (S0 78 62) h → K h) : RunV X (d + 2) mX1_aimShift [(2, 12), (2, c), (0, S0 96 o), (0, S0 97 o)] sh pt h0 K := by
  have sz := l.2.1.1
  refine b_X1_aimShift hst hc ?_
  refine lp (σ := qM) (n := S0 78 62) (J := fun i h => Fr (fun a _ => a = 14 ∨ a = 15) h0 h ∧ AIMs S0 o i h) (C := fun i h => EvV X (d + 2) mX1_aimShift 3 [(2, 12), (2, c), (0, S0 96 o), (0, S0 97 o), (0, i)] [] sh pt h K) sz.1 ?_ ?_ h0 ⟨Fr.rf, fun i _ _ => by omega⟩
  · intro i h i0 i1 ⟨f, a⟩ ih
    have l1 := LKb_fr hc l (Fr.wk f (fun a x z => by omega))
    have bi := LKb_b l i0 i1
    refine b_X1_aimShift_3 hst hc ?_
    rw [l1.1.1]
    refine ⟨fun z => absurd z (by omega), fun _ => ⟨⟨by omega, by omega⟩, x_eastP hst hc l1 i0 i1 ⟨⟨by omega, by omega⟩, ⟨by omega, by omega⟩, fun h6 d6 => ⟨⟨by omega, by omega⟩, ?_⟩⟩⟩⟩
    have l2 : LKb c S0 h6 := LKb_fr hc l1 (by rw [d6]; exact Fr.up Fr.rf (by omega))
    refine x_northP hst hc l2 i0 i1 ⟨⟨by omega, by omega⟩, ⟨by omega, by omega⟩, fun h12 d12 => ⟨⟨by omega, by omega⟩, ih h12 ⟨?_, ?_⟩⟩⟩
    · rw [d12, d6]
      exact Fr.up (Fr.up f (by omega)) (by omega)
    · refine AIMs_st a ?_ ?_ (by rw [d12, d6])
      · rw [wE, if_neg (by omega), if_neg (by omega), if_neg (by omega)]
      · rw [wN, if_neg (by omega), if_neg (by omega), if_neg (by omega)]
  · intro h ⟨f, a⟩
    have h5 : h 12 5 = S0 78 62 := (f _ _ (by omega)).trans l.1.1
    exact b_X1_aimShift_3 hst hc ⟨fun _ => k h f a, fun z => absurd z (by omega)⟩
theorem x_aimClose {K : qM → Prop} (hst : St sh pt) (hc : isC c) (l : LKb c S0 h0) (h00 : h0 12 0 = 0) (k6 : S0 94 o = 8) (b6 : 2 ≤ S0 96 o ∧ S0 96 o ≤ 5) (k1 : whl S0 (S0 96 o) → ∀ h, Fr (fun a _ => a = 14 ∨ a = 15) h0 h → AIMs S0 o (S0 78 62) h → K h) (k0 : ¬ whl S0 (S0 96 o) → ∀ h, Fr (fun a x => a = 14 ∨ a = 15 ∨ (a = 12 ∧ x = 0)) h0 h → h 12 0 = 3 → K h) : RunV X (d + 2) mX1_aimClose [(2, 12), (2, c), (0, S0 96 o)] sh pt h0 K := by
  have sz := l.2.1.1
  refine b_X1_aimClose hst hc ⟨fun _ => ?_, fun z => absurd z (by omega)⟩
  refine lp (σ := qM) (n := S0 78 62) (J := fun i h => Fr (fun a x => a = 14 ∨ a = 15 ∨ (a = 12 ∧ x = 0)) h0 h ∧ AIMs S0 o i h ∧ ((h 12 0 = 0 ∧ ∀ i', 0 ≤ i' → i' < i → (xB S0 i').tmod (S0 96 o) = 0 ∧ (yB S0 i').tmod (S0 96 o) = 0) ∨ (h 12 0 = 3 ∧ ¬ whl S0 (S0 96 o)))) (C := fun i h => EvV X (d + 2) mX1_aimClose 8 [(2, 12), (2, c), (0, S0 96 o), (0, i), (8, -1), (8, -1)] [] sh pt h K) sz.1 ?_ ?_ h0 ⟨Fr.rf, fun i _ _ => by omega, Or.inl ⟨h00, fun i' _ _ => by omega⟩⟩
  · intro i h i0 i1 ⟨f, a, e⟩ ih
    have l1 := LKb_fr hc l f
    have bi := LKb_b l i0 i1
    have b0 := LKb_b l (show (0 : Int) ≤ 0 by decide) (by omega)
    have t1 := tdiv_bd (x := xB S0 i) (b := S0 96 o) (m := 59) (by omega) (by omega) (by omega)
    have t2 := tdiv_bd (x := yB S0 i) (b := S0 96 o) (m := 59) (by omega) (by omega) (by omega)
    have go : ∀ h, Fr (fun a x => a = 14 ∨ a = 15 ∨ (a = 12 ∧ x = 0)) h0 h → AIMs S0 o i h → ((h 12 0 = 0 ∧ ∀ i', 0 ≤ i' → i' < i + 1 → (xB S0 i').tmod (S0 96 o) = 0 ∧ (yB S0 i').tmod (S0 96 o) = 0) ∨ (h 12 0 = 3 ∧ ¬ whl S0 (S0 96 o))) → EvV X (d + 2) mX1_aimClose 51 [(2, 12), (2, c), (0, S0 96 o), (0, i), (0, xB S0 i), (0, yB S0 i)] [] sh pt h K := by
      intro h f a e
      have l1 := LKb_fr hc l f
      refine b_X1_aimClose_51 hst hc (x_eastP hst hc l1 (by decide) (by omega) ⟨⟨by omega, by omega, by omega⟩, ⟨by omega, by omega⟩, ⟨by omega, by omega⟩, fun h4 d4 => ?_⟩)
      have l2 : LKb c S0 h4 := LKb_fr hc l1 (by rw [d4]; exact Fr.up Fr.rf (by omega))
      refine x_northP hst hc l2 (by decide) (by omega) ⟨⟨by omega, by omega, by omega⟩, ⟨by omega, by omega⟩, ⟨by omega, by omega⟩, fun h8 d8 => ⟨⟨by omega, by omega⟩, ih h8 ⟨?_, ?_, ?_⟩⟩⟩
      · rw [d8, d4]
        exact Fr.up (Fr.up f (by omega)) (by omega)
      · refine AIMs_st a ?_ ?_ (by rw [d8, d4])
        · rw [wE, if_neg (by omega), if_neg (by omega), if_pos k6]; omega
        · rw [wN, if_neg (by omega), if_neg (by omega), if_pos k6]; omega
      · rw [d8, qup_of (by omega), d4, qup_of (by omega)]
        exact e
    have bad : ¬ ((xB S0 i).tmod (S0 96 o) = 0 ∧ (yB S0 i).tmod (S0 96 o) = 0) → RunV X (d + 1) mX1_fail [(2, 12), (0, 3)] sh pt h (fun h5 => EvV X (d + 2) mX1_aimClose 51 [(2, 12), (2, c), (0, S0 96 o), (0, i), (0, xB S0 i), (0, yB S0 i)] [] sh pt h5 K) := by
      intro z
      refine x_failD hst (go _ ?_ ?_ (Or.inr ⟨?_, fun y => z (y i i0 i1)⟩))
      · split
        · exact Fr.up f (by omega)
        · exact f
      · split
        · intro i' a0 a1
          rw [qup_of (by omega), qup_of (by omega)]
          exact a i' a0 a1
        · exact a
      · split
        · exact qup_at
        · rename_i y
          rcases e with e | e
          · exact absurd e.1 y
          · exact e.1
    have good : (xB S0 i).tmod (S0 96 o) = 0 → (yB S0 i).tmod (S0 96 o) = 0 → EvV X (d + 2) mX1_aimClose 51 [(2, 12), (2, c), (0, S0 96 o), (0, i), (0, xB S0 i), (0, yB S0 i)] [] sh pt h K := by
      intro y1 y2
      refine go h f a ?_
      rcases e with e | e
      · refine Or.inl ⟨e.1, fun i' a0 a1 => ?_⟩
        by_cases z : i' = i
        · rw [z]; exact ⟨y1, y2⟩
        · exact e.2 i' a0 (by omega)
      · exact Or.inr e
    refine b_X1_aimClose_8 hst hc ?_
    rw [l1.1.1]
    exact ⟨fun z => absurd z (by omega), fun _ => x_eastFP hst hc l1 i0 i1 (x_northFP hst hc l1 i0 i1 ⟨by omega, fun y => bad (fun z => y z.1), fun y => ⟨by omega, fun y2 => good y y2, fun y2 => bad (fun z => y2 z.2)⟩⟩)⟩
  · intro h ⟨f, a, e⟩
    have h5 : h 12 5 = S0 78 62 := (f _ _ (by omega)).trans l.1.1
    refine b_X1_aimClose_8 hst hc ⟨fun _ => ?_, fun z => absurd z (by omega)⟩
    rcases e with e | e
    · refine k1 (fun i' a0 a1 => e.2 i' a0 a1) h (fun x y z => ?_) a
      by_cases w : x = 12 ∧ y = 0
      · rw [w.1, w.2, e.1, h00]
      · exact f x y (by omega)
    · exact k0 e.2 h f e.1
theorem x_slide {K : qM → Prop} (hst : St sh pt) (hc : isC c) (oc : OC S0 o) (e0 : S0 78 67 = 0) (bd : bdR S0 h0) (hn : h0 12 10 = S0 78 63) (h00 : h0 12 0 = 0) (sb : SBc c h0) (cg : ∀ i t, 0 ≤ i → i < S0 78 62 → 0 ≤ t → t ≤ S0 78 63 → CGr c S0 h0 (20 * t + S0 112 i)) (kw : 6 ≤ S0 94 o ∧ S0 94 o ≤ 9) (am : AIMs S0 o (S0 78 62) h0) (k : ∀ h, XHv c S0 (S0 95 o + 1) h0 (fo (gJ o (S0 95 o)) 1 (S0 95 o + 1) S0) h → K h) : RunV X (d + 2) mX1_slide [(2, 12), (2, c), (0, S0 95 o)] sh pt h0 K := by
  have nb := OC_n oc
  have sz := oc.1.1
  have cc := oc.2.2.1
  have cn : c ≠ 11 ∧ c ≠ 12 ∧ 60 ≤ c := by rcases hc with e | e <;> omega
  refine b_X1_slide hst hc ?_
  rw [hn]
  refine x_go (S0 := S0) (C3 := fun j h => EvV X (d + 2) mX1_slide 8 [(2, 12), (2, c), (0, S0 95 o), (0, S0 78 63), (0, j), (8, -1), (8, -1), (8, -1), (8, -1)] [] sh pt h K) (C29 := fun j i h => EvV X (d + 2) mX1_slide 34 [(2, 12), (2, c), (0, S0 95 o), (0, S0 78 63), (0, j), (0, i), (8, -1), (8, -1), (8, -1)] [] sh pt h K) hc oc e0 hn h00 sb cg ?_ ?_ ?_ k
  · intro j h j0 j1 hb kk ke
    refine b_X1_slide_8 hst hc ⟨fun q => ke (Or.inl (by omega)), fun q => ⟨fun q2 => ke (Or.inr q2), fun q2 => ⟨⟨by omega, by omega⟩, fun h1 d1 => ?_⟩⟩⟩
    rw [d1]
    exact kk (by omega) q2
  · intro j h f j0 j1 kk
    have h5 : h 12 5 = S0 78 62 := (f _ _ (by unfold XGw; omega)).trans bd.1
    exact b_X1_slide_34 hst hc ⟨fun _ => ⟨⟨by omega, by omega⟩, kk⟩, fun q => absurd q (by omega)⟩
  · intro j i S h j0 j1 i0 i1 g fv xr kk
    have h5 : h 12 5 = S0 78 62 := (xr.1 _ _ (by unfold XGw; omega)).trans bd.1
    have h13 : h 13 i = S0 112 i := (xr.1 _ _ (by unfold XGw; omega)).trans (bd.2 i i0 i1)
    have mi := oc.1.2 i i0 i1
    have n10 := xr.2.2.1
    have ai := am i i0 i1
    have h14 : h 14 i = S0 109 (20 * S0 78 63 + S0 112 i) + wE o i S0 := (xr.1 _ _ (by unfold XGw; omega)).trans ai.1
    have h15 : h 15 i = S0 110 (20 * S0 78 63 + S0 112 i) + wN o i S0 := (xr.1 _ _ (by unfold XGw; omega)).trans ai.2
    obtain ⟨e1, e2, e3⟩ := GIV_at g
    have ek : S 94 o = S0 94 o := e3 94 o (by decide) (by decide)
    obtain ⟨⟨bb1, bb2, bb3, bb4⟩, bg⟩ := GIV_B oc g i0 i1 i i0 i1
    obtain ⟨⟨_, bp2, bp3, _⟩, _⟩ := GIV_B oc g i0 i1 0 (by decide) (by omega)
    have ex : xB S i = xB S0 i := by unfold xB; rw [bb2, bp2]
    have ey : yB S i = yB S0 i := by unfold yB; rw [bb3, bp3]
    have ew : wE o i S = wE o i S0 := by unfold wE; rw [ek, ex, ey, e3 96 o (by decide) (by decide)]
    have en : wN o i S = wN o i S0 := by unfold wN; rw [ek, ex, ey, e3 96 o (by decide) (by decide), e3 97 o (by decide) (by decide)]
    obtain ⟨_, _, wb1, wb2⟩ := wEN_bd oc g i0 i1 kw
    rw [ew] at wb1
    rw [en] at wb2
    have eb : cB S0 i = 20 * S0 78 63 + S0 112 i := rfl
    have vE : gE o i j (S0 95 o) S = btw (S0 109 (20 * S0 78 63 + S0 112 i)) (S0 109 (20 * S0 78 63 + S0 112 i) + wE o i S0) j (S0 95 o) := by
      unfold gE
      rw [if_neg (by omega), if_neg (by omega), if_neg (by omega), if_pos (by omega), bb2, ew, eb]
    have vN : gN o i j (S0 95 o) S = btw (S0 110 (20 * S0 78 63 + S0 112 i)) (S0 110 (20 * S0 78 63 + S0 112 i) + wN o i S0) j (S0 95 o) := by
      unfold gN
      rw [if_neg (by omega), if_neg (by omega), if_neg (by omega), if_pos (by omega), bb3, en, eb]
    have vF : gF o i j S = S0 111 (20 * S0 78 63 + S0 112 i) := by
      unfold gF
      rw [if_neg (by omega)]
      have ea : cA S i j = 20 * (S0 78 63 + (j - 1)) + S0 112 i := by unfold cA; rw [e1 63 (by decide) (by decide) (by decide), e2]; omega
      rw [ea]
      by_cases y : j = 1
      · rw [y, show 20 * (S0 78 63 + (1 - 1)) + S0 112 i = cB S0 i by rw [eb]; omega, ← eb, ← bb4, bb1]
      · exact fv (by omega) i (j - 1) i0 i1 (by omega) (Or.inl (by omega))
    have cr := xr.2.2.2.2.1 i (S0 78 63) i0 i1 (by omega) (by omega)
    rw [eb] at bb1 bb2 bb3 bb4
    have s109 : S 109 (20 * S0 78 63 + S0 112 i) = S0 109 (20 * S0 78 63 + S0 112 i) := by rw [bb1] at bb2; exact bb2
    have s110 : S 110 (20 * S0 78 63 + S0 112 i) = S0 110 (20 * S0 78 63 + S0 112 i) := by rw [bb1] at bb3; exact bb3
    have s111 : S 111 (20 * S0 78 63 + S0 112 i) = S0 111 (20 * S0 78 63 + S0 112 i) := by rw [bb1] at bb4; exact bb4
    have gg := cr.2
    unfold gnd at gg
    rw [s109, s110, s111] at gg
    refine b_X1_slide_34 hst hc ⟨fun q => absurd q (by omega), fun _ => ⟨⟨by omega, by omega⟩, ?_⟩⟩
    rw [h13]
    refine x_eastR (S := S) hst hc (by omega) mi cr ⟨⟨by omega, by omega⟩, ?_⟩
    rw [h14, s109]
    refine x_between hst (by omega) j1 (by omega) (by omega) (by omega) (by omega) (by omega) (by omega) (x_northR (S := S) hst hc (by omega) mi cr ⟨⟨by omega, by omega⟩, ?_⟩)
    rw [h15, s110]
    refine x_between hst (by omega) j1 (by omega) (by omega) (by omega) (by omega) (by omega) (by omega) (x_faceR (S := S) hst hc (by omega) mi cr ?_)
    rw [n10, s111, ← vE, ← vN, ← vF]
    refine x_put hst hc (by omega) mi (by rw [vF]; exact gg.2.2) (fun og => ⟨fun _ => ⟨⟨by omega, by omega⟩, ?_⟩, fun z => absurd z (by decide)⟩) (fun og => ⟨fun z => absurd rfl z, fun _ => x_failD hst ⟨⟨by omega, by omega⟩, ?_⟩⟩)
    · exact kk _ (fun _ => rfl) (fun z => absurd og z)
    · exact kk _ (fun z => absurd z og) (fun _ => rfl)
end
