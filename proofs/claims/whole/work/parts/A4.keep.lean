/-! what holds between the orders of a RUN -/
def PRr (S0 : qM) (a x : Int) : Prop := (a = 78 ∧ 63 ≤ x ∧ x ≤ 68) ∨ ((109 ≤ a ∧ a ≤ 111) ∧ bC S0 x)
def rSI (W : Int) (S : qM) : Prop := bdB S ∧ (0 ≤ S 78 63 ∧ S 78 63 ≤ 150) ∧ (0 ≤ S 78 64 ∧ S 78 64 ≤ 500) ∧ (0 ≤ S 78 66 ∧ S 78 66 ≤ W + S 78 64) ∧ 0 ≤ S 78 67 ∧ (S 78 67 = 0 → ∀ i t, 0 ≤ i → i < S 78 62 → 0 ≤ t → t ≤ S 78 63 → gnd S (20 * t + S 112 i))
def SK (W : Int) (S0 S : qM) : Prop := rSI W S ∧ Fr (PRr S0) S0 S
def TIV (S1 : qM) (t : Int) (S : qM) : Prop := Fr (fun a x => a = 111 ∧ ∃ i, 0 ≤ i ∧ i < S1 78 62 ∧ x = 20 * t + S1 112 i) S1 S ∧ ∀ i, 0 ≤ i → i < S1 78 62 → 0 ≤ S 111 (20 * t + S1 112 i) ∧ S 111 (20 * t + S1 112 i) < 8
section
variable {S0 S1 S : qM} {W o i t v : Int}
theorem SK_at (k : SK W S0 S) : S 78 62 = S0 78 62 ∧ (∀ x, S 112 x = S0 112 x) ∧ (∀ a x, a < 109 → ¬ a = 78 → S a x = S0 a x) ∧ (∀ x, x < 63 → S 78 x = S0 78 x) :=
  ⟨k.2 _ _ (by unfold PRr; omega), fun x => k.2 _ _ (by unfold PRr; omega), fun a x q q2 => k.2 _ _ (by unfold PRr; omega), fun x q => k.2 _ _ (by unfold PRr; omega)⟩
theorem SK_ok (k : SK W S0 S) (q : oK S0 o) : oK S o := by
  obtain ⟨_, _, e, _⟩ := SK_at k
  unfold oK at q ⊢
  rw [e 94 o (by decide) (by decide), e 95 o (by decide) (by decide), e 96 o (by decide) (by decide), e 97 o (by decide) (by decide)]
  exact q
theorem tnI_keep (g : TIV S1 t S) (i0 : 0 ≤ i) (i1 : i < S1 78 62) : TIV S1 t (tnI v t i S) := by
  have e : S 112 i = S1 112 i := g.1 _ _ (by omega)
  unfold tnI
  rw [e]
  refine ⟨fun a x q => ?_, fun i' a0 a1 => ?_⟩
  · rw [qup_of (fun z => q ⟨z.1, i, i0, i1, z.2⟩)]
    exact g.1 a x q
  · by_cases q : 20 * t + S1 112 i' = 20 * t + S1 112 i
    · rw [q, qup_at]
      omega
    · rw [qup_of (by omega)]
      exact g.2 i' a0 a1
theorem tnIs_keep (b : 0 ≤ S1 78 62) (g : TIV S1 t S1) : TIV S1 t (fo (tnI v t) 0 (S1 78 62) S1) :=
  fo_inv (fun _ U => TIV S1 t U) (fun i U a b q => tnI_keep q a b) b g
theorem Fr_cell {P : Int → Int → Prop} {U : qM} (f : Fr P S0 U) {a : Int} (q : ∀ x, ¬ P a x) : ∀ x, U a x = S0 a x := fun x => f a x (q x)
/-- one order more is done -/
theorem SK_done (k : SK W S0 S) (d5 : S 78 64 < 500) : SK W S0 (qup S 78 64 (S 78 64 + 1)) ∧ (qup S 78 64 (S 78 64 + 1)) 78 66 + 1 ≤ W + (qup S 78 64 (S 78 64 + 1)) 78 64 := by
  obtain ⟨⟨b1, b2, b3, b4, b5, b6⟩, f⟩ := k
  have e : ∀ a x, ¬ (a = 78 ∧ x = 64) → qup S 78 64 (S 78 64 + 1) a x = S a x := fun a x q => qup_of q
  have e4 : qup S 78 64 (S 78 64 + 1) 78 64 = S 78 64 + 1 := qup_at
  generalize qup S 78 64 (S 78 64 + 1) = U at *
  refine ⟨⟨⟨⟨by rw [e 78 62 (by decide)]; exact b1.1, fun i a b => ?_⟩, by rw [e 78 63 (by decide)]; exact b2, by omega, by rw [e 78 66 (by decide)]; omega, by rw [e 78 67 (by decide)]; exact b5, fun z i t a b c d => ?_⟩, fun a x q => ?_⟩, by rw [e 78 66 (by decide)]; omega⟩
  · rw [e 112 i (by omega)]
    rw [e 78 62 (by decide)] at b
    exact b1.2 i a b
  · rw [e 78 67 (by decide)] at z
    rw [e 78 62 (by decide)] at b
    rw [e 78 63 (by decide)] at d
    have y := b6 z i t a b c d
    unfold gnd at y ⊢
    rw [e 112 i (by omega), e 109 _ (by omega), e 110 _ (by omega), e 111 _ (by omega)]
    exact y
  · rw [e a x (fun z => q (Or.inl ⟨z.1, by omega, by omega⟩))]
    exact f a x q
theorem fl_keep (k : SK W S0 S) (v0 : 0 < v) : SK W S0 (fl v o S) ∧ 0 < fl v o S 78 67 := by
  obtain ⟨⟨b1, b2, b3, b4, b5, b6⟩, f⟩ := k
  have e : ∀ a x, ¬ (a = 78 ∧ (x = 67 ∨ x = 68)) → fl v o S a x = S a x := fun a x q => fl_of q
  have e7 : 0 < fl v o S 78 67 := by
    by_cases c : S 78 67 = 0
    · rw [(fl_0 c).1]; exact v0
    · rw [fl_n (by omega)]; omega
  generalize fl v o S = U at *
  refine ⟨⟨⟨⟨by rw [e 78 62 (by decide)]; exact b1.1, fun i a b => ?_⟩, by rw [e 78 63 (by decide)]; exact b2, by rw [e 78 64 (by decide)]; exact b3, by rw [e 78 66 (by decide), e 78 64 (by decide)]; exact b4, by omega, fun z => by omega⟩, fun a x q => ?_⟩, e7⟩
  · rw [e 112 i (by omega)]
    rw [e 78 62 (by decide)] at b
    exact b1.2 i a b
  · rw [e a x (fun z => q (Or.inl ⟨z.1, by omega, by omega⟩))]
    exact f a x q
theorem tuF_keep {n : Int} (k : SK W S0 S) (w : S 78 66 + 1 ≤ W + S 78 64) (e0 : S 78 67 = 0) : SK W S0 (tuF n S) ∧ (tuF n S) 78 67 = 0 ∧ Fr (fun a x => (a = 78 ∧ x = 66) ∨ (a = 111 ∧ ∃ i, 0 ≤ i ∧ i < S0 78 62 ∧ x = 20 * S 78 63 + S0 112 i)) S (tuF n S) := by
  obtain ⟨s62, s112, sr, _⟩ := SK_at k
  obtain ⟨⟨b1, b2, b3, b4, b5, b6⟩, f⟩ := k
  have g6 := b6 e0
  have b11 := b1.1
  have wv : 0 ≤ (if well (S 78 65) n then (0 : Int) else 1) ∧ (if well (S 78 65) n then (0 : Int) else 1) ≤ 1 := by split <;> omega
  unfold tuF
  generalize (if well (S 78 65) n then (0 : Int) else 1) = wr at wv ⊢
  have e : ∀ a x, ¬ (a = 78 ∧ x = 66) → qup S 78 66 (S 78 66 + wr) a x = S a x := fun a x q => qup_of q
  have e4 : qup S 78 66 (S 78 66 + wr) 78 66 = S 78 66 + wr := qup_at
  generalize qup S 78 66 (S 78 66 + wr) = U at *
  have u62 : U 78 62 = S0 78 62 := by rw [e 78 62 (by decide), s62]
  have u112 : ∀ x, U 112 x = S0 112 x := fun x => by rw [e 112 x (by omega), s112]
  have t0 : TIV U (S 78 63) U := ⟨Fr.rf, fun i a b => by
    have y := g6 i (S 78 63) a (by omega) (by omega) (by omega)
    unfold gnd at y
    rw [u112, e 111 _ (by omega), ← s112]
    exact y.2.2⟩
  have kk := tnIs_keep (v := n) (by omega) t0
  rw [show S 78 62 = U 78 62 by omega]
  generalize fo (tnI n (S 78 63)) 0 (U 78 62) U = V at *
  have ve : ∀ a x, ¬ a = 111 → V a x = U a x := fun a x q => kk.1 a x (fun z => q z.1)
  have vf : Fr (fun a x => (a = 78 ∧ x = 66) ∨ (a = 111 ∧ ∃ i, 0 ≤ i ∧ i < S0 78 62 ∧ x = 20 * S 78 63 + S0 112 i)) S V := fun a x q => by
    rw [kk.1 a x (fun ⟨z, i, a0, a1, z2⟩ => q (Or.inr ⟨z, i, a0, by omega, by rw [← u112]; exact z2⟩)), e a x (fun z => q (Or.inl z))]
  have v67 : V 78 67 = 0 := by rw [ve 78 67 (by decide), e 78 67 (by decide)]; exact e0
  refine ⟨⟨⟨⟨by rw [ve 78 62 (by decide), u62, ← s62]; exact b1.1, fun i a b => ?_⟩, by rw [ve 78 63 (by decide), e 78 63 (by decide)]; exact b2, by rw [ve 78 64 (by decide), e 78 64 (by decide)]; exact b3, by rw [ve 78 66 (by decide), ve 78 64 (by decide), e 78 64 (by decide), e4]; omega, by omega, fun _ i t a b c d => ?_⟩, fun a x q => ?_⟩, v67, vf⟩
  · rw [ve 112 i (by omega), u112, ← s112]
    rw [ve 78 62 (by decide), u62, ← s62] at b
    exact b1.2 i a b
  · rw [ve 78 62 (by decide), u62] at b
    rw [ve 78 63 (by decide), e 78 63 (by decide)] at d
    rw [ve 112 i (by omega), u112]
    have y := g6 i t a (by omega) c d
    rw [s112] at y
    unfold gnd at y ⊢
    rw [ve 109 _ (by omega), ve 110 _ (by omega), e 109 _ (by omega), e 110 _ (by omega)]
    refine ⟨y.1, y.2.1, ?_⟩
    by_cases q : ∃ i', 0 ≤ i' ∧ i' < U 78 62 ∧ 20 * t + S0 112 i = 20 * S 78 63 + U 112 i'
    · obtain ⟨i', a0, a1, z⟩ := q
      rw [z]
      exact kk.2 i' a0 a1
    · rw [kk.1 111 _ (fun z => q z.2), e 111 _ (by omega)]
      exact y.2.2
  · rw [vf a x (fun z => ?_)]
    · exact f a x q
    · rcases z with ⟨z1, z2⟩ | ⟨z1, i, a0, a1, z2⟩
      · exact q (Or.inl ⟨z1, by omega, by omega⟩)
      · exact q (Or.inr ⟨by omega, i, _, a0, a1, z2⟩)
theorem OC_of (k : SK W S0 S) (q : oK S0 o) (e0 : S 78 67 = 0) (c : S 78 63 + S 95 o ≤ 150) (k5 : ¬ S 94 o = 5) (k10 : ¬ S 94 o = 10) : OC S o :=
  ⟨k.1.1, SK_ok k q, ⟨k.1.2.1.1, c⟩, fun i a b => k.1.2.2.2.2.2 e0 i (S 78 63) a b (by have := k.1.2.1.1; omega) (by omega), k5, k10⟩
theorem gGo_keep (k : SK W S0 S) (q : oK S0 o) (e0 : S 78 67 = 0) (c : S 78 63 + S 95 o ≤ 150) (k5 : ¬ S 94 o = 5) (k10 : ¬ S 94 o = 10) : SK W S0 (gGo o S) ∧ gGo o S 78 63 = S 78 63 + S 95 o ∧ ((gGo o S 78 67 = 0) ∨ (gGo o S 78 67 = 4 ∧ gGo o S 78 68 = S 98 o)) := by
  have oc := OC_of k q e0 c k5 k10
  have nb := OC_n oc
  have kp := gJs_keep oc e0
  obtain ⟨s62, s112, sr, _⟩ := SK_at k
  obtain ⟨⟨b1, b2, b3, b4, b5, b6⟩, f⟩ := k
  have g6 := b6 e0
  have b11 := b1.1
  unfold gGo
  generalize fo (gJ o (S 95 o)) 1 (S 95 o + 1) S = V at *
  obtain ⟨v78, v112, vr⟩ := GIV_at kp
  have v62 := v78 62 (by decide) (by decide) (by decide)
  have key : ∀ R : qM, (∀ a x, ¬ a = 111 → R a x = V a x) → (∀ x, ¬ bC S0 x → R 111 x = V 111 x) → (∀ i t, 0 ≤ i → i < S 78 62 → 0 ≤ t → t ≤ S 78 63 + S 95 o → (0 ≤ V 111 (20 * t + S 112 i) ∧ V 111 (20 * t + S 112 i) < 8) → 0 ≤ R 111 (20 * t + S 112 i) ∧ R 111 (20 * t + S 112 i) < 8) → SK W S0 (qup R 78 63 (S 78 63 + S 95 o)) ∧ qup R 78 63 (S 78 63 + S 95 o) 78 63 = S 78 63 + S 95 o ∧ ((qup R 78 63 (S 78 63 + S 95 o) 78 67 = 0) ∨ (qup R 78 63 (S 78 63 + S 95 o) 78 67 = 4 ∧ qup R 78 63 (S 78 63 + S 95 o) 78 68 = S 98 o)) := by
    intro R re rb rf
    have qe : ∀ a x, ¬ (a = 78 ∧ x = 63) → qup R 78 63 (S 78 63 + S 95 o) a x = R a x := fun a x q => qup_of q
    have q3 : qup R 78 63 (S 78 63 + S 95 o) 78 63 = S 78 63 + S 95 o := qup_at
    generalize qup R 78 63 (S 78 63 + S 95 o) = Q at *
    have r7 : R 78 67 = V 78 67 := re 78 67 (by decide)
    have r8 : R 78 68 = V 78 68 := re 78 68 (by decide)
    have q7 : Q 78 67 = V 78 67 := by rw [qe 78 67 (by decide), r7]
    have er := kp.2.2.2
    refine ⟨⟨⟨⟨by rw [qe 78 62 (by decide), re 78 62 (by decide), v62]; exact b1.1, fun i a b => ?_⟩, by omega, by rw [qe 78 64 (by decide), re 78 64 (by decide), v78 64 (by decide) (by decide) (by decide)]; exact b3, by rw [qe 78 66 (by decide), re 78 66 (by decide), v78 66 (by decide) (by decide) (by decide), qe 78 64 (by decide), re 78 64 (by decide), v78 64 (by decide) (by decide) (by decide)]; exact b4, by omega, fun z i t a b c d => ?_⟩, fun a x q => ?_⟩, q3, by rw [q7, qe 78 68 (by decide), r8]; exact er⟩
    · rw [qe 112 i (by omega), re 112 i (by omega), v112]
      rw [qe 78 62 (by decide), re 78 62 (by decide), v62] at b
      exact b1.2 i a b
    · rw [qe 78 62 (by decide), re 78 62 (by decide), v62] at b
      rw [qe 112 i (by omega), re 112 i (by omega), v112]
      have mi := b1.2 i a b
      have gv : gnd V (20 * t + S 112 i) := by
        by_cases tt : t ≤ S 78 63
        · have y := g6 i t a b c tt
          unfold gnd at y ⊢
          rw [kp.1 109 _ (by unfold PGr; omega), kp.1 110 _ (by unfold PGr; omega), kp.1 111 _ (by unfold PGr; omega)]
          exact y
        · have y := kp.2.2.1 (by omega) i (t - S 78 63) a b (by omega) (Or.inl (by omega))
          rw [show S 78 63 + (t - S 78 63) = t by omega] at y
          exact y
      have ff := rf i t a b c (by omega) gv.2.2
      unfold gnd at gv ⊢
      rw [qe 109 _ (by omega), re 109 _ (by omega), qe 110 _ (by omega), re 110 _ (by omega), qe 111 _ (by omega)]
      exact ⟨gv.1, gv.2.1, ff⟩
    · have n1 : ¬ (a = 78 ∧ x = 63) := fun z => q (Or.inl ⟨z.1, by omega, by omega⟩)
      have n2 : ¬ PGr S a x := fun z => by
        rcases z with ⟨z1, z2⟩ | ⟨z1, z2, i, t, a0, a1, z3⟩
        · exact q (Or.inl ⟨z1, by omega, by omega⟩)
        · exact q (Or.inr ⟨by omega, i, t, a0, by omega, by rw [← s112]; exact z3⟩)
      rw [qe a x n1]
      by_cases w : a = 111
      · rw [w] at q n2 ⊢
        rw [rb x (fun z => q (Or.inr ⟨by omega, z⟩)), kp.1 111 x n2]
        exact f 111 x q
      · rw [re a x w, kp.1 a x n2]
        exact f a x q
  by_cases c6 : S 94 o = 6
  · rw [cif_t c6]
    by_cases hz : V 78 67 = 0
    · have t0 : TIV V (S 78 63 + S 95 o) V := ⟨Fr.rf, fun i a b => by
        have y := kp.2.2.1 hz i (S 95 o) a (by omega) (by omega) (Or.inl (by omega))
        rw [v112]
        exact y.2.2⟩
      have kk := tnIs_keep (v := 8 + 2 * S 96 o) (by omega) t0
      rw [v62] at kk
      refine key _ (fun a x w => kk.1 a x (fun z => w z.1)) (fun x w => kk.1 111 x (fun ⟨_, i, a0, a1, z⟩ => w ⟨i, _, a0, by omega, by rw [← s112, ← v112]; exact z⟩)) (fun i t a b c d y => ?_)
      by_cases w : ∃ i', 0 ≤ i' ∧ i' < V 78 62 ∧ 20 * t + S 112 i = 20 * (S 78 63 + S 95 o) + V 112 i'
      · obtain ⟨i', a0, a1, z⟩ := w
        rw [z]
        exact kk.2 i' a0 a1
      · rw [kk.1 111 _ (fun z => w z.2)]
        exact y
    · have t0 : TIV V (S 78 63 + S 95 o) V := ⟨Fr.rf, fun i a b => by
        have y := kp.2.1 i (S 95 o) a (by omega) (by omega) (Or.inl (by omega))
        rw [v112]
        exact y.2.2⟩
      have kk := tnIs_keep (v := 8 + 2 * S 96 o) (by omega) t0
      rw [v62] at kk
      refine key _ (fun a x w => kk.1 a x (fun z => w z.1)) (fun x w => kk.1 111 x (fun ⟨_, i, a0, a1, z⟩ => w ⟨i, _, a0, by omega, by rw [← s112, ← v112]; exact z⟩)) (fun i t a b c d y => ?_)
      by_cases w : ∃ i', 0 ≤ i' ∧ i' < V 78 62 ∧ 20 * t + S 112 i = 20 * (S 78 63 + S 95 o) + V 112 i'
      · obtain ⟨i', a0, a1, z⟩ := w
        rw [z]
        exact kk.2 i' a0 a1
      · rw [kk.1 111 _ (fun z => w z.2)]
        exact y
  · rw [cif_f c6]
    exact key V (fun _ _ _ => rfl) (fun _ _ => rfl) (fun _ _ _ _ _ _ y => y)
theorem goF_keep (k : SK W S0 S) (q : oK S0 o) (e0 : S 78 67 = 0) (k5 : ¬ S 94 o = 5) (k10 : ¬ S 94 o = 10) : SK W S0 (goF o S) := by
  unfold goF
  by_cases c : 150 < S 78 63 + S 95 o
  · rw [cif_t c]
    exact (fl_keep k (by decide)).1
  rw [cif_f c]
  by_cases c8 : S 94 o = 8 ∧ ¬ whl S (S 96 o)
  · rw [cif_t c8]
    exact (fl_keep k (by decide)).1
  · rw [cif_f c8]
    exact (gGo_keep k q e0 (by omega) k5 k10).1
end
