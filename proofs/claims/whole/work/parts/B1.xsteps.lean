/-! a RUN of the class: go, back, mark, halt, follow -/
def bdR (S h : qM) : Prop := h 12 5 = S 78 62 ∧ ∀ i, 0 ≤ i → i < S 78 62 → h 13 i = S 112 i
section
variable {X : qX} {d : Nat} {sh : qS} {pt h0 S0 S : qM} {c o i j n w : Int}
theorem gEN_w (oc : OC S0 o) (g : GIV S0 o j i S) (kw : (S0 94 o = 0 ∧ w = 1) ∨ (S0 94 o = 1 ∧ w = -1) ∨ ((S0 94 o = 2 ∨ S0 94 o = 3) ∧ w = 0) ∨ (S0 94 o = 4 ∧ i = 0 ∧ w = 1)) : gE o i j n S = S 109 (20 * (S0 78 63 + j - 1) + S0 112 i) + w * eOf (S 111 (20 * (S0 78 63 + j - 1) + S0 112 i)) ∧ gN o i j n S = S 110 (20 * (S0 78 63 + j - 1) + S0 112 i) + w * nOf (S 111 (20 * (S0 78 63 + j - 1) + S0 112 i)) ∧ gF o i j S = S 111 (20 * (S0 78 63 + j - 1) + S0 112 i) := by
  obtain ⟨e1, e2, e3⟩ := GIV_at g
  have ek : S 94 o = S0 94 o := e3 94 o (by decide) (by decide)
  have ea : cA S i j = 20 * (S0 78 63 + j - 1) + S0 112 i := by unfold cA; rw [e1 63 (by decide) (by decide) (by decide), e2]
  unfold gE gN gF
  rw [ek, ea]
  rcases kw with ⟨q, e⟩ | ⟨q, e⟩ | ⟨q, e⟩ | ⟨q, q0, e⟩ <;> rw [e]
  · rw [if_pos q, if_pos q, if_neg (by omega)]
    exact ⟨by omega, by omega, rfl⟩
  · rw [if_neg (by omega), if_pos q, if_neg (by omega), if_pos q, if_neg (by omega)]
    exact ⟨by omega, by omega, rfl⟩
  · rw [if_neg (by omega), if_neg (by omega), if_neg (by omega), if_neg (by omega), if_neg (by omega), if_neg (by omega), if_neg (by omega), if_neg (by omega), if_neg (by omega)]
    exact ⟨by omega, by omega, rfl⟩
  · rw [if_neg (by omega), if_neg (by omega), if_pos q, if_pos q0, if_neg (by omega), if_neg (by omega), if_pos q, if_pos q0, if_neg (by omega)]
    exact ⟨by omega, by omega, rfl⟩
theorem x_stepAhead {K : qM → Prop} (hst : St sh pt) (hc : isC c) (oc : OC S0 o) (e0 : S0 78 67 = 0) (bd : bdR S0 h0) (hn : h0 12 10 = S0 78 63) (h00 : h0 12 0 = 0) (sb : SBc c h0) (cg : ∀ i t, 0 ≤ i → i < S0 78 62 → 0 ≤ t → t ≤ S0 78 63 → CGr c S0 h0 (20 * t + S0 112 i)) (kw : (S0 94 o = 0 ∧ w = 1) ∨ (S0 94 o = 1 ∧ w = -1) ∨ ((S0 94 o = 2 ∨ S0 94 o = 3) ∧ w = 0)) (k : ∀ h, XHv c S0 (S0 95 o + 1) h0 (fo (gJ o (S0 95 o)) 1 (S0 95 o + 1) S0) h → K h) : RunV X (d + 3) mX1_stepAhead [(2, 12), (2, c), (0, S0 95 o), (0, w)] sh pt h0 K := by
  have nb := OC_n oc
  have sz := oc.1.1
  have cc := oc.2.2.1
  have cn : c ≠ 11 ∧ c ≠ 12 ∧ 60 ≤ c := by rcases hc with e | e <;> omega
  refine b_X1_stepAhead hst hc ?_
  refine x_go (S0 := S0) (C3 := fun j h => EvV X (d + 3) mX1_stepAhead 3 [(2, 12), (2, c), (0, S0 95 o), (0, w), (0, j - 1), (8, -1)] [] sh pt h K) (C29 := fun j i h => EvV X (d + 3) mX1_stepAhead 29 [(2, 12), (2, c), (0, S0 95 o), (0, w), (0, j - 1), (0, i)] [] sh pt h K) hc oc e0 hn h00 sb cg ?_ ?_ ?_ k
  · intro j h j0 j1 hb kk ke
    refine b_X1_stepAhead_3 hst hc ⟨fun q => ke (Or.inl (by omega)), fun q => ⟨fun q2 => ke (Or.inr q2), fun q2 => ⟨⟨by omega, by omega⟩, fun h1 d1 => ?_⟩⟩⟩
    rw [d1]
    exact kk (by omega) q2
  · intro j h f j0 j1 kk
    have h5 : h 12 5 = S0 78 62 := (f _ _ (by unfold XGw; omega)).trans bd.1
    rw [show j + 1 - 1 = j - 1 + 1 by omega] at kk
    exact b_X1_stepAhead_29 hst hc ⟨fun _ => ⟨⟨by omega, by omega⟩, kk⟩, fun q => absurd q (by omega)⟩
  · intro j i S h j0 j1 i0 i1 g fv xr kk
    have h5 : h 12 5 = S0 78 62 := (xr.1 _ _ (by unfold XGw; omega)).trans bd.1
    have h13 : h 13 i = S0 112 i := (xr.1 _ _ (by unfold XGw; omega)).trans (bd.2 i i0 i1)
    have mi := oc.1.2 i i0 i1
    obtain ⟨gw1, gw2, gw3⟩ := gEN_w (n := S0 95 o) (i := i) (j := j) oc g (by omega : (S0 94 o = 0 ∧ w = 1) ∨ (S0 94 o = 1 ∧ w = -1) ∨ ((S0 94 o = 2 ∨ S0 94 o = 3) ∧ w = 0) ∨ (S0 94 o = 4 ∧ i = 0 ∧ w = 1))
    refine b_X1_stepAhead_29 hst hc ⟨fun q => absurd q (by omega), fun _ => ⟨⟨by omega, by omega⟩, ?_⟩⟩
    rw [h13]
    refine x_stepOne (S := S) (t := S0 78 63 + j) hst hc xr.2.2.1 (by omega) mi (by omega) (xr.2.2.2.2.1 i (S0 78 63 + j - 1) i0 i1 (by omega) (by omega)) gw1 gw2 (fun og => ⟨⟨by omega, by omega⟩, ?_⟩) (fun og => ⟨⟨by omega, by omega⟩, ?_⟩)
    · rw [← gw3]
      exact kk _ (fun _ => rfl) (fun z => absurd og z)
    · exact kk _ (fun z => absurd z og) (fun _ => rfl)
theorem x_copy {K : qM → Prop} {h : qM} {t m t1 m1 : Int} (hst : St sh pt) (hc : isC c) (t0 : 0 ≤ t ∧ t ≤ 150) (m0 : 0 ≤ m ∧ m < 20) (u0 : 0 ≤ t1 ∧ t1 ≤ 150) (v0 : 0 ≤ m1 ∧ m1 < 20) (k : K (qup h (c + 1) (20 * t1 + m1) (h (c + 1) (20 * t + m)))) : RunV X d mX0_copy [(2, c), (0, t), (0, m), (0, t1), (0, m1)] sh pt h K := by
  refine b_X0_copy hst hc ⟨⟨by omega, by omega⟩, ⟨by omega, by omega⟩, ⟨by omega, by omega⟩, ⟨by omega, by omega⟩, ⟨by omega, by omega⟩, ⟨by omega, by omega⟩, fun h3 d3 => ?_⟩
  rw [show t1 * 20 + m1 = 20 * t1 + m1 by omega, show t * 20 + m = 20 * t + m by omega] at d3
  rw [d3]
  exact k
theorem x_follow {K : qM → Prop} (hst : St sh pt) (hc : isC c) (oc : OC S0 o) (e0 : S0 78 67 = 0) (bd : bdR S0 h0) (hn : h0 12 10 = S0 78 63) (h00 : h0 12 0 = 0) (sb : SBc c h0) (cg : ∀ i t, 0 ≤ i → i < S0 78 62 → 0 ≤ t → t ≤ S0 78 63 → CGr c S0 h0 (20 * t + S0 112 i)) (k4 : S0 94 o = 4) (k : ∀ h, XHv c S0 (S0 95 o + 1) h0 (fo (gJ o (S0 95 o)) 1 (S0 95 o + 1) S0) h → K h) : RunV X (d + 3) mX1_followPivot [(2, 12), (2, c), (0, S0 95 o)] sh pt h0 K := by
  have nb := OC_n oc
  have sz := oc.1.1
  have cc := oc.2.2.1
  have cn : c ≠ 11 ∧ c ≠ 12 ∧ 60 ≤ c := by rcases hc with e | e <;> omega
  refine b_X1_followPivot hst hc ?_
  refine x_go (S0 := S0) (C3 := fun j h => EvV X (d + 3) mX1_followPivot 2 [(2, 12), (2, c), (0, S0 95 o), (0, j - 1), (8, -1)] [] sh pt h K) (C29 := fun j i h => (i = 0 → (h 12 5 ≤ 0 → EvV X (d + 3) mX1_followPivot 46 [(2, 12), (2, c), (0, S0 95 o), (0, j - 1), (0, 1)] [] sh pt h K) ∧ (0 < h 12 5 → RunV X (d + 2) mX1_stepOne [(2, 12), (2, c), (0, h 13 0), (0, 1)] sh pt h (fun h2 => EvV X (d + 3) mX1_followPivot 46 [(2, 12), (2, c), (0, S0 95 o), (0, j - 1), (0, 1)] [] sh pt h2 K))) ∧ (1 ≤ i → EvV X (d + 3) mX1_followPivot 46 [(2, 12), (2, c), (0, S0 95 o), (0, j - 1), (0, i)] [] sh pt h K)) hc oc e0 hn h00 sb cg ?_ ?_ ?_ k
  · intro j h j0 j1 hb kk ke
    refine b_X1_followPivot_2 hst hc ⟨fun q => ke (Or.inl (by omega)), fun q => ⟨fun q2 => ke (Or.inr q2), fun q2 => ⟨⟨by omega, by omega⟩, fun h1 d1 => ?_⟩⟩⟩
    rw [d1]
    exact (kk (by omega) q2).1 rfl
  · intro j h f j0 j1 kk
    have h5 : h 12 5 = S0 78 62 := (f _ _ (by unfold XGw; omega)).trans bd.1
    rw [show j + 1 - 1 = j - 1 + 1 by omega] at kk
    have go : ∀ v, S0 78 62 ≤ v → EvV X (d + 3) mX1_followPivot 46 [(2, 12), (2, c), (0, S0 95 o), (0, j - 1), (0, v)] [] sh pt h K := fun v hv => b_X1_followPivot_46 hst hc ⟨fun _ => ⟨⟨by omega, by omega⟩, kk⟩, fun q => absurd q (by omega)⟩
    exact ⟨fun q => ⟨fun _ => go 1 (by omega), fun z => absurd z (by omega)⟩, fun q => go _ (by omega)⟩
  · intro j i S h j0 j1 i0 i1 g fv xr kk
    have h5 : h 12 5 = S0 78 62 := (xr.1 _ _ (by unfold XGw; omega)).trans bd.1
    have h13 : ∀ i, 0 ≤ i → i < S0 78 62 → h 13 i = S0 112 i := fun i a b => (xr.1 _ _ (by unfold XGw; omega)).trans (bd.2 i a b)
    have mi := oc.1.2 i i0 i1
    have n10 := xr.2.2.1
    refine ⟨fun q => ⟨fun z => absurd z (by omega), fun _ => ?_⟩, fun q => ?_⟩
    · obtain ⟨gw1, gw2, gw3⟩ := gEN_w (w := 1) (n := S0 95 o) (i := i) (j := j) oc g (Or.inr (Or.inr (Or.inr ⟨k4, q, rfl⟩)))
      rw [h13 0 (by decide) (by omega), ← q]
      refine x_stepOne (S := S) (t := S0 78 63 + j) hst hc n10 (by omega) mi (by decide) (xr.2.2.2.2.1 i (S0 78 63 + j - 1) i0 i1 (by omega) (by omega)) gw1 gw2 (fun og => ?_) (fun og => ?_)
      · rw [← gw3]
        have := (kk _ (fun _ => rfl) (fun z => absurd og z)).2 (by omega)
        rw [q] at this
        rw [q]
        exact this
      · have := (kk _ (fun z => absurd z og) (fun _ => rfl)).2 (by omega)
        rw [q] at this
        exact this
    · obtain ⟨e1, e2, e3⟩ := GIV_at g
      have ek : S 94 o = S0 94 o := e3 94 o (by decide) (by decide)
      have mj := oc.1.2 (i - 1) (by omega) (by omega)
      have ea : cA S (i - 1) j = 20 * (S0 78 63 + j - 1) + S0 112 (i - 1) := by unfold cA; rw [e1 63 (by decide) (by decide) (by decide), e2]
      have cr := xr.2.2.2.2.1 (i - 1) (S0 78 63 + j - 1) (by omega) (by omega) (by omega) (by omega)
      have vE : gE o i j (S0 95 o) S = S 109 (20 * (S0 78 63 + j - 1) + S0 112 (i - 1)) := by unfold gE; rw [if_neg (by omega), if_neg (by omega), if_pos (by omega), if_neg (by omega), ea]
      have vN : gN o i j (S0 95 o) S = S 110 (20 * (S0 78 63 + j - 1) + S0 112 (i - 1)) := by unfold gN; rw [if_neg (by omega), if_neg (by omega), if_pos (by omega), if_neg (by omega), ea]
      have vF : gF o i j S = S 111 (20 * (S0 78 63 + j - 1) + S0 112 (i - 1)) := by unfold gF; rw [if_pos (by omega), ea]
      have og : onG (gE o i j (S0 95 o) S) (gN o i j (S0 95 o) S) := by rw [vE, vN]; exact ⟨cr.2.1, cr.2.2.1⟩
      refine b_X1_followPivot_46 hst hc ⟨fun z => absurd z (by omega), fun _ => ⟨⟨by omega, by omega⟩, ⟨by omega, by omega⟩, ⟨by omega, by omega⟩, ⟨by omega, by omega⟩, ?_⟩⟩
      rw [h13 (i - 1) (by omega) (by omega), h13 i i0 i1, n10]
      refine x_copy hst hc (by omega) mj (by omega) mi ⟨⟨by omega, by omega⟩, ?_⟩
      refine (kk _ (fun _ => ?_) (fun z => absurd og z)).2 (by omega)
      rw [vE, vN, vF, cr.1]
end
