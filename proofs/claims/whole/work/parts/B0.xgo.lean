/-! a RUN of the class: one count of one marcher; a loop over counts -/
def SBc (c : Int) (h : qM) : Prop := ∀ x, 0 ≤ x → x < 3020 → 0 ≤ h (c + 1) x ∧ h (c + 1) x < 19200
def CGr (c : Int) (S h : qM) (x : Int) : Prop := h (c + 1) x = 8 * (40 * S 109 x + S 110 x) + S 111 x ∧ gnd S x
def XGw (c : Int) (S : qM) (a i : Int) : Prop := (a = 12 ∧ (i = 0 ∨ i = 10)) ∨ (a = c + 1 ∧ bC S i)
theorem bC_cg {S V : qM} {x : Int} (e : V 78 62 = S 78 62) (f : ∀ i, V 112 i = S 112 i) (q : bC V x) : bC S x := by
  obtain ⟨i, t, a, b, z⟩ := q
  exact ⟨i, t, a, by omega, by rw [← f]; exact z⟩
theorem qst_E {f : Int} (h0 : 0 ≤ f) (h1 : f < 8) : qstE (qiand f 7) = eOf f ∧ qstN (qiand f 7) = nOf f ∧ (0 ≤ qiand f 7 ∧ qiand f 7 < 8) := by
  rw [qiand_7, show f % 8 = f by omega]
  have : f = 0 ∨ f = 1 ∨ f = 2 ∨ f = 3 ∨ f = 4 ∨ f = 5 ∨ f = 6 ∨ f = 7 := by omega
  rcases this with e | e | e | e | e | e | e | e <;> subst e <;> decide
section
variable {X : qX} {d : Nat} {sh : qS} {pt h S : qM} {c t m e n f w : Int}
theorem x_put {K : Int → qM → Prop} (hst : St sh pt) (hc : isC c) (t0 : 0 ≤ t ∧ t ≤ 150) (m0 : 0 ≤ m ∧ m < 20) (f0 : 0 ≤ f ∧ f < 8) (k1 : onG e n → K 1 (qup h (c + 1) (20 * t + m) (8 * (40 * e + n) + f))) (k0 : ¬ onG e n → K 0 h) : RunI X (d + 1) mX0_put [(2, c), (0, t), (0, m), (0, e), (0, n), (0, f)] sh pt h K := by
  have no : ∀ (z : ¬ onG e n), (((0 : Int) = 0 → K 0 h) ∧ (¬ (0 : Int) = 0 → ((t < 0 → K 0 h) ∧ (0 ≤ t → ((t ≤ 150 → (qI (t * 20)) ∧ (qI ((t * 20) + m)) ∧ RunI X d mX2_spot [(0, e), (0, n)] sh pt h (fun r4 h3 => (0 ≤ ((t * 20) + m) ∧ ((t * 20) + m) < 3020) ∧ ∀ h6 : qM, h6 = qup h3 (c + 1) ((t * 20) + m) (qior (qishl r4 3) (qiand f 7)) → K 1 h6)) ∧ (150 < t → K 0 h)))))) := fun z => ⟨fun _ => k0 z, fun y => absurd rfl y⟩
  refine b_X0_put hst hc (b_X2_isSpot hst ⟨fun q => no (fun z => by have := z.1; omega), fun q => ⟨fun q2 => no (fun z => by have := z.1; omega), fun q2 => ⟨fun q3 => no (fun z => by have := z.2; omega), fun q3 => ⟨fun q4 => no (fun z => by have := z.2; omega), fun q4 => ⟨fun z => absurd z (by decide), fun _ => ⟨fun z => absurd z (by omega), fun _ => ⟨fun _ => ⟨⟨by omega, by omega⟩, ⟨by omega, by omega⟩, b_X2_spot hst ⟨⟨by omega, by omega⟩, ⟨by omega, by omega⟩, ⟨⟨by omega, by omega⟩, fun h6 d6 => ?_⟩⟩⟩, fun z => absurd z (by omega)⟩⟩⟩⟩⟩⟩⟩)
  rw [qishl_3 (by omega) (by omega), qiand_7, show f % 8 = f by omega, qior_8 (by omega) (by omega) f0.1 f0.2, show t * 20 + m = 20 * t + m by omega, show e * 40 + n = 40 * e + n by omega] at d6
  rw [d6]
  exact k1 ⟨⟨q, q2⟩, q3, q4⟩
theorem cell_sh {x : Int} (q : x = 8 * (40 * e + n) + f) (b : onG e n) (f0 : 0 ≤ f ∧ f < 8) : qishr x 3 = 40 * e + n ∧ qiand x 7 = f := by
  have b1 := b.1
  have b2 := b.2
  rw [q, qishr_3 ⟨by omega, by omega⟩, qiand_7]
  omega
theorem x_eastR {K : Int → qM → Prop} (hst : St sh pt) (hc : isC c) (t0 : 0 ≤ t ∧ t ≤ 150) (m0 : 0 ≤ m ∧ m < 20) (q : CGr c S h (20 * t + m)) (k : K (S 109 (20 * t + m)) h) : RunI X d mX0_eastOf [(2, c), (0, t), (0, m)] sh pt h K := by
  obtain ⟨q1, g1, g2, g3⟩ := q
  have z := cell_sh q1 ⟨g1, g2⟩ g3
  refine b_X0_eastOf hst hc ⟨⟨by omega, by omega⟩, ⟨by omega, by omega⟩, ⟨by omega, by omega⟩, ?_⟩
  rw [show t * 20 + m = 20 * t + m by omega, z.1]
  refine ⟨by omega, ?_⟩
  rw [show (40 * S 109 (20 * t + m) + S 110 (20 * t + m)) / 40 = S 109 (20 * t + m) by omega]
  exact k
theorem x_northR {K : Int → qM → Prop} (hst : St sh pt) (hc : isC c) (t0 : 0 ≤ t ∧ t ≤ 150) (m0 : 0 ≤ m ∧ m < 20) (q : CGr c S h (20 * t + m)) (k : K (S 110 (20 * t + m)) h) : RunI X d mX0_northOf [(2, c), (0, t), (0, m)] sh pt h K := by
  obtain ⟨q1, g1, g2, g3⟩ := q
  have z := cell_sh q1 ⟨g1, g2⟩ g3
  refine b_X0_northOf hst hc ⟨⟨by omega, by omega⟩, ⟨by omega, by omega⟩, ⟨by omega, by omega⟩, ?_⟩
  rw [show t * 20 + m = 20 * t + m by omega, z.1]
  refine ⟨by omega, ?_⟩
  rw [show (40 * S 109 (20 * t + m) + S 110 (20 * t + m)) % 40 = S 110 (20 * t + m) by omega]
  exact k
theorem x_faceR {K : Int → qM → Prop} (hst : St sh pt) (hc : isC c) (t0 : 0 ≤ t ∧ t ≤ 150) (m0 : 0 ≤ m ∧ m < 20) (q : CGr c S h (20 * t + m)) (k : K (S 111 (20 * t + m)) h) : RunI X d mX0_faceOf [(2, c), (0, t), (0, m)] sh pt h K := by
  obtain ⟨q1, g1, g2, g3⟩ := q
  have z := cell_sh q1 ⟨g1, g2⟩ g3
  refine b_X0_faceOf hst hc ⟨⟨by omega, by omega⟩, ⟨by omega, by omega⟩, ⟨by omega, by omega⟩, ?_⟩
  rw [show t * 20 + m = 20 * t + m by omega, z.2]
  exact k
theorem x_failD {K : qM → Prop} {v : Int} (hst : St sh pt) (k : K (if h 12 0 = 0 then qup h 12 0 v else h)) : RunV X d mX1_fail [(2, 12), (0, v)] sh pt h K := by
  refine b_X1_fail hst ⟨fun q => ?_, fun q h1 d1 => ?_⟩
  · rw [if_neg q] at k; exact k
  · rw [if_pos q] at k; rw [d1]; exact k
theorem x_stepOne {K : qM → Prop} (hst : St sh pt) (hc : isC c) (hn : h 12 10 = t) (t0 : 1 ≤ t ∧ t ≤ 150) (m0 : 0 ≤ m ∧ m < 20) (w0 : -1 ≤ w ∧ w ≤ 1) (q : CGr c S h (20 * (t - 1) + m)) (e1 : e = S 109 (20 * (t - 1) + m) + w * eOf (S 111 (20 * (t - 1) + m))) (n1 : n = S 110 (20 * (t - 1) + m) + w * nOf (S 111 (20 * (t - 1) + m)))
    (k1 : onG e n → K (qup h (c + 1) (20 * t + m) (8 * (40 * e + n) + S 111 (20 * (t - 1) + m)))) (k0 : ¬ onG e n → K (if h 12 0 = 0 then qup h 12 0 4 else h)) : RunV X (d + 2) mX1_stepOne [(2, 12), (2, c), (0, m), (0, w)] sh pt h K := by
  have g := q.2
  unfold gnd at g
  have qs := qst_E (f := S 111 (20 * (t - 1) + m)) g.2.2.1 g.2.2.2
  have be := eOf_bd (f := S 111 (20 * (t - 1) + m))
  have bn := nOf_bd (f := S 111 (20 * (t - 1) + m))
  have m1 := mul_bd (x := w) (y := eOf (S 111 (20 * (t - 1) + m))) (a := 1) (b := 1) (by omega) (by omega) (by omega) (by omega)
  have m2 := mul_bd (x := w) (y := nOf (S 111 (20 * (t - 1) + m))) (a := 1) (b := 1) (by omega) (by omega) (by omega) (by omega)
  refine b_X1_stepOne hst hc ?_
  rw [hn]
  refine ⟨⟨by omega, by omega⟩, x_faceR hst hc (by omega) m0 q ?_⟩
  rw [hn]
  refine ⟨⟨by omega, by omega⟩, x_eastR hst hc (by omega) m0 q (b_X2_eastStep hst ⟨qs.2.2, ?_⟩)⟩
  rw [qs.1, hn]
  refine ⟨⟨by omega, by omega⟩, ⟨by omega, by omega⟩, ⟨by omega, by omega⟩, x_northR hst hc (by omega) m0 q (b_X2_northStep hst ⟨qs.2.2, ?_⟩)⟩
  rw [qs.2.1, hn, ← e1, ← n1]
  refine ⟨⟨by omega, by omega⟩, ⟨by omega, by omega⟩, x_put hst hc (by omega) m0 g.2.2 (fun z => ⟨fun _ => k1 z, fun y => absurd y (by decide)⟩) (fun z => ⟨fun y => absurd rfl y, fun _ => x_failD hst (k0 z)⟩)⟩
end
/-- faces stay, but in a follow -/
def FVv (S0 : qM) (o j i : Int) (S : qM) : Prop := ¬ S0 94 o = 4 → ∀ i' t', 0 ≤ i' → i' < S0 78 62 → 1 ≤ t' → (t' < j ∨ (t' = j ∧ i' < i)) → S 111 (20 * (S0 78 63 + t') + S0 112 i') = S0 111 (20 * S0 78 63 + S0 112 i')
def XRv (c : Int) (S0 : qM) (j i : Int) (h0 S h : qM) : Prop := Fr (XGw c S0) h0 h ∧ SBc c h ∧ h 12 10 = S0 78 63 + j ∧ h 12 0 = S 78 67 ∧ (∀ i' t', 0 ≤ i' → i' < S0 78 62 → 0 ≤ t' → t' < S0 78 63 + j → CGr c S h (20 * t' + S0 112 i')) ∧ (S 78 67 = 0 → ∀ i', 0 ≤ i' → i' < S0 78 62 → i' < i → CGr c S h (20 * (S0 78 63 + j) + S0 112 i'))
def XHv (c : Int) (S0 : qM) (j : Int) (h0 S h : qM) : Prop := Fr (XGw c S0) h0 h ∧ SBc c h ∧ (0 ≤ h 12 10 ∧ h 12 10 ≤ 150) ∧ h 12 0 = S 78 67 ∧ (S 78 67 = 0 → h 12 10 = S0 78 63 + j - 1 ∧ ∀ i' t', 0 ≤ i' → i' < S0 78 62 → 0 ≤ t' → t' < S0 78 63 + j → CGr c S h (20 * t' + S0 112 i'))
section
variable {S0 S h0 h : qM} {c o i j n : Int}
theorem FVv_keep (oc : OC S0 o) (g : GIV S0 o j i S) (i0 : 0 ≤ i) (i1 : i < S0 78 62) (j0 : 1 ≤ j) (q : FVv S0 o j i S) : FVv S0 o j (i + 1) (gI o j n i S) := by
  obtain ⟨e1, e2, e3⟩ := GIV_at g
  have e63 : S 78 63 = S0 78 63 := e1 63 (by decide) (by decide) (by decide)
  have mi := oc.1.2 i i0 i1
  have et : cT S i j = 20 * (S0 78 63 + j) + S0 112 i := by unfold cT; rw [e63, e2]
  intro k4 i' t' a0 a1 t0 tt
  have mi' := oc.1.2 i' a0 a1
  by_cases z : 20 * (S0 78 63 + t') + S0 112 i' = 20 * (S0 78 63 + j) + S0 112 i
  · have tj : t' = j := by omega
    have mm : S0 112 i' = S0 112 i := by omega
    have ea : cA S i j = 20 * (S0 78 63 + (j - 1)) + S0 112 i := by unfold cA; rw [e63, e2]; omega
    rw [z, ← et, gI_at.2.2, gF, if_neg (fun y => k4 (by rw [← e3 94 o (by decide) (by decide)]; exact y.1)), ea, mm]
    by_cases j1 : j = 1
    · rw [j1, show 20 * (S0 78 63 + (1 - 1)) + S0 112 i = 20 * S0 78 63 + S0 112 i by omega]
      exact g.1 _ _ (by unfold PGr; omega)
    · exact q k4 i (j - 1) i0 i1 (by omega) (Or.inl (by omega))
  · rw [gI_of (by omega) (by omega)]
    exact q k4 i' t' a0 a1 t0 (by
        rcases tt with x | ⟨x, y⟩
        · exact Or.inl x
        · by_cases w : i' = i
          · rw [x, w] at z; exact absurd rfl z
          · exact Or.inr ⟨x, by omega⟩)
theorem XRv_keep {h1 : qM} (hc : isC c) (oc : OC S0 o) (g : GIV S0 o j i S) (i0 : 0 ≤ i) (i1 : i < S0 78 62) (j0 : 1 ≤ j) (j1 : j ≤ S0 95 o) (q : XRv c S0 j i h0 S h) (k1 : onG (gE o i j (S0 95 o) S) (gN o i j (S0 95 o) S) → h1 = qup h (c + 1) (20 * (S0 78 63 + j) + S0 112 i) (8 * (40 * gE o i j (S0 95 o) S + gN o i j (S0 95 o) S) + gF o i j S)) (k0 : ¬ onG (gE o i j (S0 95 o) S) (gN o i j (S0 95 o) S) → h1 = if h 12 0 = 0 then qup h 12 0 4 else h) : XRv c S0 j (i + 1) h0 (gI o j (S0 95 o) i S) h1 := by
  obtain ⟨e1, e2, e3⟩ := GIV_at g
  have e63 : S 78 63 = S0 78 63 := e1 63 (by decide) (by decide) (by decide)
  have mi := oc.1.2 i i0 i1
  have cc := oc.2.2.1
  have cn : c ≠ 11 ∧ c ≠ 12 := by rcases hc with e | e <;> omega
  have et : cT S i j = 20 * (S0 78 63 + j) + S0 112 i := by unfold cT; rw [e63, e2]
  have gb := gEN_bd oc g i0 i1 j0 j1
  obtain ⟨q1, q2, q3, q4, q5, q6⟩ := q
  have at3 := gI_at (S := S) (o := o) (j := j) (n := S0 95 o) (m := i)
  have of3 := fun a x (y2 : ¬ x = 20 * (S0 78 63 + j) + S0 112 i) (y : ¬ a = 78) => gI_of (S := S) (o := o) (j := j) (n := S0 95 o) (m := i) (a := a) (x := x) (by omega) (by omega)
  have z0 := gI_0 (S := S) (o := o) (j := j) (n := S0 95 o) (m := i)
  have er := gI_err (S := S) (o := o) (j := j) (n := S0 95 o) (m := i)
  have g4 := g.2.2.2
  rw [et] at at3
  generalize gI o j (S0 95 o) i S = U at *
  have cgS : ∀ x, ¬ x = 20 * (S0 78 63 + j) + S0 112 i → (h1 (c + 1) x = h (c + 1) x) → CGr c S h x → CGr c U h1 x := fun x y y2 ⟨u1, u2⟩ => by
    unfold CGr gnd at *
    rw [y2, of3 109 x y (by decide), of3 110 x y (by decide), of3 111 x y (by decide)]
    exact ⟨u1, u2⟩
  by_cases og : onG (gE o i j (S0 95 o) S) (gN o i j (S0 95 o) S)
  · have eh := k1 og
    have og1 := og.1
    have og2 := og.2
    have hx : ∀ x, ¬ x = 20 * (S0 78 63 + j) + S0 112 i → h1 (c + 1) x = h (c + 1) x := fun x y => by rw [eh, qup_of (by omega)]
    have u7 : U 78 67 = S 78 67 := by
      rcases g4 with y | y
      · rw [(z0 y).1 og, y]
      · exact (er (by omega)).1
    refine ⟨by rw [eh]; exact Fr.up q1 (Or.inr ⟨rfl, i, S0 78 63 + j, i0, i1, rfl⟩), fun x x0 x1 => ?_, by rw [eh, qup_of (by omega)]; exact q3, by rw [eh, qup_of (by omega), u7]; exact q4, fun i' t' a0 a1 t0 t1 => ?_, fun y i' a0 a1 a2 => ?_⟩
    · by_cases w : x = 20 * (S0 78 63 + j) + S0 112 i
      · rw [eh, w, qup_at]; omega
      · rw [hx x w]; exact q2 x x0 x1
    · have mi' := oc.1.2 i' a0 a1
      exact cgS _ (by omega) (hx _ (by omega)) (q5 i' t' a0 a1 t0 t1)
    · by_cases w : 20 * (S0 78 63 + j) + S0 112 i' = 20 * (S0 78 63 + j) + S0 112 i
      · unfold CGr gnd
        rw [w, at3.1, at3.2.1, at3.2.2, eh, qup_at]
        exact ⟨rfl, og.1, og.2, gb.2.2⟩
      · refine cgS _ w (hx _ w) (q6 (by omega) i' a0 a1 ?_)
        by_cases w2 : i' = i
        · rw [w2] at w; exact absurd rfl w
        · omega
  · have eh := k0 og
    have hx : ∀ x, h1 (c + 1) x = h (c + 1) x := fun x => by
      rw [eh]
      split
      · rw [qup_of (by omega)]
      · rfl
    have u7 : U 78 67 = 4 := by
      rcases g4 with y | y
      · exact ((z0 y).2 og).1
      · rw [(er (by omega)).1]; exact y.1
    have h7 : h1 12 0 = 4 := by
      rw [eh]
      split
      · exact qup_at
      · omega
    refine ⟨?_, fun x x0 x1 => by rw [hx]; exact q2 x x0 x1, ?_, by omega, fun i' t' a0 a1 t0 t1 => ?_, fun y => by omega⟩
    · rw [eh]
      split
      · exact Fr.up q1 (Or.inl ⟨rfl, Or.inl rfl⟩)
      · exact q1
    · rw [eh]
      split
      · rw [qup_of (by omega)]; exact q3
      · exact q3
    · have mi' := oc.1.2 i' a0 a1
      exact cgS _ (by omega) (hx _) (q5 i' t' a0 a1 t0 t1)
theorem x_go {K : qM → Prop} {C3 : Int → qM → Prop} {C29 : Int → Int → qM → Prop} (hc : isC c) (oc : OC S0 o) (e0 : S0 78 67 = 0) (hn : h0 12 10 = S0 78 63) (h00 : h0 12 0 = 0) (sb : SBc c h0) (cg : ∀ i t, 0 ≤ i → i < S0 78 62 → 0 ≤ t → t ≤ S0 78 63 → CGr c S0 h0 (20 * t + S0 112 i))
    (s3 : ∀ j h, 1 ≤ j → j ≤ S0 95 o + 1 → (0 ≤ h 12 10 ∧ h 12 10 ≤ 150) → (j ≤ S0 95 o → h 12 0 = 0 → C29 j 0 (qup h 12 10 (h 12 10 + 1))) → ((S0 95 o < j ∨ ¬ h 12 0 = 0) → K h) → C3 j h)
    (s29e : ∀ j h, Fr (XGw c S0) h0 h → 1 ≤ j → j ≤ S0 95 o → C3 (j + 1) h → C29 j (S0 78 62) h)
    (s29 : ∀ j i S h, 1 ≤ j → j ≤ S0 95 o → 0 ≤ i → i < S0 78 62 → GIV S0 o j i S → FVv S0 o j i S → XRv c S0 j i h0 S h → (∀ h1, (onG (gE o i j (S0 95 o) S) (gN o i j (S0 95 o) S) → h1 = qup h (c + 1) (20 * (S0 78 63 + j) + S0 112 i) (8 * (40 * gE o i j (S0 95 o) S + gN o i j (S0 95 o) S) + gF o i j S)) → (¬ onG (gE o i j (S0 95 o) S) (gN o i j (S0 95 o) S) → h1 = if h 12 0 = 0 then qup h 12 0 4 else h) → C29 j (i + 1) h1) → C29 j i h)
    (k : ∀ h, XHv c S0 (S0 95 o + 1) h0 (fo (gJ o (S0 95 o)) 1 (S0 95 o + 1) S0) h → K h) : C3 1 h0 := by
  have nb := OC_n oc
  have sz := oc.1.1
  have cc := oc.2.2.1
  have cn : c ≠ 11 ∧ c ≠ 12 := by rcases hc with e | e <;> omega
  have xh0 : XHv c S0 1 h0 S0 h0 := ⟨Fr.rf, sb, ⟨by omega, by omega⟩, by rw [h00, e0], fun _ => ⟨by omega, fun i' t' a0 a1 t0 t1 => cg i' t' a0 a1 t0 (by omega)⟩⟩
  refine lp (σ := qM × qM) (i := 1) (n := S0 95 o + 1) (J := fun j s => GIV S0 o j 0 s.1 ∧ FVv S0 o j 0 s.1 ∧ XHv c S0 j h0 s.1 s.2 ∧ fo (gJ o (S0 95 o)) j (S0 95 o + 1) s.1 = fo (gJ o (S0 95 o)) 1 (S0 95 o + 1) S0) (C := fun j s => C3 j s.2) (by omega) ?_ ?_ (S0, h0) ⟨GIV_start e0, fun _ i' t' _ _ _ _ => by omega, xh0, rfl⟩
  · intro j ⟨S, h⟩ j0 j1 ⟨g, fv, ⟨x1, x2, x3, x4, x5⟩, es⟩ ih
    dsimp only at g fv x1 x2 x3 x4 x5 es ih ⊢
    have e62 : S 78 62 = S0 78 62 := (GIV_at g).1 62 (by decide) (by decide) (by decide)
    refine s3 j h j0 (by omega) x3 (fun _ q => ?_) (fun q => ?_)
    · have s0 : S 78 67 = 0 := by omega
      have y := x5 s0
      have xr : XRv c S0 j 0 h0 S (qup h 12 10 (h 12 10 + 1)) := by
        refine ⟨Fr.up x1 (Or.inl ⟨rfl, Or.inr rfl⟩), fun x a b => by rw [qup_of (by omega)]; exact x2 x a b, by rw [qup_at]; omega, by rw [qup_of (by decide)]; exact x4, fun i' t' a0 a1 t0 t1 => ?_, fun _ i' _ _ _ => by omega⟩
        have z := y.2 i' t' a0 a1 t0 t1
        unfold CGr at z ⊢
        rw [qup_of (by omega)]
        exact z
      refine lp (σ := qM × qM) (i := 0) (n := S0 78 62) (J := fun i s => GIV S0 o j i s.1 ∧ FVv S0 o j i s.1 ∧ XRv c S0 j i h0 s.1 s.2 ∧ fo (gI o j (S0 95 o)) i (S0 78 62) s.1 = fo (gI o j (S0 95 o)) 0 (S0 78 62) S) (C := fun i s => C29 j i s.2) sz.1 ?_ ?_ (S, qup h 12 10 (h 12 10 + 1)) ⟨g, fv, xr, rfl⟩
      · intro i ⟨U, u⟩ i0 i1 ⟨gU, fU, xU, eU⟩ ih2
        dsimp only at gU fU xU eU ih2 ⊢
        refine s29 j i U u j0 (by omega) i0 i1 gU fU xU (fun h1 k1 k0 => ?_)
        exact ih2 (gI o j (S0 95 o) i U, h1) ⟨gI_keep oc gU i0 i1 j0 (by omega), FVv_keep oc gU i0 i1 j0 fU, XRv_keep hc oc gU i0 i1 j0 (by omega) xU k1 k0, by rw [← eU, fo_step (n := S0 78 62) i1]⟩
      · intro ⟨U, u⟩ ⟨gU, fU, xU, eU⟩
        dsimp only at gU fU xU eU ⊢
        rw [fo_end (by omega)] at eU
        refine s29e j u xU.1 j0 (by omega) ?_
        have ft : ∀ a x, ¬ (a = 78 ∧ x = 65) → ftS o U a x = U a x := fun a x q => by unfold ftS; rw [qup_of q]
        have ek : fo (gJ o (S0 95 o)) (j + 1) (S0 95 o + 1) (ftS o U) = fo (gJ o (S0 95 o)) 1 (S0 95 o + 1) S0 := by
          rw [← es, fo_step (n := S0 95 o + 1) j1, eU]
          unfold gJ
          rw [e62]
        have gk := GIV_next (ftS_keep gU)
        have xk : XHv c S0 (j + 1) h0 (ftS o U) u := by
          refine ⟨xU.1, xU.2.1, by have := xU.2.2.1; omega, by rw [ft 78 67 (by decide)]; exact xU.2.2.2.1, fun z => ⟨by have := xU.2.2.1; omega, fun i' t' a0 a1 t0 t1 => ?_⟩⟩
          rw [ft 78 67 (by decide)] at z
          have key : CGr c U u (20 * t' + S0 112 i') := by
            by_cases w : t' = S0 78 63 + j
            · rw [w]; exact xU.2.2.2.2.2 z i' a0 a1 a1
            · exact xU.2.2.2.2.1 i' t' a0 a1 t0 (by omega)
          unfold CGr gnd at key ⊢
          rw [ft 109 _ (by omega), ft 110 _ (by omega), ft 111 _ (by omega)]
          exact key
        refine ih (ftS o U, u) ⟨gk, fun k4 i' t' a0 a1 t0 tt => ?_, xk, ek⟩
        · dsimp only
          rw [ft 111 _ (by omega)]
          exact fU k4 i' t' a0 a1 t0 (by omega)
    · rcases q with q | q
      · omega
      · have g4 := g.2.2.2
        have ge := gJs_err (S := S) (o := o) (n := S0 95 o) (m := j) (u := S0 95 o + 1) (w := S 78 67) (p := S 78 68) (by omega) ⟨rfl, rfl⟩ (by omega) (by omega)
        rw [es] at ge
        exact k h ⟨x1, x2, x3, by rw [ge.1]; exact x4, fun z => by omega⟩
  · intro ⟨S, h⟩ ⟨g, fv, xh, es⟩
    dsimp only at g fv xh es ⊢
    rw [fo_end (by omega)] at es
    subst es
    exact s3 _ h (by omega) (by omega) xh.2.2.1 (fun z => by omega) (fun _ => k h xh)
end
