/-! doOrder of the class -/
section
variable {X : qX} {d : Nat} {sh : qS} {pt S0 S h : qM} {W c o t : Int}
theorem XHv_w {S0 h0 V h1 : qM} {j : Int} (x : XHv c S0 j h0 V h1) : Fr (XOw c S0) h0 h1 := Fr.wk x.1 (fun a y q => by
  rcases q with q | q
  · unfold XOw; omega
  · exact Or.inr (Or.inr (Or.inr (Or.inr q))))
theorem x_doOrder {K : qM → Prop} (hst : St sh pt) (ht : isT t) (hc : isC c) (k : SK W S0 S) (w0 : W ≤ 5000) (ok : oK S0 o) (tx : TXr t S h o) (xo : XOr c S h) (e0 : S 78 67 = 0) (c150 : S 78 63 + h (t + 5) o ≤ 150) (k10 : ¬ S 94 o = 10) (kk : ∀ h1, Fr (XOw c S) h h1 → XOr c (cif (S 94 o = 5) (tuF (S 95 o) S) (goF o S)) h1 → K h1) : RunV X (d + 4) mX1_doOrder [(2, 12), (2, t), (2, c), (0, o)] sh pt h K := by
  have cn : c ≠ 11 ∧ c ≠ 12 ∧ 60 ≤ c ∧ c ≤ 70 := by rcases hc with e | e <;> omega
  have tn : 40 ≤ t ∧ t ≤ 53 := by rcases ht with e | e <;> omega
  obtain ⟨x1, x2, x3, x4, x5⟩ := tx
  obtain ⟨okS, y4, y5, y6, y7, y9, y10⟩ := x4.2 |> fun _ => (⟨x4, x5⟩ : _ ∧ _)
  obtain ⟨bd, sb, h00, hb, xx⟩ := xo
  obtain ⟨hn, fb, ft, wr, cg⟩ := xx e0
  rw [e0] at h00
  have o0 := okS.1
  have oks := okS.2
  have bb := k.1.1
  have c63 := k.1.2.1
  have d3 := k.1.2.2.1
  have w4 := k.1.2.2.2.1
  unfold oKs at oks
  have tt1 : t + 1 ≠ c ∧ t + 1 ≠ c + 1 := by rcases ht with e | e <;> rcases hc with e2 | e2 <;> omega
  -- an order of counts
  have cnt : ¬ S 94 o = 5 → ¬ (S 94 o = 8 ∧ ¬ whl S (S 96 o)) → h (t + 5) o = S 95 o → ∃ V, V = fo (gJ o (S 95 o)) 1 (S 95 o + 1) S ∧ OC S o ∧ (V 78 67 = 0 ∨ V 78 67 = 4) ∧ (∀ i t', 0 ≤ i → i < S 78 62 → t' = S 78 63 + S 95 o → 0 ≤ V 111 (20 * t' + S 112 i) ∧ V 111 (20 * t' + S 112 i) < 8) ∧ (V 78 62 = S 78 62 ∧ ∀ i, V 112 i = S 112 i) ∧ ∀ R hf, gGo o S = qup R 78 63 (S 78 63 + S 95 o) → (∀ a x, ¬ a = 111 → R a x = V a x) → Fr (XOw c S) h hf → SBc c hf → hf 12 0 = V 78 67 → (0 ≤ hf 12 10 ∧ hf 12 10 ≤ 150) → (V 78 67 = 0 → hf 12 10 = S 78 63 + S 95 o ∧ ∀ i t', 0 ≤ i → i < S 78 62 → 0 ≤ t' → t' ≤ S 78 63 + S 95 o → CGr c R hf (20 * t' + S 112 i)) → hf 12 12 = h 12 12 → hf c 6 = h c 6 → EvV X (d + 4) mX1_doOrder 245 [(2, 12), (2, t), (8, -1), (0, o), (0, S 95 o), (8, -1)] [] sh pt hf K := by
    intro k5 n8 e5
    have oc := OC_of k ok e0 (by omega) k5 k10
    have nb := OC_n oc
    have g := gJs_keep oc e0
    have f65 := gJs_ft (S := S) (o := o) (n := S 95 o) (m := S 95 o) (x := h 12 12) (by omega) fb.1 ft bb.1.1
    refine ⟨_, rfl, oc, ?_⟩
    generalize fo (gJ o (S 95 o)) 1 (S 95 o + 1) S = V at *
    obtain ⟨v78, v112, vr⟩ := GIV_at g
    have v62 := v78 62 (by decide) (by decide) (by decide)
    have v66 := v78 66 (by decide) (by decide) (by decide)
    refine ⟨by have := g.2.2.2; omega, fun i t' a b e => ?_, ⟨v62, v112⟩, fun R hf eg rv fr s1 z0 zb zc z12 z6 => ?_⟩
    · rw [e]
      exact (g.2.1 i (S 95 o) a b (by omega) (Or.inl (by omega))).2.2
    have eF : cif (S 94 o = 5) (tuF (S 95 o) S) (goF o S) = gGo o S := by
      rw [cif_f k5, goF, cif_f (by omega), cif_f n8]
    rw [eF] at kk
    have gG : ∀ a x, ¬ (a = 78 ∧ x = 63) → ¬ a = 111 → gGo o S a x = V a x := fun a x q q2 => by rw [eg, qup_of q, rv a x q2]
    have g63 : gGo o S 78 63 = S 78 63 + S 95 o := by rw [eg, qup_at]
    have hk : hf (t + 1) o = S 94 o := by rw [fr (t + 1) o (by unfold XOw; omega)]; exact x1
    have fin : ∀ fv, fv = (if S 94 o = 3 then 0 else h 12 12 + S 95 o) → K (qup hf 12 12 fv) := by
      intro fv efv
      have fvb : 0 ≤ fv ∧ fv ≤ h 12 12 + S 95 o := by rw [efv]; split <;> omega
      have fvf : V 78 65 = ftn fv := by
        rw [f65, efv]
        by_cases q : S 94 o = 3
        · rw [if_pos q, if_pos q, if_neg (by omega)]; rfl
        · rw [if_neg q, if_neg q]
      refine kk _ (Fr.up fr (by unfold XOw; omega)) ⟨⟨?_, fun i a b => ?_⟩, fun x a b => by rw [qup_of (by omega)]; exact s1 x a b, ?_, by rw [qup_of (by omega)]; exact zb, fun z => ?_⟩
      · rw [qup_of (by omega), fr 12 5 (by unfold XOw; omega), gG 78 62 (by omega) (by omega), v62]
        exact bd.1
      · rw [gG 78 62 (by omega) (by omega), v62] at b
        rw [qup_of (by omega), fr 13 i (by unfold XOw; omega), gG 112 i (by omega) (by omega), v112]
        exact bd.2 i a b
      · rw [qup_of (by omega), gG 78 67 (by omega) (by omega)]
        exact z0
      · rw [gG 78 67 (by omega) (by omega)] at z
        have zz := zc z
        refine ⟨by rw [qup_of (by omega), g63]; exact zz.1, by rw [qup_at, qup_of (by omega)]; omega, by rw [gG 78 65 (by omega) (by omega), qup_at]; exact fvf, by rw [qup_of (by omega), z6, gG 78 66 (by omega) (by omega), v66]; exact wr, fun i t' a b a2 b2 => ?_⟩
        rw [gG 78 62 (by omega) (by omega), v62] at b
        rw [g63] at b2
        have y := zz.2 i t' a b a2 b2
        rw [gG 112 i (by omega) (by omega), v112]
        unfold CGr gnd at y ⊢
        rw [qup_of (by omega), eg, qup_of (by omega), qup_of (by omega), qup_of (by omega)]
        exact y
    refine b_X1_doOrder_245 hst ht ?_
    rw [hk, z12]
    refine ⟨o0, fun q => ⟨⟨by omega, by omega⟩, fun h2 d2 => ?_⟩, fun q h3 d3 => ?_⟩
    · rw [d2]; exact fin _ (by rw [if_neg q])
    · rw [d3]; exact fin _ (by rw [if_pos q])
  have step : ∀ (hk : ¬ S 94 o = 5) (n8 : ¬ (S 94 o = 8 ∧ ¬ whl S (S 96 o))) (h6 : ¬ S 94 o = 6) (e5 : h (t + 5) o = S 95 o) h0 hf, Fr (fun a _ => a = 14 ∨ a = 15) h h0 → XHv c S (S 95 o + 1) h0 (fo (gJ o (S 95 o)) 1 (S 95 o + 1) S) hf → EvV X (d + 4) mX1_doOrder 245 [(2, 12), (2, t), (8, -1), (0, o), (0, S 95 o), (8, -1)] [] sh pt hf K := by
    intro k5 n8 h6 e5 h0 hf f0 xh
    obtain ⟨V, eV, oc, _, _, _, fin⟩ := cnt k5 n8 e5
    have xw := XHv_w xh
    have x1 := xh.1
    obtain ⟨_, xs, xb, xe, xc⟩ := xh
    rw [← eV] at xe xc
    refine fin V hf ?_ (fun _ _ _ => rfl) (Fr.tr (Fr.wk f0 (fun a y q => by unfold XOw; omega)) xw) xs xe xb (fun z => ⟨by have := (xc z).1; omega, fun i t' a b a2 b2 => (xc z).2 i t' a b a2 (by omega)⟩) ?_ ?_
    · rw [gGo, cif_f h6, ← eV]
    · rw [x1 12 12 (by unfold XGw; omega), f0 12 12 (by omega)]
    · rw [x1 c 6 (by unfold XGw; omega), f0 c 6 (by omega)]
  have lk : LKb c S h := ⟨bd, bb, c63, hn, fun i a b => cg i (S 78 63) a b (by omega) (by omega)⟩
  have lk2 : ∀ h0, Fr (fun a _ => a = 14 ∨ a = 15) h h0 → bdR S h0 ∧ h0 12 10 = S 78 63 ∧ h0 12 0 = 0 ∧ SBc c h0 ∧ ∀ i t, 0 ≤ i → i < S 78 62 → 0 ≤ t → t ≤ S 78 63 → CGr c S h0 (20 * t + S 112 i) := by
    intro h0 f
    refine ⟨⟨by rw [f 12 5 (by omega)]; exact bd.1, fun i a b => by rw [f 13 i (by omega)]; exact bd.2 i a b⟩, by rw [f 12 10 (by omega)]; exact hn, by rw [f 12 0 (by omega)]; exact h00, fun x a b => by rw [f (c + 1) x (by omega)]; exact sb x a b, fun i t a b a2 b2 => ?_⟩
    have z := cg i t a b a2 b2
    unfold CGr at z ⊢
    rw [f (c + 1) _ (by omega)]
    exact z
  refine b_X1_doOrder hst ht hc ⟨o0, o0, o0, ?_⟩
  rw [x1]
  refine ⟨fun q => ?_, fun q => ?_, fun q => ?_, fun q => ?_, fun q => ?_, fun q => ?_, fun q => ?_, fun q => ?_, fun q => ?_, fun q => ?_, fun q => ?_, fun q => ?_⟩
  · rw [y4 (by omega)] at c150 ⊢
    have oc := OC_of k ok e0 c150 (by omega) k10
    exact x_stepAhead hst hc oc e0 bd hn h00 sb cg (by omega) (fun hf xh => step (by omega) (by omega) (by omega) (y4 (by omega)) h hf Fr.rf xh)
  · rw [y4 (by omega)] at c150 ⊢
    have oc := OC_of k ok e0 c150 (by omega) k10
    exact x_stepAhead hst hc oc e0 bd hn h00 sb cg (by omega) (fun hf xh => step (by omega) (by omega) (by omega) (y4 (by omega)) h hf Fr.rf xh)
  · rw [y4 (by omega)] at c150 ⊢
    have oc := OC_of k ok e0 c150 (by omega) k10
    exact x_stepAhead hst hc oc e0 bd hn h00 sb cg (by omega) (fun hf xh => step (by omega) (by omega) (by omega) (y4 (by omega)) h hf Fr.rf xh)
  · rw [y4 (by omega)] at c150 ⊢
    have oc := OC_of k ok e0 c150 (by omega) k10
    exact x_stepAhead hst hc oc e0 bd hn h00 sb cg (by omega) (fun hf xh => step (by omega) (by omega) (by omega) (y4 (by omega)) h hf Fr.rf xh)
  · rw [y4 (by omega)] at c150 ⊢
    have oc := OC_of k ok e0 c150 (by omega) k10
    exact x_follow hst hc oc e0 bd hn h00 sb cg q (fun hf xh => step (by omega) (by omega) (by omega) (y4 (by omega)) h hf Fr.rf xh)
  · -- turn
    have q5 := y5 q
    have n7 := oks.2.2.1 q
    rw [cif_t q] at kk
    rw [q5.1, q5.2]
    unfold tuF at kk
    have wv : 0 ≤ (if well (S 78 65) (S 95 o) then (0 : Int) else 1) ∧ (if well (S 78 65) (S 95 o) then (0 : Int) else 1) ≤ 1 := by split <;> omega
    rw [ft] at kk wv
    generalize ew : (if well (ftn (h 12 12)) (S 95 o) then (0 : Int) else 1) = wv1 at kk wv
    have ue : ∀ a x, ¬ (a = 78 ∧ x = 66) → qup S 78 66 (S 78 66 + wv1) a x = S a x := fun a x q => qup_of q
    have u66 : qup S 78 66 (S 78 66 + wv1) 78 66 = S 78 66 + wv1 := qup_at
    generalize qup S 78 66 (S 78 66 + wv1) = U at *
    have u62 := ue 78 62 (by decide)
    have u112 := fun i => ue 112 i (by omega)
    rw [← u62] at kk
    refine RunV.deep (d1 := d + 1) (by omega) (x_turnBody (P := True) (S1 := U) (t := S 78 63) (v1 := S 95 o) hst hc ⟨by rw [u62]; exact bb.1, fun i a b => by rw [u112]; exact bb.2 i a (by omega)⟩ ⟨by rw [u62]; exact bd.1, fun i a b => by rw [u112]; exact bd.2 i a (by omega)⟩ hn c63 (by omega) (by omega) sb (fun _ i' t' a b a2 b2 => ?_) (fun h1 f1 s1 g1 => ?_))
    · rw [u62] at b
      have z := cg i' t' a b a2 b2
      rw [u112]
      unfold CGr gnd at z ⊢
      rw [ue 109 _ (by omega), ue 110 _ (by omega), ue 111 _ (by omega)]
      exact z
    · have h12 : h1 12 12 = h 12 12 := f1 _ _ (by omega)
      have hc6 : h1 c 6 = h c 6 := f1 _ _ (by omega)
      refine RunV.deep (d1 := 0) (by omega) (x_judgeTurn (x := 0) hst hc (by omega) n7 (by omega) ?_)
      rw [h12, ew, hc6]
      refine b_X1_doOrder_245 hst ht ⟨o0, fun z => ⟨?_, fun h2 d2 => ?_⟩, fun z => ?_⟩
      · rw [qup_of (by omega), h12]
        exact ⟨by omega, by omega⟩
      · rw [qup_of (by omega), h12, show h 12 12 + 0 = h 12 12 by omega] at d2
        have tv : ∀ a x, ¬ a = 111 → fo (tnI (S 95 o) (S 78 63)) 0 (U 78 62) U a x = U a x := by
          have tv0 : TIV U (S 78 63) U := ⟨Fr.rf, fun i a b => by
            rw [u62] at b
            have y := (cg i (S 78 63) a b (by omega) (by omega)).2
            unfold gnd at y
            rw [u112, ue 111 _ (by omega)]
            exact y.2.2⟩
          have := tnIs_keep (v := S 95 o) (by rw [u62]; exact bb.1.1) tv0
          exact fun a x q => this.1 a x (fun z => q z.1)
        generalize fo (tnI (S 95 o) (S 78 63)) 0 (U 78 62) U = R at *
        have r62 : R 78 62 = S 78 62 := by rw [tv 78 62 (by omega), u62]
        have r63 : R 78 63 = S 78 63 := by rw [tv 78 63 (by omega), ue 78 63 (by decide)]
        have r112 : ∀ i, R 112 i = S 112 i := fun i => by rw [tv 112 i (by omega), u112]
        have r67 : R 78 67 = 0 := by rw [tv 78 67 (by omega), ue 78 67 (by decide)]; exact e0
        have h2e : ∀ a x, ¬ (a = 12 ∧ x = 12) → ¬ (a = c ∧ x = 6) → ¬ (a = c + 1 ∧ bC U x) → h2 a x = h a x := fun a x q q2 q3 => by rw [d2, qup_of q, qup_of q2, f1 a x q3]
        have h2c : ∀ x, h2 (c + 1) x = h1 (c + 1) x := fun x => by rw [d2, qup_of (by omega), qup_of (by omega)]
        refine kk h2 ?_ ⟨⟨?_, fun i a b => ?_⟩, fun x a b => by rw [h2c]; exact s1 x a b, ?_, ?_, fun _ => ⟨?_, ?_, ?_, ?_, fun i t' a b a2 b2 => ?_⟩⟩
        · intro a x q
          exact h2e a x (fun y => q (Or.inl ⟨y.1, by omega⟩)) (fun y => q (Or.inr (Or.inr (Or.inr (Or.inl y))))) (fun y => q (Or.inr (Or.inr (Or.inr (Or.inr ⟨y.1, bC_cg u62 u112 y.2⟩)))))
        · rw [h2e 12 5 (by omega) (by omega) (by omega), r62]; exact bd.1
        · rw [r62] at b
          rw [h2e 13 i (by omega) (by omega) (by omega), r112]
          exact bd.2 i a b
        · rw [h2e 12 0 (by omega) (by omega) (by omega), r67]; exact h00
        · rw [h2e 12 10 (by omega) (by omega) (by omega)]; exact hb
        · rw [h2e 12 10 (by omega) (by omega) (by omega), r63]; exact hn
        · rw [h2e 12 10 (by omega) (by omega) (by omega), d2, qup_at]; exact fb
        · rw [tv 78 65 (by omega), ue 78 65 (by decide), d2, qup_at]; exact ft
        · rw [tv 78 66 (by omega), u66, d2, qup_of (by omega), qup_at, wr]
        · rw [r62, ← u62] at b
          rw [r63] at b2
          have z := g1 trivial i t' a b a2 b2
          rw [r112, ← u112]
          unfold CGr at z ⊢
          rw [h2c]
          exact z
      · rw [qup_of (by omega), f1 (t + 1) o (by omega), x1] at z
        omega
  · -- wheel
    have q6 := y6 q
    rw [q6.1] at c150 ⊢
    have oc := OC_of k ok e0 c150 (by omega) k10
    have b6 := (oks.2.2.2.1 q).1
    obtain ⟨V, eV, _, v4, vf, vb, fin⟩ := cnt (by omega) (by omega) q6.1
    have body : ∀ u0 : Int, u0 = -(S 96 o) → ((h (t + 3) o = 0 ∧ S 96 o = -1) ∨ (¬ h (t + 3) o = 0 ∧ S 96 o = 1)) → EvV X (d + 4) mX1_doOrder 141 [(2, 12), (2, t), (2, c), (0, o), (0, S 95 o), (0, h (t + 3) o)] [(0, u0), (2, c), (2, 12)] sh pt h K := by
      intro u0 eu sd
      refine b_X1_doOrder_141 hst ht hc (RunV.deep (d1 := d + 2) (by omega) (x_aimWheel hst hc lk q b6 eu (fun h1 f1 am => ?_)))
      obtain ⟨l1, l2, l3, l4, l5⟩ := lk2 h1 f1
      refine RunV.deep (d1 := d + 2) (by omega) (x_slide hst hc oc e0 l1 l2 l3 l4 l5 (by omega) am (fun h2 xh => ?_))
      rw [← eV] at xh
      have xw := XHv_w xh
      have x1' := xh.1
      obtain ⟨_, xs, xb, xe, xc⟩ := xh
      have f2 : Fr (XOw c S) h h2 := Fr.tr (Fr.wk f1 (fun a y q => by unfold XOw; omega)) xw
      have tb : ∀ v : Int, (v = 2 ∨ v = -2) → (8 + 2 * S 96 o - v) % 8 = 0 → RunV X (d + 3) mX1_turnBody [(2, 12), (2, c), (0, v)] sh pt h2 (fun h3 => EvV X (d + 4) mX1_doOrder 245 [(2, 12), (2, t), (8, -1), (0, o), (0, S 95 o), (8, -1)] [] sh pt h3 K) := by
        intro v v2 vm
        refine RunV.deep (d1 := d + 1) (by omega) (x_turnBody (P := V 78 67 = 0) (S1 := V) (t := h2 12 10) (v1 := 8 + 2 * S 96 o) hst hc ⟨by rw [vb.1]; exact bb.1, fun i a b => by rw [vb.2]; exact bb.2 i a (by omega)⟩ ⟨?_, fun i a b => ?_⟩ rfl xb (by omega) vm xs (fun z i' t' a b a2 b2 => ?_) (fun h3 f3 s3 g3 => ?_))
        · rw [f2 12 5 (by unfold XOw; omega), vb.1]; exact bd.1
        · rw [vb.1] at b
          rw [f2 13 i (by unfold XOw; omega), vb.2]; exact bd.2 i a b
        · rw [vb.1] at b
          rw [vb.2]
          have zz := xc z
          exact zz.2 i' t' a b a2 (by omega)
        · have tz : V 78 67 = 0 → h2 12 10 = S 78 63 + S 95 o := fun z => by have := (xc z).1; omega
          have tk : ∀ a x, ¬ a = 111 → fo (tnI (8 + 2 * S 96 o) (S 78 63 + S 95 o)) 0 (S 78 62) V a x = V a x := by
            have tv0 : TIV V (S 78 63 + S 95 o) V := ⟨Fr.rf, fun i a b => by
              rw [vb.1] at b
              rw [vb.2]
              exact vf i _ a b rfl⟩
            have := tnIs_keep (v := 8 + 2 * S 96 o) (by rw [vb.1]; exact bb.1.1) tv0
            rw [vb.1] at this
            exact fun a x q => this.1 a x (fun z => q z.1)
          refine fin (fo (tnI (8 + 2 * S 96 o) (S 78 63 + S 95 o)) 0 (S 78 62) V) h3 ?_ tk (Fr.tr f2 (Fr.wk f3 (fun a y q => Or.inr (Or.inr (Or.inr (Or.inr ⟨q.1, bC_cg vb.1 vb.2 q.2⟩)))))) s3 ?_ ?_ (fun z => ⟨?_, fun i t' a b a2 b2 => ?_⟩) ?_ ?_
          · rw [gGo, cif_t q, ← eV]
          · rw [f3 12 0 (by omega)]; exact xe
          · rw [f3 12 10 (by omega)]; exact xb
          · rw [f3 12 10 (by omega)]; exact tz z
          · have y := g3 z i t' a (by rw [vb.1]; exact b) a2 (by rw [tz z]; exact b2)
            rw [tz z, vb.1, vb.2] at y
            exact y
          · rw [f3 12 12 (by omega), x1' 12 12 (by unfold XGw; omega), f1 12 12 (by omega)]
          · rw [f3 c 6 (by omega), x1' c 6 (by unfold XGw; omega), f1 c 6 (by omega)]
      exact ⟨fun z => tb 2 (Or.inl rfl) (by omega), fun z => tb (-2) (Or.inr rfl) (by omega)⟩
    exact ⟨fun z => body (-1) (by omega) (by omega), fun z => body 1 (by omega) (by omega)⟩
  · have q7 := y7 (Or.inl q)
    have c151 := c150
    rw [q7.1] at c151
    rw [q7.1, q7.2]
    have oc := OC_of k ok e0 c151 (by omega) k10
    refine RunV.deep (d1 := d + 2) (by omega) (x_aimOpen hst hc lk q (oks.2.2.2.2.1 (Or.inl q)).1 (fun h1 f1 am => ?_))
    obtain ⟨l1, l2, l3, l4, l5⟩ := lk2 h1 f1
    exact RunV.deep (d1 := d + 2) (by omega) (x_slide hst hc oc e0 l1 l2 l3 l4 l5 (by omega) am (fun h2 xh => step (by omega) (by omega) (by omega) (y7 (Or.inl q)).1 h1 h2 f1 xh))
  · have q7 := y7 (Or.inr q)
    have c151 := c150
    rw [q7.1] at c151
    rw [q7.1, q7.2]
    have oc := OC_of k ok e0 c151 (by omega) k10
    have nb := OC_n oc
    refine RunV.deep (d1 := d + 2) (by omega) (x_aimClose hst hc lk h00 q (oks.2.2.2.2.1 (Or.inr q)).1 (fun wh h1 f1 am => ?_) (fun nw h1 f1 e3 => ?_))
    · obtain ⟨l1, l2, l3, l4, l5⟩ := lk2 h1 f1
      exact RunV.deep (d1 := d + 2) (by omega) (x_slide hst hc oc e0 l1 l2 l3 l4 l5 (by omega) am (fun h2 xh => step (by omega) (fun z => z.2 wh) (by omega) (y7 (Or.inr q)).1 h1 h2 f1 xh))
    · -- not whole: an error
      have eF : cif (S 94 o = 5) (tuF (S 95 o) S) (goF o S) = fl 3 o S := by
        rw [cif_f (fun z => by rw [q] at z; exact absurd z (by decide)), goF, cif_f (Int.not_lt.mpr oc.2.2.1.2), cif_t ⟨q, nw⟩]
      rw [eF] at kk
      have fe : ∀ a x, ¬ (a = 78 ∧ (x = 67 ∨ x = 68)) → fl 3 o S a x = S a x := fun a x q => fl_of q
      have f7 := (fl_0 (v := 3) (o := o) e0).1
      have h1e : ∀ a x, ¬ a = 14 → ¬ a = 15 → ¬ (a = 12 ∧ x = 0) → h1 a x = h a x := fun a x p p2 p3 => f1 a x (by omega)
      refine b_X1_slide hst hc (b_X1_slide_8 hst hc ⟨fun z => absurd z (by omega), fun _ => ⟨fun _ => ?_, fun z => absurd z (by omega)⟩⟩)
      have fin : ∀ fv, K (qup h1 12 12 fv) := fun fv => by
        refine kk _ (fun a x z => ?_) ⟨⟨?_, fun i a b => ?_⟩, fun x a b => by rw [qup_of (by omega), h1e _ _ (by omega) (by omega) (by omega)]; exact sb x a b, ?_, ?_, fun z => by omega⟩
        · unfold XOw at z
          rw [qup_of (by omega), h1e a x (by omega) (by omega) (by omega)]
        · rw [qup_of (by omega), h1e 12 5 (by omega) (by omega) (by omega), fe 78 62 (by decide)]; exact bd.1
        · rw [fe 78 62 (by decide)] at b
          rw [qup_of (by omega), h1e 13 i (by omega) (by omega) (by omega), fe 112 i (by omega)]; exact bd.2 i a b
        · rw [qup_of (by omega), f7]; exact e3
        · rw [qup_of (by omega), h1e 12 10 (by omega) (by omega) (by omega)]; exact hb
      refine b_X1_doOrder_245 hst ht ?_
      rw [h1e 12 12 (by omega) (by omega) (by omega)]
      exact ⟨o0, fun z => ⟨⟨by omega, by omega⟩, fun h2 d2 => by rw [d2]; exact fin _⟩, fun z h3 d3 => by rw [d3]; exact fin _⟩
  · have q9 := y9 q
    refine ⟨o0, ?_⟩
    have c151 := c150
    rw [q9.1] at c151
    rw [q9.1, q9.2.1, q9.2.2]
    have oc := OC_of k ok e0 c151 (by omega) k10
    have b9 := oks.2.2.2.2.2.1 q
    refine RunV.deep (d1 := d + 2) (by omega) (x_aimShift hst hc lk q ⟨b9.1, b9.2.1⟩ (fun h1 f1 am => ?_))
    obtain ⟨l1, l2, l3, l4, l5⟩ := lk2 h1 f1
    exact RunV.deep (d1 := d + 2) (by omega) (x_slide hst hc oc e0 l1 l2 l3 l4 l5 (by omega) am (fun h2 xh => step (by omega) (by omega) (by omega) (y9 q).1 h1 h2 f1 xh))
  · exact absurd q k10
  · exact absurd q (by omega)
end
