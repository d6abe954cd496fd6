/-! a RUN of the class: a line; who is in it -/
section
variable {X : qX} {d : Nat} {sh : qS} {pt S0 S h hb : qM} {K : qM → Prop} {W c o t te fr M : Int}
theorem x_ro (hst : St sh pt) (ht : isT t) (hc : isC c) (w0 : W ≤ 5000) (te1 : te ≤ 60) (txb : ∀ o, 0 ≤ o → o < te → TXr t S0 hb o) : ∀ w : Nat, RunsC X (d + 6) sh pt K t c te S0 W hb (roF w) w := by
  intro w
  induction w with
  | zero =>
    intro o to S h v dp ag lf k r e0 ot xl sq dp0 dpw ci cz tt v0 lf0 vb kc ke
    have r3 := r.2.2
    have e : roF 0 o to S = rlp (stpF (fun _ _ U => U)) 60 o to S := rfl
    rw [e] at kc ke
    exact x_rlp (n := 0) (w := 0) hst ht hc w0 te1 txb (fun w' e => by omega) (fun w' e => by omega) 60 o to S h v dp ag lf (by omega) k r e0 ot xl sq dp0 dpw ci cz tt v0 lf0 vb kc ke
  | succ w ih =>
    intro o to S h v dp ag lf k r e0 ot xl sq dp0 dpw ci cz tt v0 lf0 vb kc ke
    have r3 := r.2.2
    have e : roF (w + 1) o to S = rlp (stpF (roF w)) 60 o to S := rfl
    rw [e] at kc ke
    refine x_rlp (n := 0) (w := w + 1) (rec := roF w) hst ht hc w0 te1 txb (fun w' e o to U ku _ ru => ?_) (fun w' e => ?_) 60 o to S h v dp ag lf (by omega) k r e0 ot xl sq dp0 dpw ci cz tt v0 lf0 vb kc ke
    · have : w' = w := by omega
      subst this
      exact roF_keep w' o to U ku ru
    · have : w' = w := by omega
      subst this
      exact ih
theorem x_doLine (hst : St sh pt) (ht : isT t) (hc : isC c) (w0 : W ≤ 5000) (te1 : te ≤ 60) (k : SK W S0 S0) (z : S0 78 63 = 0 ∧ S0 78 64 = 0 ∧ S0 78 65 = 0 ∧ S0 78 67 = 0) (r : RGn S0 3 fr te) (ft : fr ≤ te) (bd : bdR S0 h) (sb : SBc c h) (h00 : h 12 0 = 0) (w6 : h c 6 = S0 78 66) (cg : ∀ i, 0 ≤ i → i < S0 78 62 → CGr c S0 h (20 * 0 + S0 112 i)) (tx : ∀ o, 0 ≤ o → o < te → TXr t S0 h o) (kk : ∀ h1, Fr (XLw c S0) h h1 → XOr c (roF 3 fr te S0) h1 → (roF 3 fr te S0 78 67 = 0 → h1 12 1 = h 12 1) → (¬ roF 3 fr te S0 78 67 = 0 → h1 12 1 = roF 3 fr te S0 78 68) → K h1) : RunV X (d + 6) mX1_doLine [(2, 12), (2, t), (2, c), (0, fr), (0, te)] sh pt h K := by
  have cn : c ≠ 11 ∧ c ≠ 12 ∧ 60 ≤ c ∧ c ≤ 70 := by rcases hc with e | e <;> omega
  have tn : 40 ≤ t ∧ t ≤ 53 := by rcases ht with e | e <;> omega
  refine b_X1_doLine hst ht hc (fun h1 d1 h2 d2 h3 d3 h4 d4 => ?_)
  have he : ∀ a x, ¬ (a = 12 ∧ 9 ≤ x ∧ x ≤ 12) → h4 a x = h a x := fun a x q => by rw [d4, qup_of (by omega), d3, qup_of (by omega), d2, qup_of (by omega), d1, qup_of (by omega)]
  have e10 : h4 12 10 = 0 := by rw [d4, qup_of (by omega), d3, qup_of (by omega), d2, qup_of (by omega), d1, qup_at]
  have e11 : h4 12 11 = 0 := by rw [d4, qup_of (by omega), d3, qup_of (by omega), d2, qup_at]
  have e12 : h4 12 12 = 0 := by rw [d4, qup_of (by omega), d3, qup_at]
  have e9 : h4 12 9 = 0 := by rw [d4, qup_at]
  have f4 : Fr (XLw c S0) h h4 := fun a x q => he a x (fun y => q (by unfold XLw; omega))
  clear d1 d2 d3 d4
  have xo : XOr c S0 h4 := by
    refine ⟨⟨by rw [he 12 5 (by omega)]; exact bd.1, fun i a b => by rw [he 13 i (by omega)]; exact bd.2 i a b⟩, fun x a b => by rw [he _ x (by omega)]; exact sb x a b, by rw [he 12 0 (by omega), z.2.2.2]; exact h00, by omega, fun _ => ⟨by omega, by omega, by rw [e12, z.2.2.1]; rfl, by rw [he c 6 (by omega)]; exact w6, fun i t' a b a2 b2 => ?_⟩⟩
    have y := cg i a b
    have e0 : t' = 0 := by omega
    rw [e0]
    unfold CGr at y ⊢
    rw [he _ _ (by omega)]
    exact y
  have txb : ∀ o, 0 ≤ o → o < te → TXr t S0 h4 o := fun o a b => by
    have y := tx o a b
    unfold TXr at y ⊢
    rw [he (t + 1) o (by omega), he (t + 2) o (by omega), he (t + 3) o (by omega), he (t + 4) o (by omega), he (t + 5) o (by omega), he (t + 6) o (by omega)]
    exact y
  refine x_ro hst ht hc w0 te1 txb 3 fr te S0 h4 0 0 (fun _ => 0) (fun _ => 0) k r z.2.2.2 ft ⟨xo, Fr.rf, fun _ => ⟨by omega, rfl⟩, fun y => absurd z.2.2.2 y⟩ ⟨e9, fun i _ _ => by omega⟩ (by decide) (by decide) (fun y => absurd y (by decide)) (fun _ => rfl) (by omega) (by decide) (fun i _ _ => by omega) (by rw [z.2.1]; decide) (fun h1 v1 r0 xl sq v10 v1b => ?_) (fun h1 rz xl => kk h1 (Fr.tr f4 xl.2.1) xl.1 (fun y => absurd y rz) xl.2.2.2)
  have k1 := roF_keep 3 fr te S0 k r
  have d3 := k1.1.2.2.1
  have s0 : smL 0 (fun _ => 0) = 0 := rfl
  rw [s0] at v1b
  have ke : K h1 := kk h1 (Fr.tr f4 xl.2.1) xl.1 (fun y => by rw [(xl.2.2.1 y).2, he 12 1 (by omega)]) xl.2.2.2
  have h0 : h1 12 0 = 0 := by rw [xl.1.2.2.1]; exact r0
  have h9 := sq.1
  exact b_X1_doLine_26 hst ht hc ⟨fun y => absurd y (by omega), fun _ => ⟨fun y => absurd h0 y, fun _ => ⟨fun _ => b_X1_doLine_80 hst ht hc ⟨fun _ => ke, fun y => absurd y (by omega)⟩, fun y => absurd y (by omega)⟩⟩⟩
theorem x_gather {P : Int → Prop} {s : Int} (hst : St sh pt) (s0 : 0 ≤ s ∧ s ≤ 2147483647) (M0 : 0 ≤ M ∧ M ≤ 20) (hp : ∀ m, 0 ≤ m → m < M → (tb s m = true ↔ P m)) (k : ∀ h1, Fr (fun a x => (a = 12 ∧ x = 5) ∨ a = 13) h h1 → bdR (gath P M S) h1 → K h1) : RunV X d mX1_gather [(2, 12), (0, s), (0, M)] sh pt h K := by
  refine b_X1_gather hst (fun h1 d1 => ?_)
  have g0 : gath P M S = fo (ga1 P) 0 M (qup S 78 62 0) := rfl
  refine lp (σ := qM × qM) (i := 0) (n := M) (J := fun m s => Fr (fun a x => (a = 12 ∧ x = 5) ∨ a = 13) h s.2 ∧ bdR s.1 s.2 ∧ ((0 ≤ s.1 78 62 ∧ s.1 78 62 ≤ m) ∧ ∀ i, 0 ≤ i → i < s.1 78 62 → 0 ≤ s.1 112 i ∧ s.1 112 i < m) ∧ fo (ga1 P) m M s.1 = gath P M S) (C := fun m u => EvV X d mX1_gather 7 [(2, 12), (0, s), (0, M), (0, m)] [] sh pt u.2 K) M0.1 ?_ ?_ (qup S 78 62 0, h1) ⟨?_, ⟨?_, fun i a b => ?_⟩, ⟨?_, fun i a b => ?_⟩, g0.symm⟩
  · intro m ⟨U, u⟩ m0 m1 ⟨f, bd, bb, e⟩ ih
    dsimp only at f bd bb e ih ⊢
    have bt := q_bitU (s := s) (m := m) s0.1 s0.2 m0 (by omega)
    have hm := hp m m0 m1
    have st : fo (ga1 P) (m + 1) M (ga1 P m U) = gath P M S := by rw [← e, fo_step (n := M) m1]
    have kp := ga1_keep (P := P) m0 bb
    refine b_X1_gather_7 hst ?_
    rw [bt]
    refine ⟨fun z => absurd z (by omega), fun _ => ⟨fun z => ⟨⟨by omega, by omega⟩, ?_⟩, fun z => ⟨by have := bd.1; omega, fun h2 d2 => ?_⟩⟩⟩
    · have np : ¬ P m := fun y => by rw [if_pos (hm.mpr y)] at z; exact absurd z (by decide)
      have eg : ga1 P m U = U := by unfold ga1; rw [cif_f np]
      rw [eg] at st kp
      exact ih (U, u) ⟨f, bd, kp, st⟩
    · have yp : P m := by
        by_cases y : tb s m = true
        · exact hm.mp y
        · rw [if_neg y] at z; exact absurd rfl z
      have eg : ga1 P m U = qup (qup U 112 (U 78 62) m) 78 62 (U 78 62 + 1) := by unfold ga1; rw [cif_t yp]
      have b1 := bd.1
      have h25 : h2 12 5 = u 12 5 := by rw [d2, qup_of (by omega)]
      rw [h25]
      refine ⟨⟨by omega, by omega⟩, fun h3 d3 => ⟨⟨by omega, by omega⟩, ?_⟩⟩
      rw [eg] at st kp
      refine ih (qup (qup U 112 (U 78 62) m) 78 62 (U 78 62 + 1), h3) ⟨?_, ⟨?_, fun i a b => ?_⟩, kp, st⟩
      · dsimp only
        rw [d3, d2]
        exact Fr.up (Fr.up f (Or.inr rfl)) (Or.inl ⟨rfl, rfl⟩)
      · dsimp only
        rw [d3, qup_at, qup_at, b1]
      · dsimp only at b ⊢
        rw [qup_at] at b
        rw [d3, qup_of (by omega), qup_of (by omega), d2, b1]
        by_cases y : i = U 78 62
        · rw [y, qup_at, qup_at]
        · rw [qup_of (by omega), qup_of (by omega)]
          exact bd.2 i a (by omega)
  · intro ⟨U, u⟩ ⟨f, bd, bb, e⟩
    dsimp only at f bd bb e ⊢
    rw [fo_end (by omega)] at e
    rw [e] at bd
    exact b_X1_gather_7 hst ⟨fun _ => k u f bd, fun z => absurd z (by omega)⟩
  · dsimp only; rw [d1]; exact Fr.up Fr.rf (Or.inl ⟨rfl, rfl⟩)
  · dsimp only; rw [d1, qup_at, qup_at]
  · dsimp only at b ⊢; rw [qup_at] at b; omega
  · dsimp only; rw [qup_at]; decide
  · dsimp only at b; rw [qup_at] at b; omega
end
