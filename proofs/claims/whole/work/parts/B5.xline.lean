/-! a RUN of the class: the orders of a line -/
def XLw (c : Int) (S : qM) (a x : Int) : Prop := (a = 12 ∧ (x = 0 ∨ x = 1 ∨ (9 ≤ x ∧ x ≤ 12))) ∨ a = 14 ∨ a = 15 ∨ a = 17 ∨ a = 18 ∨ (a = c ∧ x = 6) ∨ (a = c + 1 ∧ bC S x)
def XLr (c : Int) (S0 hb S h : qM) : Prop := XOr c S h ∧ Fr (XLw c S0) hb h ∧ (S 78 67 = 0 → h 12 11 = S 78 64 ∧ h 12 1 = hb 12 1) ∧ (¬ S 78 67 = 0 → h 12 1 = S 78 68)
def stkQ (dp : Int) (ag lf : Int → Int) (h : qM) : Prop := h 12 9 = dp ∧ ∀ i, 0 ≤ i → i < dp → h 17 i = ag i ∧ h 18 i = lf i
def smL (dp : Int) (lf : Int → Int) : Int := (if 0 < dp then lf 0 else 0) + (if 1 < dp then lf 1 else 0) + (if 2 < dp then lf 2 else 0)
theorem smL_push {dp a o : Int} {lf : Int → Int} (d0 : 0 ≤ dp) (d1 : dp ≤ 2) : smL (dp + 1) (fun i => if i = dp then a else lf i) = smL dp lf + a := by
  have : dp = 0 ∨ dp = 1 ∨ dp = 2 := by omega
  rcases this with e | e | e <;> subst e <;> simp [smL] <;> omega
theorem XOr_fr {c : Int} {S S1 h h1 : qM} (q : XOr c S h) (s : ∀ a x, ¬ (a = 78 ∧ (x = 64 ∨ x = 68)) → S1 a x = S a x) (f : ∀ a x, (a = 12 ∧ (x = 0 ∨ x = 5 ∨ x = 10 ∨ x = 12)) ∨ a = 13 ∨ (a = c ∧ x = 6) ∨ a = c + 1 → h1 a x = h a x) : XOr c S1 h1 := by
  obtain ⟨q1, q2, q3, q4, q5⟩ := q
  have e62 := s 78 62 (by decide)
  have e63 := s 78 63 (by decide)
  have e67 := s 78 67 (by decide)
  have h10 := f 12 10 (by omega)
  have h12 := f 12 12 (by omega)
  refine ⟨⟨by rw [f 12 5 (by omega), e62]; exact q1.1, fun i a b => ?_⟩, fun x a b => by rw [f (c + 1) x (by omega)]; exact q2 x a b, by rw [f 12 0 (by omega), e67]; exact q3, by rw [h10]; exact q4, fun z => ?_⟩
  · rw [e62] at b
    rw [f 13 i (by omega), s 112 i (by omega)]
    exact q1.2 i a b
  · rw [e67] at z
    obtain ⟨z1, z2, z3, z4, z5⟩ := q5 z
    refine ⟨by rw [h10, e63]; exact z1, by rw [h10, h12]; exact z2, by rw [h12, s 78 65 (by decide)]; exact z3, by rw [f c 6 (by omega), s 78 66 (by decide)]; exact z4, fun i t a b a2 b2 => ?_⟩
    rw [e62] at b
    rw [e63] at b2
    have y := z5 i t a b a2 b2
    rw [s 112 i (by omega)]
    unfold CGr gnd at y ⊢
    rw [f (c + 1) _ (by omega), s 109 _ (by omega), s 110 _ (by omega), s 111 _ (by omega)]
    exact y
def RunsC (X : qX) (d : Nat) (sh : qS) (pt : qM) (K : qM → Prop) (t c te : Int) (S0 : qM) (W : Int) (hb : qM) (f : Int → Int → qM → qM) (w : Nat) : Prop := ∀ (o to : Int) (S h : qM) (v dp : Int) (ag lf : Int → Int), SK W S0 S → RGn S0 w o to → S 78 67 = 0 → o ≤ to → XLr c S0 hb S h → stkQ dp ag lf h → 0 ≤ dp → dp + w ≤ 3 → (0 < dp → (0 ≤ ag (dp - 1) ∧ ag (dp - 1) < te) ∧ S0 99 (ag (dp - 1)) = to) → (dp = 0 → to = te) → to ≤ te → 0 ≤ v → (∀ i, 0 ≤ i → i < dp → 0 ≤ lf i) → v + smL dp lf ≤ 21 * S 78 64 → (∀ h1 v1, f o to S 78 67 = 0 → XLr c S0 hb (f o to S) h1 → stkQ dp ag lf h1 → 0 ≤ v1 → v1 + smL dp lf ≤ 21 * f o to S 78 64 → EvV X d mX1_doLine 26 [(2, 12), (2, t), (2, c), (8, -1), (0, te), (0, to), (0, v1)] [] sh pt h1 K) → (∀ h1, ¬ f o to S 78 67 = 0 → XLr c S0 hb (f o to S) h1 → K h1) → EvV X d mX1_doLine 26 [(2, 12), (2, t), (2, c), (8, -1), (0, te), (0, o), (0, v)] [] sh pt h K
theorem smL_nn {dp : Int} {lf : Int → Int} (h : ∀ i, 0 ≤ i → i < dp → 0 ≤ lf i) : 0 ≤ smL dp lf := by
  unfold smL
  have a := h 0 (by decide)
  have b := h 1 (by decide)
  have c := h 2 (by decide)
  repeat' split
  all_goals omega
theorem TXr_5 {t o : Int} {S h : qM} (tx : TXr t S h o) : (0 ≤ h (t + 5) o ∧ h (t + 5) o ≤ 99) ∧ (0 < h (t + 5) o → ¬ S 94 o = 5 ∧ ¬ S 94 o = 10 ∧ h (t + 5) o = S 95 o) := by
  obtain ⟨x1, x2, x3, x4, x5⟩ := tx
  have y := x4.2
  unfold oKs at y
  omega
section
variable {X : qX} {d : Nat} {sh : qS} {pt S0 S h hb : qM} {K : qM → Prop} {W c o t te : Int} {rec : Int → Int → qM → qM} {w : Nat}
/-- at an error the loop ends -/
theorem x_lineErr {v ov : Int} (hst : St sh pt) (ht : isT t) (hc : isC c) (e : ¬ h 12 0 = 0) (k : K h) : EvV X (d + 1) mX1_doLine 26 [(2, 12), (2, t), (2, c), (8, -1), (0, te), (0, ov), (0, v)] [] sh pt h K :=
  b_X1_doLine_26 hst ht hc ⟨fun _ => k, fun _ => ⟨fun _ => k, fun z => absurd z e⟩⟩
/-- one order is counted -/
theorem x_countOrder {v : Int} (hst : St sh pt) (e0 : h 12 0 = 0) (d0 : 0 ≤ h 12 11 ∧ h 12 11 ≤ 500) (n0 : 0 ≤ h 12 10 ∧ h 12 10 ≤ 150) (v0 : 0 ≤ v ∧ v ≤ 99) (k1 : h 12 11 = 500 → K (qup (qup h 12 11 (h 12 11 + 1)) 12 0 1)) (k2 : h 12 11 < 500 → 150 < h 12 10 + v → K (qup (qup h 12 11 (h 12 11 + 1)) 12 0 2)) (k0 : h 12 11 < 500 → h 12 10 + v ≤ 150 → K (qup h 12 11 (h 12 11 + 1))) : RunV X (d + 1) mX1_countOrder [(2, 12), (0, v)] sh pt h K := by
  refine b_X1_countOrder hst ⟨⟨by omega, by omega⟩, fun h1 d1 => ?_⟩
  have e11 : h1 12 11 = h 12 11 + 1 := by rw [d1, qup_at]
  have e10 : h1 12 10 = h 12 10 := by rw [d1, qup_of (by decide)]
  have e00 : h1 12 0 = 0 := by rw [d1, qup_of (by decide)]; exact e0
  rw [e11, e10]
  refine ⟨fun q => ⟨⟨by omega, by omega⟩, fun q2 => ?_, fun q2 => x_failD hst ?_⟩, fun q => x_failD hst ?_⟩
  · rw [d1]; exact k0 (by omega) q2
  · rw [if_pos e00, d1]; exact k2 (by omega) q2
  · rw [if_pos e00, d1]; exact k1 (by omega)
theorem x_rlp {n : Nat} (hst : St sh pt) (ht : isT t) (hc : isC c) (w0 : W ≤ 5000) (te1 : te ≤ 60) (txb : ∀ o, 0 ≤ o → o < te → TXr t S0 hb o) (hk : ∀ w', w = w' + 1 → ∀ o to U, SK W S0 U → U 78 67 = 0 → RGn S0 w' o to → SK W S0 (rec o to U)) (hr : ∀ w', w = w' + 1 → RunsC X (d + 6) sh pt K t c te S0 W hb rec w') : ∀ (n : Nat), (∀ (o to : Int) (S h : qM) (v dp : Int) (ag lf : Int → Int), to - o ≤ n → SK W S0 S → RGn S0 w o to → S 78 67 = 0 → o ≤ to → XLr c S0 hb S h → stkQ dp ag lf h → 0 ≤ dp → dp + w ≤ 3 → (0 < dp → (0 ≤ ag (dp - 1) ∧ ag (dp - 1) < te) ∧ S0 99 (ag (dp - 1)) = to) → (dp = 0 → to = te) → to ≤ te → 0 ≤ v → (∀ i, 0 ≤ i → i < dp → 0 ≤ lf i) → v + smL dp lf ≤ 21 * S 78 64 → (∀ h1 v1, rlp (stpF rec) n o to S 78 67 = 0 → XLr c S0 hb (rlp (stpF rec) n o to S) h1 → stkQ dp ag lf h1 → 0 ≤ v1 → v1 + smL dp lf ≤ 21 * rlp (stpF rec) n o to S 78 64 → EvV X (d + 6) mX1_doLine 26 [(2, 12), (2, t), (2, c), (8, -1), (0, te), (0, to), (0, v1)] [] sh pt h1 K) → (∀ h1, ¬ rlp (stpF rec) n o to S 78 67 = 0 → XLr c S0 hb (rlp (stpF rec) n o to S) h1 → K h1) → EvV X (d + 6) mX1_doLine 26 [(2, 12), (2, t), (2, c), (8, -1), (0, te), (0, o), (0, v)] [] sh pt h K) := by
  have cn : c ≠ 11 ∧ c ≠ 12 ∧ 60 ≤ c ∧ c ≤ 70 := by rcases hc with e | e <;> omega
  have tn : 40 ≤ t ∧ t ≤ 53 := by rcases ht with e | e <;> omega
  have tc : ∀ j, 1 ≤ j → j ≤ 8 → t + j ≠ c ∧ t + j ≠ c + 1 := fun j _ _ => by rcases ht with e | e <;> rcases hc with e2 | e2 <;> omega
  intro n
  induction n with
  | zero =>
    intro o to S h v dp ag lf e k r e0 ot xl sq dp0 dpw ci cz tt v0 lf0 vb kc ke
    have : o = to := by omega
    subst this
    exact kc h v e0 xl sq v0 vb
  | succ n ih =>
    intro o to S h v dp ag lf e k r e0 ot xl sq dp0 dpw ci cz tt v0 lf0 vb kc ke
    by_cases l : o < to
    case neg =>
      have : o = to := by omega
      subst this
      have er : rlp (stpF rec) (n + 1) o o S = S := by rw [rlp, cif_f (by omega)]
      rw [er] at kc ke
      exact kc h v e0 xl sq v0 vb
    obtain ⟨_, _, sr, _⟩ := SK_at k
    have er : rlp (stpF rec) (n + 1) o to S = rlp (stpF rec) n (S0 99 o) to (stpF rec o S) := by rw [rlp, cif_t ⟨l, e0⟩, sr 99 o (by decide) (by decide)]
    rw [er] at kc ke
    have ok := r.2.1 o (by omega) l
    have oS := SK_ok k ok
    have o0 := ok.1
    have oks := oS.2
    unfold oKs at oks
    have d3 := k.1.2.2.1
    have sk := stpF_keep hk k e0 r l
    have nd := Nd_st r.1 l
    have rn := RGn_nx r l
    obtain ⟨xo, fr, x11, _⟩ := xl
    have x11' := (x11 e0).1
    have x1' := (x11 e0).2
    have xo5 := xo.2.2.2.2 e0
    have h00 : h 12 0 = 0 := by rw [xo.2.2.1]; exact e0
    have hb10 := xo.2.2.2.1
    have s0 := smL_nn lf0
    -- the text, at S and h
    have fh : ∀ j x, 1 ≤ j → j ≤ 8 → h (t + j) x = hb (t + j) x := fun j x p q => by
      have := tc j p q
      exact fr _ _ (by unfold XLw; omega)
    have txh : ∀ {S1 h1 : qM}, SK W S0 S1 → Fr (XLw c S0) hb h1 → TXr t S1 h1 o := fun {S1 h1} k1 f1 => by
      have z := txb o (by omega) (by omega)
      obtain ⟨_, _, sr1, _⟩ := SK_at k1
      have g : ∀ j, 1 ≤ j → j ≤ 8 → h1 (t + j) o = hb (t + j) o := fun j p q => by
        have := tc j p q
        exact f1 _ _ (by unfold XLw; omega)
      unfold TXr oK at z ⊢
      rw [g 1 (by decide) (by decide), g 2 (by decide) (by decide), g 3 (by decide) (by decide), g 4 (by decide) (by decide), g 5 (by decide) (by decide), g 6 (by decide) (by decide), sr1 94 o (by decide) (by decide), sr1 95 o (by decide) (by decide), sr1 96 o (by decide) (by decide), sr1 97 o (by decide) (by decide), sr1 98 o (by decide) (by decide), sr1 99 o (by decide) (by decide)]
      exact z
    have tx := txh k fr
    have t5 := (TXr_5 tx).1
    have t5' := (TXr_5 tx).2
    have t2 : ∀ h1, Fr (XLw c S0) hb h1 → h1 (t + 2) o = S 98 o := fun h1 f1 => (txh k f1).2.1
    -- behind the order
    have nexts : ∀ h1, Fr (XLw c S0) hb h1 → XOr c (stpF rec o S) h1 → (stpF rec o S 78 67 = 0 → h1 12 11 = stpF rec o S 78 64 ∧ h1 12 1 = hb 12 1) → (¬ stpF rec o S 78 67 = 0 → stpF rec o S 78 68 = S 98 o) → S0 99 o = o + 1 → S 78 64 + 1 = stpF rec o S 78 64 ∨ ¬ stpF rec o S 78 67 = 0 → stkQ dp ag lf h1 → EvV X (d + 6) mX1_doLine 113 [(2, 12), (2, t), (2, c), (8, -1), (0, te), (0, o), (0, v)] [] sh pt h1 K := by
      intro h1 f1 xo1 y11 y68 e99 yd sq1
      refine b_X1_doLine_113 hst ht hc ⟨fun z => ⟨⟨by omega, by omega⟩, ⟨by omega, by omega⟩, ?_⟩, fun z => ⟨o0, fun h2 d2 => ⟨⟨by omega, by omega⟩, ⟨by omega, by omega⟩, ?_⟩⟩⟩
      · have z0 : stpF rec o S 78 67 = 0 := by rw [← xo1.2.2.1]; exact z
        rw [e99] at kc ke rn
        exact ih (o + 1) to _ h1 (v + 1) dp ag lf (by omega) sk rn z0 (by omega) ⟨xo1, f1, y11, fun y => absurd z0 y⟩ sq1 dp0 dpw ci cz tt (by omega) lf0 (by omega) kc ke
      · have z0 : ¬ stpF rec o S 78 67 = 0 := by rw [← xo1.2.2.1]; exact z
        have er2 : rlp (stpF rec) n (S0 99 o) to (stpF rec o S) = stpF rec o S := by
          cases n with
          | zero => rfl
          | succ n => rw [rlp, cif_f (fun y => z0 y.2)]
        rw [er2] at ke
        have h2e : ∀ a x, ¬ (a = 12 ∧ x = 1) → h2 a x = h1 a x := fun a x q => by rw [d2, qup_of q]
        refine x_lineErr hst ht hc (by rw [h2e 12 0 (by decide)]; exact z) (ke h2 z0 ⟨XOr_fr xo1 (fun _ _ _ => rfl) (fun a x q => h2e a x (by omega)), fun a x q => ?_, fun y => absurd y z0, fun _ => ?_⟩)
        · rw [h2e a x (fun y => q (Or.inl ⟨y.1, by omega⟩))]
          exact f1 a x q
        · rw [d2, qup_at, t2 h1 f1, y68 z0]
    have sqk : ∀ h1, h1 12 9 = h 12 9 → (∀ i, h1 17 i = h 17 i ∧ h1 18 i = h 18 i) → stkQ dp ag lf h1 := fun h1 p q => ⟨by rw [p]; exact sq.1, fun i a b => by rw [(q i).1, (q i).2]; exact sq.2 i a b⟩
    have go80 : EvV X (d + 6) mX1_doLine 80 [(2, 12), (2, t), (2, c), (8, -1), (0, te), (0, o), (0, v)] [] sh pt h K := by
      refine b_X1_doLine_80 hst ht hc ⟨fun z => absurd z (by omega), fun _ => ⟨o0, ?_⟩⟩
      refine RunV.deep (d1 := d + 1) (by omega) (x_countOrder hst h00 (by omega) hb10 t5 (fun q => ?_) (fun q q2 => ?_) (fun q q2 => ?_))
      · -- one order too many
        have eF : stpF rec o S = fl 1 o S := by rw [stpF, cif_t (by omega)]
        have f7 := fl_0 (v := 1) (o := o) e0
        refine ⟨fun _ => ?_, fun z => absurd z (by rw [qup_at]; decide)⟩
        have he : ∀ a x, ¬ (a = 12 ∧ (x = 11 ∨ x = 0)) → qup (qup h 12 11 (h 12 11 + 1)) 12 0 1 a x = h a x := fun a x q => by rw [qup_of (by omega), qup_of (by omega)]
        have h0e : qup (qup h 12 11 (h 12 11 + 1)) 12 0 1 12 0 = 1 := qup_at
        generalize qup (qup h 12 11 (h 12 11 + 1)) 12 0 1 = g at *
        have fg : Fr (XLw c S0) hb g := fun a x q => by
          rw [he a x (fun y => q (Or.inl ⟨y.1, by omega⟩))]
          exact fr a x q
        refine b_X1_doLine_113 hst ht hc ⟨fun z => absurd z (by omega), fun z => ⟨o0, fun h2 d2 => ⟨⟨by omega, by omega⟩, ⟨by omega, by omega⟩, ?_⟩⟩⟩
        have z0 : ¬ stpF rec o S 78 67 = 0 := by rw [eF, f7.1]; decide
        have er2 : rlp (stpF rec) n (S0 99 o) to (stpF rec o S) = stpF rec o S := by
          cases n with
          | zero => rfl
          | succ n => rw [rlp, cif_f (fun y => z0 y.2)]
        rw [er2] at ke
        have h2e : ∀ a x, ¬ (a = 12 ∧ x = 1) → h2 a x = g a x := fun a x q => by rw [d2, qup_of q]
        refine x_lineErr hst ht hc (by rw [h2e 12 0 (by decide), h0e]; decide) (ke h2 z0 ⟨?_, fun a x q => ?_, fun y => absurd y z0, fun _ => ?_⟩)
        · rw [eF]
          have fe : ∀ a x, ¬ (a = 78 ∧ (x = 67 ∨ x = 68)) → fl 1 o S a x = S a x := fun a x q => fl_of q
          have ge : ∀ a x, ¬ (a = 12 ∧ (x = 11 ∨ x = 0 ∨ x = 1)) → h2 a x = h a x := fun a x q => by rw [h2e a x (by omega), he a x (by omega)]
          refine ⟨⟨by rw [ge 12 5 (by omega), fe 78 62 (by decide)]; exact xo.1.1, fun i a b => ?_⟩, fun x a b => by rw [ge _ _ (by omega)]; exact xo.2.1 x a b, by rw [h2e 12 0 (by decide), h0e, f7.1], by rw [ge 12 10 (by omega)]; exact hb10, fun z => ?_⟩
          · rw [fe 78 62 (by decide)] at b
            rw [ge 13 i (by omega), fe 112 i (by omega)]
            exact xo.1.2 i a b
          · rw [f7.1] at z; exact absurd z (by decide)
        · rw [h2e a x (fun y => q (Or.inl ⟨y.1, by omega⟩))]
          exact fg a x q
        · rw [d2, qup_at, t2 g fg, eF, f7.2]
      · -- too many counts
        have n500 : ¬ S 78 64 = 500 := by omega
        have kd : ¬ S 94 o = 5 ∧ ¬ S 94 o = 10 := ⟨(t5' (by omega)).1, (t5' (by omega)).2.1⟩
        have t95 : h (t + 5) o = S 95 o := (t5' (by omega)).2.2
        have eF : stpF rec o S = fl 2 o (qup S 78 64 (S 78 64 + 1)) := by
          rw [stpF, cif_f n500, cif_f kd.2, cif_f kd.1, goF, cif_t]
          rw [qup_of (by decide), qup_of (by omega)]
          omega
        have f7 := fl_0 (v := 2) (o := o) (S := qup S 78 64 (S 78 64 + 1)) (by rw [qup_of (by decide)]; exact e0)
        refine ⟨fun _ => ?_, fun z => absurd z (by rw [qup_at]; decide)⟩
        have he : ∀ a x, ¬ (a = 12 ∧ (x = 11 ∨ x = 0)) → qup (qup h 12 11 (h 12 11 + 1)) 12 0 2 a x = h a x := fun a x q => by rw [qup_of (by omega), qup_of (by omega)]
        have h0e : qup (qup h 12 11 (h 12 11 + 1)) 12 0 2 12 0 = 2 := qup_at
        generalize qup (qup h 12 11 (h 12 11 + 1)) 12 0 2 = g at *
        have fg : Fr (XLw c S0) hb g := fun a x q => by
          rw [he a x (fun y => q (Or.inl ⟨y.1, by omega⟩))]
          exact fr a x q
        refine b_X1_doLine_113 hst ht hc ⟨fun z => absurd z (by omega), fun z => ⟨o0, fun h2 d2 => ⟨⟨by omega, by omega⟩, ⟨by omega, by omega⟩, ?_⟩⟩⟩
        have z0 : ¬ stpF rec o S 78 67 = 0 := by rw [eF, f7.1]; decide
        have er2 : rlp (stpF rec) n (S0 99 o) to (stpF rec o S) = stpF rec o S := by
          cases n with
          | zero => rfl
          | succ n => rw [rlp, cif_f (fun y => z0 y.2)]
        rw [er2] at ke
        have h2e : ∀ a x, ¬ (a = 12 ∧ x = 1) → h2 a x = g a x := fun a x q => by rw [d2, qup_of q]
        refine x_lineErr hst ht hc (by rw [h2e 12 0 (by decide), h0e]; decide) (ke h2 z0 ⟨?_, fun a x q => ?_, fun y => absurd y z0, fun _ => ?_⟩)
        · rw [eF]
          have fe : ∀ a x, ¬ (a = 78 ∧ (x = 64 ∨ x = 67 ∨ x = 68)) → fl 2 o (qup S 78 64 (S 78 64 + 1)) a x = S a x := fun a x q => by rw [fl_of (by omega), qup_of (by omega)]
          have ge : ∀ a x, ¬ (a = 12 ∧ (x = 11 ∨ x = 0 ∨ x = 1)) → h2 a x = h a x := fun a x q => by rw [h2e a x (by omega), he a x (by omega)]
          refine ⟨⟨by rw [ge 12 5 (by omega), fe 78 62 (by decide)]; exact xo.1.1, fun i a b => ?_⟩, fun x a b => by rw [ge _ _ (by omega)]; exact xo.2.1 x a b, by rw [h2e 12 0 (by decide), h0e, f7.1], by rw [ge 12 10 (by omega)]; exact hb10, fun z => ?_⟩
          · rw [fe 78 62 (by decide)] at b
            rw [ge 13 i (by omega), fe 112 i (by omega)]
            exact xo.1.2 i a b
          · rw [f7.1] at z; exact absurd z (by decide)
        · rw [h2e a x (fun y => q (Or.inl ⟨y.1, by omega⟩))]
          exact fg a x q
        · rw [d2, qup_at, t2 g fg, eF, f7.2, qup_of (by omega)]
      · -- it is done
        have n500 : ¬ S 78 64 = 500 := by omega
        have he : ∀ a x, ¬ (a = 12 ∧ x = 11) → qup h 12 11 (h 12 11 + 1) a x = h a x := fun a x q => by rw [qup_of q]
        have h11 : qup h 12 11 (h 12 11 + 1) 12 11 = h 12 11 + 1 := qup_at
        generalize qup h 12 11 (h 12 11 + 1) = g at *
        have fg : Fr (XLw c S0) hb g := fun a x q => by
          rw [he a x (fun y => q (Or.inl ⟨y.1, by omega⟩))]
          exact fr a x q
        refine ⟨fun z => absurd (he 12 0 (by decide)) (by omega), fun _ => ?_⟩
        have kd := SK_done k (by omega)
        have se : ∀ a x, ¬ (a = 78 ∧ x = 64) → qup S 78 64 (S 78 64 + 1) a x = S a x := fun a x q => qup_of q
        have s64 : qup S 78 64 (S 78 64 + 1) 78 64 = S 78 64 + 1 := qup_at
        have eF : stpF rec o S = cif (S 94 o = 10) (itn (rec (o + 1) (S 99 o)) (S 95 o) (qup S 78 64 (S 78 64 + 1))) (cif (S 94 o = 5) (tuF (S 95 o) (qup S 78 64 (S 78 64 + 1))) (goF o (qup S 78 64 (S 78 64 + 1)))) := by rw [stpF, cif_f n500]
        generalize qup S 78 64 (S 78 64 + 1) = U at *
        have u0 : U 78 67 = 0 := by rw [se 78 67 (by decide)]; exact e0
        have xg : XOr c U g := XOr_fr xo (fun a x q => se a x (by omega)) (fun a x q => he a x (by omega))
        have txg := txh kd.1 fg
        have u94 : U 94 o = S 94 o := se 94 o (by omega)
        have u95 : U 95 o = S 95 o := se 95 o (by omega)
        have g5 : g (t + 5) o = h (t + 5) o := he _ _ (by omega)
        by_cases k10 : S 94 o = 10
        case neg =>
          rw [cif_f k10] at eF
          refine RunV.deep (d1 := d + 4) (by omega) (x_doOrder hst ht hc kd.1 w0 ok txg xg u0 ?_ (by omega) (fun h1 f1 xo1 => ?_))
          · rw [g5, se 78 63 (by decide), ← xo5.1]
            exact q2
          · rw [u94, u95, ← eF] at xo1
            have h1e : ∀ a x, ¬ XOw c U a x → h1 a x = g a x := f1
            have f2 : Fr (XLw c S0) hb h1 := fun a x q => by
              rw [f1 a x (fun y => q (by
                rcases y with y | y | y | y | y
                · unfold XLw; omega
                · unfold XLw; omega
                · unfold XLw; omega
                · unfold XLw; omega
                · exact Or.inr (Or.inr (Or.inr (Or.inr (Or.inr (Or.inr ⟨y.1, bC_cg (SK_at kd.1).1 (SK_at kd.1).2.1 y.2⟩)))))))]
              exact fg a x q
            have d64 : stpF rec o S 78 64 = S 78 64 + 1 := by
              rw [eF]
              by_cases k5 : S 94 o = 5
              · rw [cif_t k5, (tuF_keep kd.1 kd.2 u0).2.2 78 64 (by omega)]
                exact s64
              · rw [cif_f k5]
                unfold goF
                by_cases c1 : 150 < U 78 63 + U 95 o
                · rw [cif_t c1, fl_of (by decide)]; exact s64
                rw [cif_f c1]
                by_cases c8 : U 94 o = 8 ∧ ¬ whl U (U 96 o)
                · rw [cif_t c8, fl_of (by decide)]; exact s64
                rw [cif_f c8]
                have oc := OC_of kd.1 ok u0 (by omega) (by omega) (by omega)
                have gv := gJs_keep oc u0
                unfold gGo
                rw [qup_of (by decide)]
                have v64 := (GIV_at gv).1 64 (by decide) (by decide) (by decide)
                by_cases c6 : U 94 o = 6
                · rw [cif_t c6]
                  have tk := fo_inv (f := tnI (8 + 2 * U 96 o) (U 78 63 + U 95 o)) (i := 0) (n := U 78 62) (a := fo (gJ o (U 95 o)) 1 (U 95 o + 1) U) (fun _ V => V 78 64 = U 78 64) (fun i V _ _ z => by
                    unfold tnI
                    try dsimp only at z ⊢
                    rw [qup_of (by omega)]; exact z) kd.1.1.1.1.1 v64
                  rw [tk]; exact s64
                · rw [cif_f c6, v64]; exact s64
            have y68 : ¬ stpF rec o S 78 67 = 0 → stpF rec o S 78 68 = S 98 o := by
              rw [eF]
              have u98 : U 98 o = S 98 o := se 98 o (by omega)
              by_cases k5 : S 94 o = 5
              · rw [cif_t k5]
                exact fun z => absurd (tuF_keep kd.1 kd.2 u0).2.1 z
              · rw [cif_f k5]
                unfold goF
                by_cases c1 : 150 < U 78 63 + U 95 o
                · rw [cif_t c1]; exact fun _ => by rw [(fl_0 u0).2, u98]
                rw [cif_f c1]
                by_cases c8 : U 94 o = 8 ∧ ¬ whl U (U 96 o)
                · rw [cif_t c8]; exact fun _ => by rw [(fl_0 u0).2, u98]
                rw [cif_f c8]
                intro z
                rcases (gGo_keep kd.1 ok u0 (by omega) (by omega) (by omega)).2.2 with y | y
                · exact absurd y z
                · rw [y.2, u98]
            refine nexts h1 f2 xo1 (fun _ => ?_) y68 ?_ (Or.inl d64.symm) (sqk h1 ?_ (fun i => ?_))
            · exact ⟨by rw [h1e 12 11 (by unfold XOw; omega), h11, d64, x11'], by rw [h1e 12 1 (by unfold XOw; omega), he 12 1 (by decide)]; exact x1'⟩
            · exact nd.2.1 (by rw [← sr 94 o (by decide) (by decide)]; exact k10)
            · rw [h1e 12 9 (by unfold XOw; omega), he 12 9 (by decide)]
            · rw [h1e 17 i (by unfold XOw; omega), he 17 i (by omega), h1e 18 i (by unfold XOw; omega), he 18 i (by omega)]
              exact ⟨rfl, rfl⟩
        case pos =>
          -- again
          rw [cif_t k10] at eF
          have c10 : S0 94 o = 10 := by rw [← sr 94 o (by decide) (by decide)]; exact k10
          obtain ⟨w', ew, nd'⟩ := nd.2.2 c10
          have ri := RGn_in r l w' nd'
          have s99 : S 99 o = S0 99 o := sr 99 o (by decide) (by decide)
          have oe := nd.1
          rw [s99] at eF
          have a20 := oks.2.2.2.2.2.2 k10
          have tx10 : g (t + 1) o = S 94 o ∧ g (t + 3) o = S 95 o ∧ g (t + 5) o = 0 := by
            unfold TXr at txg
            rw [u94, u95] at txg
            have := txg.2.2.2.2.2.2.2.2.2 k10
            exact ⟨txg.1, this.1, this.2⟩
          have g9 : g 12 9 = dp := by rw [he 12 9 (by decide)]; exact sq.1
          refine b_X1_doOrder hst ht hc ⟨o0, o0, o0, ?_⟩
          rw [tx10.1, tx10.2.1, tx10.2.2, k10]
          refine ⟨fun z => absurd z (by decide), fun z => absurd z (by decide), fun z => absurd z (by decide), fun z => absurd z (by decide), fun z => absurd z (by decide), fun z => absurd z (by decide), fun z => absurd z (by decide), fun z => absurd z (by decide), fun z => absurd z (by decide), fun z => absurd z (by decide), fun _ => ?_, fun z => absurd z (by decide)⟩
          refine b_X1_beginAgain hst ?_
          rw [g9]
          refine ⟨fun z => absurd z (by omega), fun _ => ⟨⟨by omega, by omega⟩, fun h2 d2 => ?_⟩⟩
          have h29 : h2 12 9 = dp := by rw [d2, qup_of (by omega)]; exact g9
          rw [h29]
          refine ⟨⟨by omega, by omega⟩, fun h4 d4 => ?_⟩
          have h49 : h4 12 9 = dp := by rw [d4, qup_of (by omega)]; exact h29
          rw [h49]
          refine ⟨⟨by omega, by omega⟩, fun h5 d5 => ?_⟩
          have h5e : ∀ a x, ¬ (a = 17 ∧ x = dp) → ¬ (a = 18 ∧ x = dp) → ¬ (a = 12 ∧ x = 9) → h5 a x = g a x := fun a x q q2 q3 => by rw [d5, qup_of q3, d4, qup_of q2, d2, qup_of q]
          have h517 : h5 17 dp = o := by rw [d5, qup_of (by omega), d4, qup_of (by omega), d2, qup_at]
          have h518 : h5 18 dp = S 95 o := by rw [d5, qup_of (by omega), d4, qup_at]
          have h59 : h5 12 9 = dp + 1 := by rw [d5, qup_at]
          have h512 : h5 12 12 = h 12 12 := by rw [h5e 12 12 (by omega) (by omega) (by omega), he 12 12 (by decide)]
          refine b_X1_doOrder_245 hst ht ?_
          rw [h5e (t + 1) o (by omega) (by omega) (by omega), tx10.1, h512]
          refine ⟨o0, fun _ => ⟨⟨by omega, by omega⟩, fun h6 d6 => ?_⟩, fun z => absurd z (by omega)⟩
          have h6e : ∀ a x, ¬ (a = 17 ∧ x = dp) → ¬ (a = 18 ∧ x = dp) → ¬ (a = 12 ∧ x = 9) → h6 a x = g a x := fun a x q q2 q3 => by
            rw [d6]
            by_cases y : a = 12 ∧ x = 12
            · rw [y.1, y.2, qup_at, he 12 12 (by decide)]; omega
            · rw [qup_of y, h5e a x q q2 q3]
          have h617 : h6 17 dp = o := by rw [d6, qup_of (by omega)]; exact h517
          have h618 : h6 18 dp = S 95 o := by rw [d6, qup_of (by omega)]; exact h518
          have h69 : h6 12 9 = dp + 1 := by rw [d6, qup_of (by omega)]; exact h59
          have xo6 : XOr c U h6 := XOr_fr xg (fun _ _ _ => rfl) (fun a x q => h6e a x (by omega) (by omega) (by omega))
          have f6 : Fr (XLw c S0) hb h6 := fun a x q => by
            rw [h6e a x (fun y => q (by unfold XLw; omega)) (fun y => q (by unfold XLw; omega)) (fun y => q (by unfold XLw; omega))]
            exact fg a x q
          have h611 : h6 12 11 = U 78 64 := by rw [h6e 12 11 (by omega) (by omega) (by omega), h11, s64, x11']
          have sqa : ∀ (hh : qM) (lv : Int), hh 12 9 = dp + 1 → hh 17 dp = o → hh 18 dp = lv → (∀ i, 0 ≤ i → i < dp → hh 17 i = ag i ∧ hh 18 i = lf i) → stkQ (dp + 1) (fun i => if i = dp then o else ag i) (fun i => if i = dp then lv else lf i) hh := fun hh lv p1 p2 p3 p4 => by
            refine ⟨p1, fun i a b => ?_⟩
            (try dsimp only)
            by_cases z : i = dp
            · rw [if_pos z, if_pos z, z]; exact ⟨p2, p3⟩
            · rw [if_neg z, if_neg z]; exact p4 i a (by omega)
          refine b_X1_doLine_113 hst ht hc ⟨fun z => ⟨⟨by omega, by omega⟩, ⟨by omega, by omega⟩, ?_⟩, fun z => ?_⟩
          · -- the rounds
            have rounds : ∀ (j : Nat) (i : Int) (V g : qM) (vv : Int), i + j = S 95 o → 0 ≤ i → i < S 95 o → SK W S0 V → V 78 67 = 0 → XLr c S0 hb V g → stkQ (dp + 1) (fun x => if x = dp then o else ag x) (fun x => if x = dp then S 95 o - i else lf x) g → 0 ≤ vv → vv + (smL dp lf + (S 95 o - i)) ≤ 21 * V 78 64 → fo (fun _ V => cif (V 78 67 = 0) (rec (o + 1) (S0 99 o) V) V) i (S 95 o) V = stpF rec o S → EvV X (d + 6) mX1_doLine 26 [(2, 12), (2, t), (2, c), (8, -1), (0, te), (0, o + 1), (0, vv)] [] sh pt g K := by
              intro j
              induction j with
              | zero => intro i V g vv e i0 i1; omega
              | succ j ih2 =>
                intro i V g vv ej i0 i1 kV v0' xV sV vv0 vvb eV
                have lp0 : ∀ x, 0 ≤ x → x < dp + 1 → 0 ≤ (fun x => if x = dp then S 95 o - i else lf x) x := fun x p q => by
                  (try dsimp only)
                  by_cases z : x = dp
                  · rw [if_pos z]; omega
                  · rw [if_neg z]; exact lf0 x p (by omega)
                have sme := smL_push (dp := dp) (a := S 95 o - i) (o := o) (lf := lf) dp0 (by omega)
                refine hr w' ew (o + 1) (S0 99 o) V g vv (dp + 1) _ _ kV ri v0' (by omega) xV sV (by omega) (by omega) (fun _ => ?_) (fun z => by omega) (by omega) vv0 lp0 (by rw [sme]; exact vvb) (fun h1 v1 r0 xr sr1 v10 v1b => ?_) (fun h1 rz xr => ?_)
                · (try dsimp only)
                  rw [show dp + 1 - 1 = dp by omega, if_pos rfl]
                  exact ⟨⟨by omega, by omega⟩, rfl⟩
                · -- behind a round
                  have kR := hk w' ew _ _ V kV v0' ri
                  have nx : fo (fun _ V => cif (V 78 67 = 0) (rec (o + 1) (S0 99 o) V) V) (i + 1) (S 95 o) (rec (o + 1) (S0 99 o) V) = stpF rec o S := by rw [← eV, fo_step (n := S 95 o) i1, cif_t v0']
                  rw [sme] at v1b
                  generalize rec (o + 1) (S0 99 o) V = R at *
                  have q9 := sr1.1
                  have qd := sr1.2 dp dp0 (by omega)
                  (try dsimp only at qd)
                  rw [if_pos rfl, if_pos rfl] at qd
                  have r3 := kR.1.2.2.1
                  have h10z : h1 12 0 = 0 := by rw [xr.1.2.2.1]; exact r0
                  have sb0 := smL_nn lf0
                  have t6 : h1 (t + 6) o = S0 99 o := by
                    have z := (txb o (by omega) (by omega)).2.2.1
                    have := tc 6 (by decide) (by decide)
                    rw [xr.2.1 (t + 6) o (by unfold XLw; omega)]
                    exact z
                  have spop : ∀ i', 0 ≤ i' → i' < dp → h1 17 i' = ag i' ∧ h1 18 i' = lf i' := fun i' p q => by
                    have := sr1.2 i' p (by omega)
                    (try dsimp only at this)
                    rw [if_neg (by omega), if_neg (by omega)] at this
                    exact this
                  refine b_X1_doLine_26 hst ht hc ⟨fun z => absurd z (by omega), fun _ => ⟨fun z => absurd h10z z, fun _ => ?_⟩⟩
                  rw [q9, show dp + 1 - 1 = dp by omega, qd.1, t6]
                  refine ⟨fun z => absurd z (by omega), fun _ => ⟨⟨by omega, by omega⟩, ⟨by omega, by omega⟩, o0, fun z => absurd rfl z, fun _ => ?_⟩⟩
                  refine b_X1_behindRound hst ?_
                  rw [q9, show dp + 1 - 1 = dp by omega, qd.2]
                  refine ⟨⟨by omega, by omega⟩, ⟨by omega, by omega⟩, ⟨by omega, by omega⟩, ⟨by omega, by omega⟩, fun h3 d3 => ?_⟩
                  have h3e : ∀ a x, ¬ (a = 18 ∧ x = dp) → h3 a x = h1 a x := fun a x q => by rw [d3, qup_of q]
                  have h39 : h3 12 9 = dp + 1 := by rw [h3e 12 9 (by omega)]; exact q9
                  have h318 : h3 18 dp = S 95 o - i - 1 := by rw [d3, qup_at]
                  have h317 : h3 17 dp = o := by rw [h3e 17 dp (by omega)]; exact qd.1
                  rw [h39, show dp + 1 - 1 = dp by omega, h318, h317]
                  refine ⟨⟨by omega, by omega⟩, ⟨by omega, by omega⟩, fun z => ⟨⟨by omega, by omega⟩, fun h5 d5 => ⟨⟨by omega, by omega⟩, ?_⟩⟩, fun z => ⟨⟨by omega, by omega⟩, ⟨by omega, by omega⟩, ⟨by omega, by omega⟩, ⟨by omega, by omega⟩, ?_⟩⟩
                  · -- the last one
                    have ei : i + 1 = S 95 o := by omega
                    rw [ei, fo_end (by omega)] at nx
                    rw [← nx] at kc ke sk
                    have h5e : ∀ a x, ¬ (a = 18 ∧ x = dp) → ¬ (a = 12 ∧ x = 9) → h5 a x = h1 a x := fun a x q q2 => by rw [d5, qup_of q2, h3e a x q]
                    have f5 : Fr (XLw c S0) hb h5 := fun a x q => by
                      rw [h5e a x (fun y => q (by unfold XLw; omega)) (fun y => q (by unfold XLw; omega))]
                      exact xr.2.1 a x q
                    refine ih (S0 99 o) to R h5 (v1 + 1) dp ag lf (by omega) kR rn r0 (by omega) ⟨XOr_fr xr.1 (fun _ _ _ => rfl) (fun a x q => h5e a x (by omega) (by omega)), f5, fun y => ?_, fun y => absurd r0 y⟩ ⟨by rw [d5, qup_at], fun i' p q => ?_⟩ dp0 dpw ci cz tt (by omega) lf0 (by omega) kc ke
                    · exact ⟨by rw [h5e 12 11 (by omega) (by omega)]; exact (xr.2.2.1 y).1, by rw [h5e 12 1 (by omega) (by omega)]; exact (xr.2.2.1 y).2⟩
                    · rw [h5e 17 i' (by omega) (by omega), h5e 18 i' (by omega) (by omega)]
                      exact spop i' p q
                  · -- one more
                    have f3 : Fr (XLw c S0) hb h3 := fun a x q => by
                      rw [h3e a x (fun y => q (by unfold XLw; omega))]
                      exact xr.2.1 a x q
                    refine ih2 (i + 1) R h3 (v1 + 1) (by omega) (by omega) (by omega) kR r0 ⟨XOr_fr xr.1 (fun _ _ _ => rfl) (fun a x q => h3e a x (by omega)), f3, fun y => ⟨by rw [h3e 12 11 (by omega)]; exact (xr.2.2.1 y).1, by rw [h3e 12 1 (by omega)]; exact (xr.2.2.1 y).2⟩, fun y => absurd r0 y⟩ (sqa h3 _ h39 h317 (by rw [h318]; omega) (fun i' p q => ?_)) (by omega) (by omega) nx
                    rw [h3e 17 i' (by omega), h3e 18 i' (by omega)]
                    exact spop i' p q
                · -- an error within
                  have nx : rec (o + 1) (S0 99 o) V = stpF rec o S := by
                    rw [← eV, fo_step (n := S 95 o) i1, cif_t v0']
                    exact (itn_err rz).symm
                  rw [nx] at rz xr
                  have er2 : rlp (stpF rec) n (S0 99 o) to (stpF rec o S) = stpF rec o S := by
                    cases n with
                    | zero => rfl
                    | succ n => rw [rlp, cif_f (fun y => rz y.2)]
                  rw [er2] at ke
                  exact ke h1 rz xr
            refine rounds (S 95 o).toNat 0 U h6 (v + 1) (by omega) (by decide) (by omega) kd.1 u0 ⟨xo6, f6, fun _ => ⟨h611, by rw [h6e 12 1 (by omega) (by omega) (by omega), he 12 1 (by decide)]; exact x1'⟩, fun y => absurd u0 y⟩ (sqa h6 _ h69 h617 (by rw [h618]; omega) (fun i' p q => ?_)) (by omega) (by omega) (by rw [eF]; rfl)
            rw [h6e 17 i' (by omega) (by omega) (by omega), h6e 18 i' (by omega) (by omega) (by omega), he 17 i' (by omega), he 18 i' (by omega)]
            exact sq.2 i' p q
          · have : h6 12 0 = 0 := by rw [xo6.2.2.1]; exact u0
            exact absurd this z
    refine b_X1_doLine_26 hst ht hc ⟨fun z => absurd z (by omega), fun _ => ⟨fun z => absurd h00 z, fun _ => ⟨fun _ => go80, fun z => ?_⟩⟩⟩
    have sd := sq.1
    have cc := ci (by omega)
    have s1 := sq.2 (dp - 1) (by omega) (by omega)
    have t6 : h (t + 6) (ag (dp - 1)) = to := by
      rw [fh 6 _ (by decide) (by decide)]
      rw [(txb (ag (dp - 1)) cc.1.1 cc.1.2).2.2.1]
      exact cc.2
    rw [sd, s1.1, t6]
    exact ⟨⟨by omega, by omega⟩, ⟨by omega, by omega⟩, ⟨by omega, by omega⟩, fun _ => go80, fun y => absurd y (by omega)⟩
end
