/-! who fills in: the class's search for one more -/
section
variable {X : qX} {d : Nat} {sh : qS} {pt h : qM} {P M first w : Int} {C : Int → Int → Prop} {Bd : Int → Prop} {fl e q ab : Int → Int} {pr : Int → Prop}
noncomputable def eB (Bd : Int → Prop) (e : Int → Int) (p : Int) : Int := cif (Bd p) (-1) (e p)
theorem eB_t {Bd : Int → Prop} {e : Int → Int} {p : Int} (h : Bd p) : eB Bd e p = -1 := cif_t h
theorem eB_f {Bd : Int → Prop} {e : Int → Int} {p : Int} (h : ¬ Bd p) : eB Bd e p = e p := cif_f h
theorem QI_w (f0 : 0 ≤ first) (M0 : 0 ≤ M) (w0 : 0 ≤ w) (qi : QI P M first C Bd fl e q ab w pr) : w ≤ M := by
  have s := NT_inj (f := q) (b := M.toNat) w.toNat (fun _ => True) (fun _ => True) (fun i a b _ => by
    have := qi.1 i a (by omega)
    exact ⟨by omega, by omega, trivial⟩) (fun i j a b c e _ _ y => qi.2.1 i j a (by omega) c (by omega) y)
  have s1 := NT_all (P := fun _ => True) w.toNat (fun _ _ _ => trivial)
  have s2 := (NT_bd (P := fun _ => True) M.toNat).2
  omega
def rsX (h : qM) (P M : Int) (C : Int → Int → Prop) : Prop := (h 30 0 = P ∧ 0 ≤ P ∧ P ≤ 16) ∧ (h 30 13 = M ∧ 0 ≤ M ∧ M ≤ 20) ∧ ∀ j, 0 ≤ j → j < M → (0 ≤ h 37 j ∧ h 37 j ≤ 2147483647) ∧ ∀ p, 0 ≤ p → p < P → (tb (h 37 j) p = true ↔ C j p)
def PO2 (a _ : Int) : Prop := a = 39 ∨ a = 40
def PO4 (a _ : Int) : Prop := a = 31 ∨ a = 38 ∨ a = 39 ∨ a = 40
theorem rsX_fr {h1 : qM} (r : rsX h P M C) (f : Fr PO4 h h1) : rsX h1 P M C := by
  obtain ⟨r1, r2, r3⟩ := r
  refine ⟨⟨by rw [f _ _ (by unfold PO4; omega)]; exact r1.1, r1.2⟩, ⟨by rw [f _ _ (by unfold PO4; omega)]; exact r2.1, r2.2⟩, fun j a b => ?_⟩
  rw [f _ _ (by unfold PO4; omega)]
  exact r3 j a b
/-- what fillOneMore leaves, where it fills one -/
def fomT (h h2 : qM) (P M first : Int) (C : Int → Int → Prop) (Bd : Int → Prop) : Prop := Fr PO4 h h2 ∧ CN P M (h2 31) (h2 38) ∧ (∀ p, 0 ≤ p → p < P → Bd p → h2 38 p = h 38 p) ∧ (∀ j, 0 ≤ j → j < first → h2 31 j = h 31 j) ∧ (∀ p, 0 ≤ p → p < P → h2 38 p ≠ -1 → ¬ Bd p → first ≤ h2 38 p ∧ C (h2 38 p) p) ∧ nB P Bd (h2 38) = nB P Bd (h 38) + 1
theorem x_fom {K : Int → qM → Prop} {b : Int} (hst : St sh pt) (rs : rsX h P M C) (f0 : 0 ≤ first) (f1 : first ≤ M) (b0 : 0 ≤ b) (b1 : b ≤ 2147483647) (hb : ∀ p, 0 ≤ p → p < P → (tb b p = true ↔ Bd p)) (cn : CN P M (h 31) (h 38)) (s1 : sub1 P M first C Bd (h 38))
    (k1 : ∀ h2, fomT h h2 P M first C Bd → K 1 h2) (k0 : ∀ h2, Fr PO2 h h2 → isMx P first M (avS C Bd) (nB P Bd (h 38)) → K 0 h2) : RunI X (d + 2) mX5_fillOneMore [(2, 30), (0, first), (0, b)] sh pt h K := by
  obtain ⟨r1, r2, r3⟩ := id rs
  have u2 : ∀ h1 : qM, Fr PO2 h h1 → rsX h1 P M C ∧ h1 31 = h 31 ∧ h1 38 = h 38 := fun h1 f => ⟨rsX_fr rs (f.wk (fun a i q => by unfold PO2 at q; unfold PO4; omega)), by funext t; exact f _ _ (by unfold PO2; omega), by funext t; exact f _ _ (by unfold PO2; omega)⟩
  have main : ∀ (n : Nat) (hd w a : Int) (h1 : qM) (pr : Int → Prop), hd + n = 21 → 0 ≤ hd → hd ≤ w → Fr PO2 h h1 → QI P M first C Bd (h 31) (h 38) (h1 39) (h1 40) w pr → (∀ i, 0 ≤ i → i < hd → ∀ p, 0 ≤ p → p < P → C (h1 39 i) p → ¬ Bd p → pr p) → 0 ≤ a → a ≤ 2147483647 → (∀ p, 0 ≤ p → p < P → (tb a p = true ↔ (Bd p ∨ pr p))) → EvI X (d + 2) mX5_fillOneMore 48 [(2, 30), (8, -1), (8, -1), (0, w), (0, a), (0, hd), (8, -1), (8, -1), (8, -1)] [] sh pt h1 K := by
    intro n
    induction n with
    | zero =>
      intro hd w a h1 pr e hd0 hw f qi
      have := QI_w f0 r2.2.1 (by omega) qi
      omega
    | succ n ih =>
      intro hd w a h1 pr en hd0 hw f qi i6 a0 a1 ha
      obtain ⟨rs1, e31, e38⟩ := u2 h1 f
      have wM := QI_w f0 r2.2.1 (by omega) qi
      by_cases c : w ≤ hd
      · have ew : hd = w := by omega
        refine b_X5_fillOneMore_48 hst ⟨fun _ => k0 h1 f ?_, fun z => absurd z (by omega)⟩
        -- no one more: a greatest one
        obtain ⟨q1, q2, q3, q4, q5⟩ := qi
        have nbv : nB P Bd (h 38) = sz P (eB Bd (h 38)) := by
          unfold nB sz
          refine NT_same _ (fun t x y => ?_)
          by_cases z : Bd t
          · rw [eB_t z]
            exact ⟨fun g => absurd z g.2, fun g => absurd rfl g⟩
          · rw [eB_f z]
            exact ⟨fun g => g.1, fun g => ⟨g, z⟩⟩
        rw [nbv]
        refine kon (A := pr) (R := fun j => ∃ i, 0 ≤ i ∧ i < w ∧ h1 39 i = j) f0 ⟨fun p x y z => ?_, fun p r x y x2 y2 z g => ?_⟩ (fun j p x y ⟨i, v1, v2, v3⟩ x2 y2 av => ?_) (fun p x y z => ?_) (fun j x y z => ?_)
        · by_cases g : Bd p
          · rw [eB_t g] at z; exact absurd rfl z
          · rw [eB_f g] at z ⊢
            have m1 := s1.1 p x y z g
            rcases cn.1 p x y with m2 | m2
            · exact absurd m2 z
            · exact ⟨m1.1, m2.1.2, m1.2, g⟩
        · by_cases g1 : Bd p
          · rw [eB_t g1] at z; exact absurd rfl z
          · rw [eB_f g1] at z g
            by_cases g2 : Bd r
            · rw [eB_t g2] at g; exact absurd g z
            · rw [eB_f g2] at g
              rcases cn.1 p x y with m2 | m2
              · exact absurd m2 z
              · rcases cn.1 r x2 y2 with m3 | m3
                · rw [← g] at m3; exact absurd m3 z
                · rw [← m2.2, g, m3.2]
        · rw [← v3] at av
          exact i6 i v1 (by omega) p x2 y2 av.1 av.2
        · obtain ⟨g1, g2, i, k', g3, g4, g5, g6, g7, g8⟩ := q4 p x y z
          rw [eB_f g1]
          exact ⟨g2, k', by omega, g5, g8⟩
        · by_cases g : h 31 j = -1
          · exact absurd (q3 j x y g) z
          · rcases cn.2 j (by omega) y with m | m
            · exact absurd m g
            · refine ⟨h 31 j, m.1.1, m.1.2, ?_⟩
              have nb : ¬ Bd (h 31 j) := fun g2 => by
                have := s1.2 _ m.1.1 m.1.2 (by rw [m.2]; omega) g2
                rw [m.2] at this
                omega
              rw [eB_f nb]
              exact m.2
      · have qh := qi.1 hd hd0 (by omega)
        have rc := rs1.2.2 (h1 39 hd) (by omega) qh.2
        refine b_X5_fillOneMore_48 hst ⟨fun z => absurd z c, fun _ => ⟨by omega, by omega, fun x3 ex => ?_⟩⟩
        have an := q_andnot (s := h1 37 (h1 39 hd)) (t := a) rc.1.1 rc.1.2 a0 a1
        rw [← ex] at an
        have orr := qor_tb (s := a) (t := x3) a0 a1 an.1 (by omega)
        have x3p : ∀ p, 0 ≤ p → p < P → (tb x3 p = true ↔ C (h1 39 hd) p ∧ ¬ Bd p ∧ ¬ pr p) := fun p p0 p1 => by
          rw [an.2.2 p p0]
          have y1 := rc.2 p p0 p1
          have y2 := ha p p0 p1
          rw [Bool.and_eq_true, y1, Bool.not_eq_true', ← Bool.not_eq_true, y2]
          exact ⟨fun z => ⟨z.1, fun g => z.2 (Or.inl g), fun g => z.2 (Or.inr g)⟩, fun z => ⟨z.1, fun g => by
            rcases g with g | g
            · exact z.2.1 g
            · exact z.2.2 g⟩⟩
        generalize emm : h1 39 hd = mm at *
        refine lp (σ := Int × qM) (J := fun p s => Fr PO2 h s.2 ∧ hd < s.1 ∧ (∀ i, 0 ≤ i → i < w → s.2 39 i = h1 39 i) ∧ w ≤ s.1 ∧ QI P M first C Bd (h 31) (h 38) (s.2 39) (s.2 40) s.1 (fun r => pr r ∨ (r < p ∧ tb x3 r = true))) (C := fun p s => EvI X (d + 2) mX5_fillOneMore 87 [(2, 30), (8, -1), (8, -1), (0, s.1), (0, qior a x3), (0, hd), (0, mm), (0, x3), (0, p)] [] sh pt s.2 K) (n := P) r1.2.1 ?_ ?_ (w, h1) ?_
        · intro p ⟨w2, h2⟩ p0 p1 ⟨f2, g1, g2, g3, qi2⟩ kk
          dsimp only at f2 g1 g2 g3 qi2 ⊢
          obtain ⟨rs2, e312, e382⟩ := u2 h2 f2
          have w2M := QI_w f0 r2.2.1 (by omega) qi2
          have bit := q_bitU (s := x3) (m := p) an.1 (by omega) p0 (by omega)
          have qhd2 : h2 39 hd = mm := by rw [g2 hd hd0 (by omega)]; exact emm
          refine b_X5_fillOneMore_87 hst ⟨fun z => absurd z (by rw [rs2.1.1]; omega), fun _ => ⟨fun z => ⟨⟨by omega, by omega⟩, kk (w2, h2) ⟨f2, g1, g2, g3, ?_⟩⟩, fun z => ⟨by omega, fun h3 e3 => ⟨by omega, ?_⟩⟩⟩⟩
          · have nt : ¬ tb x3 p = true := fun t => by rw [bit, if_pos t] at z; exact absurd z (by decide)
            have es : (fun r => pr r ∨ (r < p + 1 ∧ tb x3 r = true)) = fun r => pr r ∨ (r < p ∧ tb x3 r = true) := by
              funext r
              apply propext
              constructor
              · intro y
                rcases y with y | y
                · exact Or.inl y
                · by_cases g : r = p
                  · rw [g] at y; exact absurd y.2 nt
                  · exact Or.inr ⟨by omega, y.2⟩
              · intro y
                rcases y with y | y
                · exact Or.inl y
                · exact Or.inr ⟨by omega, y.2⟩
            rw [es]
            exact qi2
          · have t3 : tb x3 p = true := by
              by_cases t : tb x3 p = true
              · exact t
              · rw [bit, if_neg t] at z; exact absurd rfl z
            obtain ⟨cmp, nbp, npr⟩ := (x3p p p0 p1).mp t3
            have npr2 : ¬ (pr p ∨ (p < p ∧ tb x3 p = true)) := fun y => by
              rcases y with y | y
              · exact npr y
              · have := y.1; omega
            have e383 : h3 38 p = h 38 p := by rw [e3, qup_of (by omega), e382]
            have q39 : h3 39 = h2 39 := by funext t; rw [e3, qup_of (by omega)]
            have r40 : h3 40 = rup (h2 40) p mm := by funext t; rw [e3, qup_qrow, qrow_rw]
            have f3 : Fr PO2 h h3 := by rw [e3]; exact f2.up (Or.inr rfl)
            obtain ⟨q1, q2, q3, q4, q5⟩ := qi2
            have q4' : ∀ r, 0 ≤ r → r < P → (pr r ∨ (r < p ∧ tb x3 r = true)) → ¬ Bd r ∧ h 38 r ≠ -1 ∧ ∃ i k, 0 ≤ i ∧ i < k ∧ k < w2 ∧ rup (h2 40) p mm r = h2 39 i ∧ C (h2 39 i) r ∧ h2 39 k = h 38 r := fun r x y v => by
              obtain ⟨m1, m2, i, k', m3, m4, m5, m6, m7, m8⟩ := q4 r x y v
              refine ⟨m1, m2, i, k', m3, m4, m5, ?_, m7, m8⟩
              rw [rup_of (fun g => npr2 (by rw [g] at v; exact v))]
              exact m6
            rw [e383]
            refine ⟨fun z2 => ?_, fun z2 => ?_⟩
            · -- one who has a part
              have ep : (0 ≤ h 38 p ∧ h 38 p < M) ∧ h 31 (h 38 p) = p := by
                rcases cn.1 p p0 p1 with m | m
                · exact absurd m z2
                · exact m
              have sb := s1.1 p p0 p1 z2 nbp
              have new : ∀ i, 0 ≤ i → i < w2 → h2 39 i ≠ h 38 p := fun i x y g => by
                rcases q5 i x y with m | m
                · rw [g, ep.2] at m; omega
                · rw [g, ep.2] at m; exact npr2 m
              have qi3 : QI P M first C Bd (h 31) (h 38) (rup (h2 39) w2 (h 38 p)) (rup (h2 40) p mm) (w2 + 1) (fun r => pr r ∨ (r < p + 1 ∧ tb x3 r = true)) := by
                refine ⟨fun i x y => ?_, fun i k' x y x2 y2 g => ?_, fun j x y g => ?_, fun r x y g => ?_, fun i x y => ?_⟩
                · by_cases g : i = w2
                  · rw [g, rup_at]; exact ⟨sb.1, ep.1.2⟩
                  · rw [rup_of g]; exact q1 i x (by omega)
                · by_cases m1 : i = w2
                  · by_cases m2 : k' = w2
                    · rw [m1, m2]
                    · rw [m1, rup_at, rup_of m2] at g
                      exact absurd g.symm (new k' x2 (by omega))
                  · rw [rup_of m1] at g
                    by_cases m2 : k' = w2
                    · rw [m2, rup_at] at g
                      exact absurd g (new i x (by omega))
                    · rw [rup_of m2] at g
                      exact q2 i k' x (by omega) x2 (by omega) g
                · obtain ⟨i, m1, m2, m3⟩ := q3 j x y g
                  exact ⟨i, m1, by omega, by rw [rup_of (by omega)]; exact m3⟩
                · by_cases m : r = p
                  · rw [m]
                    refine ⟨nbp, z2, hd, w2, hd0, g1, by omega, ?_, ?_, rup_at⟩
                    · rw [rup_at, rup_of (by omega), qhd2]
                    · rw [rup_of (by omega), qhd2]; exact cmp
                  · have g' : pr r ∨ (r < p ∧ tb x3 r = true) := by
                      rcases g with g | g
                      · exact Or.inl g
                      · exact Or.inr ⟨by omega, g.2⟩
                    obtain ⟨m1, m2, i, k', m3, m4, m5, m6, m7, m8⟩ := q4' r x y g'
                    refine ⟨m1, m2, i, k', m3, m4, by omega, ?_, ?_, ?_⟩
                    · rw [rup_of (show ¬ i = w2 by omega)]; exact m6
                    · rw [rup_of (show ¬ i = w2 by omega)]; exact m7
                    · rw [rup_of (show ¬ k' = w2 by omega)]; exact m8
                · by_cases g : i = w2
                  · rw [g, rup_at, ep.2]
                    exact Or.inr (Or.inr ⟨by omega, t3⟩)
                  · rw [rup_of g]
                    rcases q5 i x (by omega) with m | m | m
                    · exact Or.inl m
                    · exact Or.inr (Or.inl m)
                    · exact Or.inr (Or.inr ⟨by omega, m.2⟩)
              have w3 := QI_w f0 r2.2.1 (by omega) qi3
              refine ⟨fun y => absurd y (by omega), fun y => ⟨by omega, by omega, fun h6 e6 => ⟨⟨by omega, by omega⟩, ⟨by omega, by omega⟩, kk (w2 + 1, h6) ⟨by rw [e6]; exact f3.up (Or.inl rfl), by dsimp only; omega, fun i x y => ?_, by dsimp only; omega, ?_⟩⟩⟩⟩
              · dsimp only
                rw [e6, qup_of (by omega), q39]
                exact g2 i x y
              · dsimp only
                have r39 : h6 39 = rup (h2 39) w2 (h 38 p) := by funext t; rw [e6, qup_qrow, qrow_rw, q39]
                have r406 : h6 40 = rup (h2 40) p mm := by funext t; rw [e6, qup_of (by omega), r40]
                rw [r39, r406]
                exact qi3
            · -- one who is free
              have e313 : h3 31 = h 31 := by funext t; rw [e3, qup_of (by omega), e312]
              have e38r : h3 38 = h 38 := by funext t; rw [e3, qup_of (by omega), e382]
              have qi3 : QI P M first C Bd (h 31) (h 38) (h2 39) (rup (h2 40) p mm) w2 (fun r => pr r ∨ (r < p ∧ tb x3 r = true)) := ⟨q1, q2, q3, q4', q5⟩
              have n0 : NT (fun r => (h 38 r ≠ -1 ∧ ¬ Bd r) ∧ r ≠ p) P.toNat = nB P Bd (h 38) := by
                unfold nB
                refine NT_same _ (fun t x y => ⟨fun g => g.1, fun g => ⟨g, fun m => g.1 (by rw [m]; exact z2)⟩⟩)
              refine b_X5_handOn hst (x_handOn_l (N0 := nB P Bd (h 38)) hst r1.2.2 r2.2.2 f0 cn qi3 (by rw [r40]) (fun h7 f7 y1 y2 y3 y4 y5 => ?_) 21 p hd 0 h3 (by omega) (by decide) (by omega) Fr.rf ?_)
              · refine k1 h7 ⟨fun a i z => ?_, y1, y2, y3, y4, y5⟩
                rw [f7 _ _ (by unfold PO4 at z; unfold PO; omega), f3 _ _ (by unfold PO4 at z; unfold PO2; omega)]
              · rw [e313, e38r]
                refine ⟨fun j _ => rfl, fun j x y => ?_, fun r x y _ => cn.1 r x y, ⟨⟨p0, p1⟩, nbp, by rw [rup_at]; exact qhd2.symm, by rw [qhd2]; exact cmp⟩, fun r _ _ _ => rfl, fun r x y _ g b => s1.1 r x y g b, n0, hd0, g1⟩
                rcases cn.2 j x y with m | m
                · exact Or.inl m
                · exact Or.inr ⟨m.1, m.2, fun g => by have := m.2; rw [g, z2] at this; omega⟩
        · intro ⟨w2, h2⟩ ⟨f2, g1, g2, g3, qi2⟩
          dsimp only at f2 g1 g2 g3 qi2 ⊢
          obtain ⟨rs2, e312, e382⟩ := u2 h2 f2
          refine b_X5_fillOneMore_87 hst ⟨fun _ => ⟨⟨by omega, by omega⟩, ih (hd + 1) w2 (qior a x3) h2 (fun r => pr r ∨ (r < P ∧ tb x3 r = true)) (by omega) (by omega) (by omega) f2 qi2 (fun i x y p p0 p1 cc nb => ?_) orr.1 orr.2.1 (fun p p0 p1 => ?_)⟩, fun z => absurd z (by rw [rs2.1.1]; omega)⟩
          · by_cases g : i = hd
            · rw [g, g2 hd hd0 (by omega), emm] at cc
              by_cases m : pr p
              · exact Or.inl m
              · exact Or.inr ⟨p1, (x3p p p0 p1).mpr ⟨cc, nb, m⟩⟩
            · rw [g2 i x (by omega)] at cc
              exact Or.inl (i6 i x (by omega) p p0 p1 cc nb)
          · rw [orr.2.2 p, Bool.or_eq_true, ha p p0 p1]
            constructor
            · intro y
              rcases y with (y | y) | y
              · exact Or.inl y
              · exact Or.inr (Or.inl y)
              · exact Or.inr (Or.inr ⟨p1, y⟩)
            · intro y
              rcases y with y | y | y
              · exact Or.inl (Or.inl y)
              · exact Or.inl (Or.inr y)
              · exact Or.inr y.2
        · refine ⟨f, by dsimp only; omega, fun i _ _ => rfl, Int.le_refl _, ?_⟩
          dsimp only
          have es : (fun r => pr r ∨ (r < 0 ∧ tb x3 r = true)) = fun r => pr r ∨ (r < 0 ∧ tb x3 r = true) := rfl
          obtain ⟨q1, q2, q3, q4, q5⟩ := qi
          refine ⟨q1, q2, q3, fun p x y z => ?_, fun i x y => ?_⟩
          · rcases z with z | z
            · exact q4 p x y z
            · omega
          · rcases q5 i x y with z | z
            · exact Or.inl z
            · exact Or.inr (Or.inl z)
  refine b_X5_fillOneMore hst ?_
  refine lp (σ := Int × qM) (J := fun m s => Fr PO2 h s.2 ∧ (0 ≤ s.1 ∧ s.1 ≤ m - first) ∧ (∀ i, 0 ≤ i → i < s.1 → (first ≤ s.2 39 i ∧ s.2 39 i < m) ∧ h 31 (s.2 39 i) = -1) ∧ (∀ i k, 0 ≤ i → i < s.1 → 0 ≤ k → k < s.1 → s.2 39 i = s.2 39 k → i = k) ∧ ∀ j, first ≤ j → j < m → h 31 j = -1 → ∃ i, 0 ≤ i ∧ i < s.1 ∧ s.2 39 i = j) (C := fun m s => EvI X (d + 2) mX5_fillOneMore 5 [(2, 30), (8, -1), (0, b), (0, s.1), (0, m), (8, -1), (8, -1), (8, -1), (8, -1)] [] sh pt s.2 K) (n := M) f1 ?_ ?_ (0, h) ?_
  · intro m ⟨w, h1⟩ m0 m1 ⟨f, g1, g2, g3, g4⟩ kk
    dsimp only at f g1 g2 g3 g4 ⊢
    obtain ⟨rs1, e31, e38⟩ := u2 h1 f
    refine b_X5_fillOneMore_5 hst ⟨fun z => absurd z (by rw [rs1.2.1.1]; omega), fun _ => ⟨by omega, ?_⟩⟩
    rw [e31]
    refine ⟨fun z => ⟨⟨by omega, by omega⟩, kk (w, h1) ⟨f, by dsimp only; omega, fun i x y => ?_, g3, fun j x y v => ?_⟩⟩, fun z => ⟨by omega, fun h3 e3 => ⟨⟨by omega, by omega⟩, ⟨by omega, by omega⟩, kk (w + 1, h3) ⟨by rw [e3]; exact f.up (Or.inl rfl), by dsimp only; omega, fun i x y => ?_, fun i k x y x2 y2 g => ?_, fun j x y v => ?_⟩⟩⟩⟩
    · have := g2 i x y
      exact ⟨by dsimp only; omega, this.2⟩
    · by_cases g : j = m
      · rw [g] at v; exact absurd v z
      · exact g4 j x (by omega) v
    · dsimp only at y ⊢
      by_cases g : i = w
      · rw [g, e3, qup_at]; exact ⟨by omega, z⟩
      · rw [e3, qup_of (by omega)]
        have := g2 i x (by omega)
        exact ⟨by omega, this.2⟩
    · dsimp only at y y2 g
      by_cases m1 : i = w
      · by_cases m2 : k = w
        · rw [m1, m2]
        · rw [m1, e3, qup_at, qup_of (by omega)] at g
          have := g2 k x2 (by omega)
          omega
      · by_cases m2 : k = w
        · rw [m2, e3, qup_at, qup_of (by omega)] at g
          have := g2 i x (by omega)
          omega
        · rw [e3, qup_of (by omega), qup_of (by omega)] at g
          exact g3 i k x (by omega) x2 (by omega) g
    · by_cases g : j = m
      · exact ⟨w, g1.1, by dsimp only; omega, by dsimp only; rw [e3, qup_at]; exact g.symm⟩
      · obtain ⟨i, x1, x2, x3⟩ := g4 j x (by omega) v
        exact ⟨i, x1, by dsimp only; omega, by dsimp only; rw [e3, qup_of (by omega)]; exact x3⟩
  · intro ⟨w, h1⟩ ⟨f, g1, g2, g3, g4⟩
    dsimp only at f g1 g2 g3 g4 ⊢
    obtain ⟨rs1, e31, e38⟩ := u2 h1 f
    refine b_X5_fillOneMore_5 hst ⟨fun _ => main 21 0 w b h1 (fun _ => False) (by decide) (by decide) g1.1 f ⟨fun i x y => (g2 i x y).1, g3, g4, fun p _ _ z => absurd z id, fun i x y => Or.inl (g2 i x y).2⟩ (fun i x y => absurd x (by omega)) b0 b1 (fun p x y => (hb p x y).trans ⟨Or.inl, fun z => ?_⟩), fun z => absurd z (by rw [rs1.2.1.1]; omega)⟩
    rcases z with z | z
    · exact z
    · exact absurd z id
  · refine ⟨Fr.rf, by dsimp only; omega, fun i x y => absurd x (by dsimp only at y; omega), fun i k x y => absurd x (by dsimp only at y; omega), fun j x y => absurd x (by omega)⟩
end
