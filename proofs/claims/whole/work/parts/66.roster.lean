/-! who fills in: the reference -/
def clo (P : Int) (av : Int → Int → Prop) (e : Int → Int) (A : Int → Prop) : Prop := ∀ p, 0 ≤ p → p < P → A p → e p ≠ -1 ∧ ∀ q, 0 ≤ q → q < P → av (e p) q → A q
def inj0 (P : Int) (e sn : Int → Int) : Prop := ∀ p q, 0 ≤ p → p < P → 0 ≤ q → q < P → sn p = 0 → sn q = 0 → e p ≠ -1 → e p = e q → p = q
def fT (P M : Int) (av : Int → Int → Prop) (e1 e2 sn : Int → Int) (j : Int) : Prop :=
  (∀ p, 0 ≤ p → p < P → sn p ≠ 0 → e2 p = e1 p) ∧ sz P e2 = sz P e1 + 1 ∧
  (∀ p, 0 ≤ p → p < P → e2 p ≠ e1 p → av (e2 p) p ∧ (0 ≤ e2 p ∧ e2 p < M) ∧ (e2 p = j ∨ ∃ q, 0 ≤ q ∧ q < P ∧ sn q = 0 ∧ e1 q = e2 p)) ∧
  (inj0 P e1 sn → (∀ p, 0 ≤ p → p < P → sn p = 0 → e1 p ≠ j) → inj0 P e2 sn) ∧
  (∀ A, clo P av e1 A → (∀ p, 0 ≤ p → p < P → A p → e2 p = e1 p) ∧ ¬ ∀ q, 0 ≤ q → q < P → av j q → A q) ∧
  (∃ p, 0 ≤ p ∧ p < P ∧ sn p = 0 ∧ e2 p = j) ∧ ∀ p, 0 ≤ p → p < P → e1 p ≠ -1 → ∃ q, 0 ≤ q ∧ q < P ∧ e2 q = e1 p
def fF (P : Int) (av : Int → Int → Prop) (e1 sn sn2 : Int → Int) (j : Int) : Prop := (∀ p, 0 ≤ p → p < P → sn p ≠ 0 → sn2 p ≠ 0) ∧ (∀ p, 0 ≤ p → p < P → av j p → sn2 p ≠ 0) ∧ ∀ p, 0 ≤ p → p < P → sn2 p ≠ 0 → sn p = 0 → e1 p ≠ -1 ∧ ∀ q, 0 ≤ q → q < P → av (e1 p) q → sn2 q ≠ 0
theorem fT_free {P M j p : Int} {av : Int → Int → Prop} {e1 sn : Int → Int} (p0 : 0 ≤ p) (p1 : p < P) (j0 : 0 ≤ j) (j1 : j < M) (sp : sn p = 0) (ha : av j p) (ep : e1 p = -1) : fT P M av e1 (rup e1 p j) sn j := by
  refine ⟨fun q a b c => rup_of (fun e => c (by rw [e]; exact sp)), sz_rup p0 p1 ep (by omega), fun q a b c => ?_, fun i n q r a b c d x y z w => ?_, fun A ca => ⟨fun q a b c => rup_of (fun e => ?_), fun z => ?_⟩, ⟨p, p0, p1, sp, rup_at⟩, fun q a b c => ⟨q, a, b, rup_of (fun e => c (by rw [e]; exact ep))⟩⟩
  · by_cases e : q = p
    · rw [e, rup_at]
      exact ⟨ha, ⟨j0, j1⟩, Or.inl rfl⟩
    · rw [rup_of e] at c
      exact absurd rfl c
  · by_cases e : q = p
    · by_cases e2 : r = p
      · rw [e, e2]
      · rw [e, rup_at, rup_of e2] at w
        exact absurd w.symm (n r c d y)
    · rw [rup_of e] at z w
      by_cases e2 : r = p
      · rw [e2, rup_at] at w
        exact absurd w (n q a b x)
      · rw [rup_of e2] at w
        exact i q r a b c d x y z w
  · rw [e] at c
    exact (ca p p0 p1 c).1 ep
  · exact (ca p p0 p1 (z p p0 p1 ha)).1 ep
theorem sz_re {P p v : Int} {e : Int → Int} (hp : e p ≠ -1) (hv : v ≠ -1) : sz P (rup e p v) = sz P e := by
  unfold sz
  refine NT_same _ (fun t _ _ => ?_)
  by_cases q : t = p
  · rw [q, rup_at]
    exact ⟨fun _ => hp, fun _ => hv⟩
  · rw [rup_of q]
theorem fT_rec {P M j p : Int} {av : Int → Int → Prop} {e1 e2 sn s6 : Int → Int} (p0 : 0 ≤ p) (p1 : p < P) (j0 : 0 ≤ j) (j1 : j < M) (sp : sn p = 0) (s6p : s6 p ≠ 0) (mo : ∀ q, 0 ≤ q → q < P → sn q ≠ 0 → s6 q ≠ 0) (ha : av j p) (ep : e1 p ≠ -1) (h : fT P M av e1 e2 s6 (e1 p)) : fT P M av e1 (rup e2 p j) sn j := by
  obtain ⟨t1, t2, t3, t4, t5, ⟨t6, t7, t8, t9, t10⟩, t11⟩ := h
  have mo0 : ∀ q, 0 ≤ q → q < P → s6 q = 0 → sn q = 0 := fun q a b c => Classical.byContradiction (fun z => mo q a b z c)
  have e2p : e2 p = e1 p := t1 p p0 p1 s6p
  refine ⟨fun q a b c => ?_, by rw [sz_re (by rw [e2p]; exact ep) (by omega)]; exact t2, fun q a b c => ?_, fun i n => ?_, fun A ca => ?_, ⟨p, p0, p1, sp, rup_at⟩, fun q a b c => ?_⟩
  · rw [rup_of (fun e => c (by rw [e]; exact sp))]
    exact t1 q a b (mo q a b c)
  · by_cases e : q = p
    · rw [e, rup_at]
      exact ⟨ha, ⟨j0, j1⟩, Or.inl rfl⟩
    · rw [rup_of e] at c ⊢
      obtain ⟨u1, u2, u3⟩ := t3 q a b c
      refine ⟨u1, u2, Or.inr ?_⟩
      rcases u3 with u3 | ⟨r, x, y, z, w⟩
      · exact ⟨p, p0, p1, sp, u3.symm⟩
      · exact ⟨r, x, y, mo0 r x y z, w⟩
  · have i6 : inj0 P e1 s6 := fun q r a b c d x y z w => i q r a b c d (mo0 q a b x) (mo0 r c d y) z w
    have n6 : ∀ q, 0 ≤ q → q < P → s6 q = 0 → e1 q ≠ e1 p := fun q a b x y => by
      have := i q p a b p0 p1 (mo0 q a b x) sp (by rw [y]; exact ep) y
      rw [this] at x
      exact s6p x
    have k := t4 i6 n6
    -- a new one of e2 is no old one outside
    have half : ∀ q r, 0 ≤ q → q < P → 0 ≤ r → r < P → r ≠ p → sn q = 0 → sn r = 0 → s6 r ≠ 0 → e2 q ≠ -1 → e2 q = e2 r → q = r := fun q r a b c d ne x y s z w => by
      have er := t1 r c d s
      by_cases g : e2 q = e1 q
      · exact i q r a b c d x y (by rw [← g]; exact z) (by rw [← g, w, er])
      · obtain ⟨_, _, u3⟩ := t3 q a b g
        rcases u3 with u3 | ⟨r2, v1, v2, v3, v4⟩
        · have := i p r p0 p1 c d sp y ep (by rw [← u3, w, er])
          exact absurd this.symm ne
        · have := i r2 r v1 v2 c d (mo0 r2 v1 v2 v3) y (by rw [v4]; exact z) (by rw [v4, w, er])
          rw [this] at v3
          exact absurd v3 s
    have njk : ∀ q, 0 ≤ q → q < P → q ≠ p → sn q = 0 → e2 q ≠ j := fun q a b ne x y => by
      by_cases g : e2 q = e1 q
      · exact n q a b x (by rw [← g]; exact y)
      · obtain ⟨_, _, u3⟩ := t3 q a b g
        rcases u3 with u3 | ⟨r2, v1, v2, v3, v4⟩
        · exact n p p0 p1 sp (by rw [← u3]; exact y)
        · exact n r2 v1 v2 (mo0 r2 v1 v2 v3) (by rw [v4]; exact y)
    intro q r a b c d x y z w
    by_cases e : q = p
    · by_cases e3 : r = p
      · rw [e, e3]
      · rw [e, rup_at, rup_of e3] at w
        exact absurd w.symm (njk r c d e3 y)
    · rw [rup_of e] at z w
      by_cases e3 : r = p
      · rw [e3, rup_at] at w
        exact absurd w (njk q a b e x)
      · rw [rup_of e3] at w
        by_cases s1 : s6 q = 0
        · by_cases s2 : s6 r = 0
          · exact k q r a b c d s1 s2 z w
          · exact half q r a b c d e3 x y s2 z w
        · exact (half r q c d a b e y x s1 (by rw [← w]; exact z) w.symm).symm
  · have t := t5 A ca
    have np : ¬ A p := fun ap => t.2 (ca p p0 p1 ap).2
    refine ⟨fun q a b c => ?_, fun z => np (z p p0 p1 ha)⟩
    rw [rup_of (fun e => np (by rw [← e]; exact c))]
    exact t.1 q a b c
  · have ne : t6 ≠ p := fun e => s6p (by rw [← e]; exact t9)
    by_cases e : e1 q = e1 p
    · exact ⟨t6, t7, t8, by rw [rup_of ne, e]; exact t10⟩
    · obtain ⟨r, x, y, z⟩ := t11 q a b c
      refine ⟨r, x, y, ?_⟩
      rw [rup_of (fun e3 => e (by rw [← z, e3, e2p]))]
      exact z
section
variable {X : qX} {d : Nat} {sh : qS} {pt h : qM} {P M : Int} {av : Int → Int → Prop}
def PFi (a _ : Int) : Prop := a = 130 ∨ a = 133
def avM (h : qM) (P M : Int) (av : Int → Int → Prop) : Prop := h 78 85 = P ∧ (0 ≤ P ∧ P ≤ 16) ∧ (0 ≤ M ∧ M ≤ 20) ∧ (∀ p, 0 ≤ p → p < P → 0 ≤ h 124 p ∧ h 124 p ≤ 2147483647) ∧ ∀ j p, 0 ≤ j → j < M → 0 ≤ p → p < P → (av j p ↔ h 131 p ≠ 0 ∧ h 132 p = 0 ∧ tb (h 124 p) j = true)
theorem avM_fr {h1 : qM} (a : avM h P M av) (f : Fr PFi h h1) : avM h1 P M av := by
  obtain ⟨a1, a2, a3, a4, a5⟩ := a
  refine ⟨by rw [f _ _ (by unfold PFi; omega)]; exact a1, a2, a3, fun p x y => by rw [f _ _ (by unfold PFi; omega)]; exact a4 p x y, fun j p x y z w => ?_⟩
  rw [f _ _ (by unfold PFi; omega), f _ _ (by unfold PFi; omega), f _ _ (by unfold PFi; omega)]
  exact a5 j p x y z w
theorem m_fills (hst : St sh pt) : ∀ (n : Nat) (j : Int) (h : qM) (K : Int → qM → Prop), avM h P M av → 0 ≤ j → j < M → (∀ p, 0 ≤ p → p < P → h 130 p = -1 ∨ (0 ≤ h 130 p ∧ h 130 p < M)) → NT (fun p => h 133 p = 0) P.toNat + 1 ≤ n → (∀ h2, Fr (fun a _ => a = 133) h h2 → fF P av (h 130) (h 133) (h2 133) j → K 0 h2) → (∀ h2, Fr PFi h h2 → fT P M av (h 130) (h2 130) (h 133) j → K 1 h2) → RunI X (d + 1 + n) mX11_fills [(2, 78), (0, j)] sh pt h K := by
  intro n
  induction n with
  | zero =>
    intro j h K am j0 j1 hv hn k0 k1
    have := (NT_bd (P := fun p => h 133 p = 0) P.toNat).1
    omega
  | succ n ih =>
    intro j h K am j0 j1 hv hn k0 k1
    obtain ⟨a1, a2, a3, a4, a5⟩ := am
    refine b_X11_fills hst ?_
    refine lp (σ := qM) (J := fun p h1 => Fr (fun a _ => a = 133) h h1 ∧ (∀ q, 0 ≤ q → q < P → h 133 q ≠ 0 → h1 133 q ≠ 0) ∧ (∀ q, 0 ≤ q → q < p → av j q → h1 133 q ≠ 0) ∧ ∀ q, 0 ≤ q → q < P → h1 133 q ≠ 0 → h 133 q = 0 → h 130 q ≠ -1 ∧ ∀ r, 0 ≤ r → r < P → av (h 130 q) r → h1 133 r ≠ 0) (C := fun p h1 => EvI X (d + 1 + (n + 1)) mX11_fills 2 [(2, 78), (0, j), (0, p)] [] sh pt h1 K) (n := P) a2.1 ?_ ?_ h ⟨Fr.rf, fun q _ _ y => y, fun q a b => absurd a (by omega), fun q a b x y => absurd y x⟩
    · intro p h1 p0 p1 ⟨f1, j2, j3, j4⟩ kk
      have u : ∀ a i, ¬ a = 133 → h1 a i = h a i := fun a i q => f1 a i q
      have bit := q_bitS (s := h 124 p) (m := j) (a4 p p0 p1).1 (a4 p p0 p1).2 j0 (by omega)
      have w := a5 j p j0 j1 p0 p1
      have skip : (av j p → h1 133 p ≠ 0) → qI (p + 1) ∧ EvI X (d + 1 + (n + 1)) mX11_fills 2 [(2, 78), (0, j), (0, p + 1)] [] sh pt h1 K := fun q => ⟨⟨by omega, by omega⟩, kk h1 ⟨f1, j2, fun r a b c => by
        by_cases e : r = p
        · rw [e] at c ⊢; exact q c
        · exact j3 r a (by omega) c, j4⟩⟩
      refine b_X11_fills_2 hst ?_
      rw [u 78 85 (by decide), a1, u 131 p (by decide), u 132 p (by decide), u 124 p (by decide)]
      refine ⟨fun q => absurd q (by omega), fun _ => ⟨by omega, fun q => skip (fun z => absurd q (w.mp z).1), fun q => ⟨by omega, fun q2 => skip (fun z => absurd (w.mp z).2.1 q2), fun q2 => ⟨by omega, fun q3 => skip (fun _ => q3), fun q3 => ⟨by omega, fun q4 => ?_, fun q4 => skip (fun z => ?_)⟩⟩⟩⟩⟩
      · have tj : tb (h 124 p) j = true := by
          by_cases t : tb (h 124 p) j = true
          · exact t
          · rw [bit, if_neg t] at q4
            exact absurd rfl q4
        have avp : av j p := w.mpr ⟨q, q2, tj⟩
        have sp : h 133 p = 0 := Classical.byContradiction (fun z => j2 p p0 p1 z q3)
        refine ⟨by omega, fun h6 e6 => ⟨by omega, ?_⟩⟩
        have r6 : h6 130 = h 130 := by
          funext i
          rw [e6, qup_of (by omega), u 130 i (by decide)]
        have s6p : h6 133 p ≠ 0 := by rw [e6, qup_at]; decide
        have s6 : ∀ r, 0 ≤ r → r < P → h1 133 r ≠ 0 → h6 133 r ≠ 0 := fun r a b c => by
          by_cases e : r = p
          · rw [e]; exact s6p
          · rw [e6, qup_of (by omega)]; exact c
        have f6 : Fr (fun a _ => a = 133) h h6 := by rw [e6]; exact f1.up rfl
        rw [r6]
        refine ⟨fun q5 => ⟨by omega, fun h9 e9 => k1 h9 ?_ ?_⟩, fun q5 => ⟨by omega, ?_⟩⟩
        · rw [e9]; exact (f6.wk (fun a i q => Or.inr q)).up (Or.inl rfl)
        · have er : h9 130 = rup (h 130) p j := by
            funext i
            rw [e9, qup_qrow, qrow_rw, r6]
          rw [er]
          refine fT_free p0 p1 j0 j1 sp avp ?_
          have := hv p p0 p1
          omega
        · have hvp := hv p p0 p1
          have cn : NT (fun q => h6 133 q = 0) P.toNat + 1 ≤ n := by
            have e := NT_add (P := fun q => h6 133 q = 0) (Q := fun q => h1 133 q = 0) (v := p) p0 (fun z => s6p z) P.toNat (by omega) (fun t a b => by
              by_cases e : t = p
              · rw [e]
                exact ⟨fun _ => Or.inr rfl, fun _ => q3⟩
              · rw [e6, qup_of (by omega)]
                exact ⟨Or.inl, fun y => by
                  rcases y with y | y
                  · exact y
                  · exact absurd y e⟩)
            have e2 := NT_mono (P := fun q => h1 133 q = 0) (Q := fun q => h 133 q = 0) P.toNat (fun t a b y => Classical.byContradiction (fun z => j2 t a (by omega) z y))
            omega
          have am6 : avM h6 P M av := avM_fr ⟨a1, a2, a3, a4, a5⟩ (f6.wk (fun a i q => Or.inr q))
          have call := ih (h 130 p) h6 (fun r12 h11 => ((¬ r12 = 0 → (0 ≤ p ∧ p < 16) ∧ ∀ h14 : qM, h14 = qup h11 130 p j → K 1 h14) ∧ (r12 = 0 → (qI (p + 1)) ∧ EvI X (d + 1 + (n + 1)) mX11_fills 2 [(2, 78), (0, j), (0, (p + 1))] [] sh pt h11 K))) am6 (by omega) (by omega) (fun r a b => by rw [r6]; exact hv r a b) cn (fun h2 f2 g2 => ⟨fun z => absurd rfl z, fun _ => ⟨⟨by omega, by omega⟩, kk h2 ?_⟩⟩) (fun h2 f2 g2 => ⟨fun _ => ⟨by omega, fun h14 e14 => k1 h14 ?_ ?_⟩, fun z => absurd z (by decide)⟩)
          · exact call
          · rw [r6] at g2
            obtain ⟨y1, y2, y3⟩ := g2
            refine ⟨f6.tr f2, fun r a b c => y1 r a b (s6 r a b (j2 r a b c)), fun r a b c => ?_, fun r a b c e => ?_⟩
            · by_cases e : r = p
              · rw [e]; exact y1 p p0 p1 s6p
              · exact y1 r a (by omega) (s6 r a (by omega) (j3 r a (by omega) c))
            · by_cases g : h6 133 r = 0
              · exact y3 r a b c g
              · by_cases e3 : r = p
                · rw [e3]
                  exact ⟨by omega, fun t x y z => y2 t x y z⟩
                · have g1 : h1 133 r ≠ 0 := by rw [e6, qup_of (by omega)] at g; exact g
                  have z := j4 r a b g1 e
                  exact ⟨z.1, fun t x y v => y1 t x y (s6 t x y (z.2 t x y v))⟩
          · rw [e14]
            exact (f6.wk (fun a i q => Or.inr q)).tr f2 |>.up (Or.inl rfl)
          · rw [r6] at g2
            have er : h14 130 = rup (h2 130) p j := by
              rw [e14, qup_qrow, qrow_rw]
            rw [er]
            exact fT_rec p0 p1 j0 j1 sp s6p (fun r a b c => s6 r a b (j2 r a b c)) avp (by omega) g2
      · rw [bit, if_pos (w.mp z).2.2] at q4
        exact absurd q4 (by decide)
    · intro h1 ⟨f1, j2, j3, j4⟩
      refine b_X11_fills_2 hst ⟨fun _ => k0 h1 f1 ⟨j2, j3, j4⟩, fun q => absurd q ?_⟩
      rw [f1 _ _ (by omega), a1]
      omega
end
