/-! run() of the reference, whole -/
noncomputable def run0 (S : qM) : qM := qup (qup (bgF S) 78 67 0) 78 66 0
noncomputable def runP (S : qM) : qM × Int := fo linS 0 (S 78 30) (run0 S, 0)
/-- where the marchers begin -/
def BGo (S : qM) : Prop := ∀ m, 0 ≤ m → m < S 78 7 → (0 ≤ S 82 m ∧ S 82 m < 60) ∧ (0 ≤ S 83 m ∧ S 83 m < 40) ∧ (0 ≤ S 84 m ∧ S 84 m < 8)
section
variable {S U V : qM} {m t k M l W : Int}
theorem bg1_ok (m0 : 0 ≤ m) (m1 : m < 20) : Fr (fun a x => (109 ≤ a ∧ a ≤ 111) ∧ ∃ k, 0 ≤ k ∧ k ≤ 150 ∧ x = 20 * k + m) U (bg1 m U) ∧ ∀ k, 0 ≤ k → k ≤ 150 → bg1 m U 109 (20 * k + m) = U 82 m ∧ bg1 m U 110 (20 * k + m) = U 83 m ∧ bg1 m U 111 (20 * k + m) = U 84 m := by
  unfold bg1
  have e : ∀ a x, ¬ (109 ≤ a ∧ a ≤ 111 ∧ x = m) → (qup (qup (qup U 109 m (U 82 m)) 110 m (U 83 m)) 111 m (U 84 m)) a x = U a x := fun a x q => by
    rw [qup_of (by omega), qup_of (by omega), qup_of (by omega)]
  have e9 : (qup (qup (qup U 109 m (U 82 m)) 110 m (U 83 m)) 111 m (U 84 m)) 109 m = U 82 m := by rw [qup_of (by omega), qup_of (by omega), qup_at]
  have e10 : (qup (qup (qup U 109 m (U 82 m)) 110 m (U 83 m)) 111 m (U 84 m)) 110 m = U 83 m := by rw [qup_of (by omega), qup_at]
  have e11 : (qup (qup (qup U 109 m (U 82 m)) 110 m (U 83 m)) 111 m (U 84 m)) 111 m = U 84 m := by rw [qup_at]
  generalize qup (qup (qup U 109 m (U 82 m)) 110 m (U 83 m)) 111 m (U 84 m) = R at *
  obtain ⟨f, w⟩ := stF_ok (S := R) (m := m) (t := 0) (by decide)
  refine ⟨fun a x q => ?_, fun k k0 k1 => ?_⟩
  · have n1 : ¬ ((109 ≤ a ∧ a ≤ 111) ∧ ∃ k, 0 < k ∧ k ≤ 150 ∧ x = 20 * k + m) := fun ⟨z, k, k0, k1, z2⟩ => q ⟨z, k, by omega, k1, z2⟩
    have n2 : ¬ (109 ≤ a ∧ a ≤ 111 ∧ x = m) := fun z => q ⟨⟨z.1, z.2.1⟩, 0, by decide, by decide, by omega⟩
    rw [f a x n1, e a x n2]
  · by_cases c : k = 0
    · have er : ∀ a, stF m 0 R a (20 * k + m) = R a m := fun a => by
        rw [f a _ (fun ⟨z, k', k0, k1, z2⟩ => by omega), c, show 20 * 0 + m = m by omega]
      rw [er, er, er]
      exact ⟨e9, e10, e11⟩
    · have er : ∀ a, 109 ≤ a → a ≤ 111 → stF m 0 R a (20 * k + m) = R a m := fun a p q => by
        rw [w a k p q (by omega) k1, show 20 * 0 + m = m by omega]
      rw [er 109 (by decide) (by decide), er 110 (by decide) (by decide), er 111 (by decide) (by decide)]
      exact ⟨e9, e10, e11⟩
def BGv (S : qM) (j : Int) (U : qM) : Prop := Fr (fun a _ => 109 ≤ a ∧ a ≤ 111) S U ∧ ∀ m k, 0 ≤ m → m < j → 0 ≤ k → k ≤ 150 → U 109 (20 * k + m) = S 82 m ∧ U 110 (20 * k + m) = S 83 m ∧ U 111 (20 * k + m) = S 84 m
theorem BGv_st (j0 : 0 ≤ t) (j1 : t < 20) (q : BGv S t U) : BGv S (t + 1) (bg1 t U) := by
  obtain ⟨f, w⟩ := bg1_ok (U := U) j0 j1
  refine ⟨fun a x y => ?_, fun m k m0 m1 k0 k1 => ?_⟩
  · rw [f a x (fun z => y z.1)]
    exact q.1 a x y
  · by_cases c : m = t
    · rw [c]
      have := w k k0 k1
      rw [this.1, this.2.1, this.2.2, q.1 82 t (by omega), q.1 83 t (by omega), q.1 84 t (by omega)]
      exact ⟨rfl, rfl, rfl⟩
    · have er : ∀ a, bg1 t U a (20 * k + m) = U a (20 * k + m) := fun a => f a _ (fun ⟨z, k', k0, k1, z2⟩ => by omega)
      rw [er, er, er]
      exact q.2 m k m0 (by omega) k0 k1
theorem bgF_ok (M0 : 0 ≤ S 78 7) (M1 : S 78 7 ≤ 20) : BGv S (S 78 7) (bgF S) := by
  unfold bgF
  exact fo_inv (f := bg1) (i := 0) (n := S 78 7) (a := S) (fun j U => BGv S j U) (fun j U a b q => BGv_st a (by omega) q) M0 ⟨Fr.rf, fun m k _ _ _ _ => by omega⟩
theorem run0_ok (x : TXo S) (b : BGo S) : LIv S 0 0 (run0 S) ∧ TXo (run0 S) := by
  have w := bgF_ok x.1.1 x.1.2
  have e : ∀ a y, ¬ (a = 78 ∧ (y = 66 ∨ y = 67)) → run0 S a y = bgF S a y := fun a y q => by
    unfold run0
    rw [qup_of (by omega), qup_of (by omega)]
  have e6 : run0 S 78 66 = 0 := by unfold run0; rw [qup_at]
  have e7 : run0 S 78 67 = 0 := by unfold run0; rw [qup_of (by omega), qup_at]
  generalize run0 S = R at *
  have fr : Fr PLn S R := fun a y q => by
    unfold PLn at q
    rw [e a y (by omega), w.1 a y (by omega)]
  refine ⟨⟨fr, by decide, by omega, fun _ => ⟨by omega, fun m t m0 m1 t0 t1 => ?_⟩⟩, TXo_fr x fr⟩
  rw [fr 78 7 (by unfold PLn; omega)] at m1
  have z := w.2 m t m0 m1 t0 t1
  unfold gnd
  rw [e 109 _ (by omega), e 110 _ (by omega), e 111 _ (by omega), z.1, z.2.1, z.2.2]
  exact b m m0 m1
theorem linS_err {n : Int} {s : qM × Int} (e : ¬ s.1 78 67 = 0) : fo linS l n s = s := by
  by_cases h : l ≤ n
  · exact fo_inv (f := linS) (fun _ u => u = s) (fun i u _ _ z => by
      try dsimp only at z ⊢
      rw [z, linS, cif_f e]) h rfl
  · exact fo_end (by omega)
end
section
variable {X : qX} {d : Nat} {sh : qS} {pt h b S S0 : qM} {W o to m t l mx : Int}
theorem m_stays {K : qM → Prop} (hst : St sh pt) (m0 : 0 ≤ m ∧ m < 20) (t0 : 0 ≤ t ∧ t ≤ 150) (k : K (mrg b (stF m t S))) : RunV X (d + 1) mX11_stays [(2, 78), (0, m), (0, t)] sh pt (mrg b S) K := by
  unfold stF at k
  refine b_X11_stays hst ⟨⟨by omega, by omega⟩, ?_⟩
  refine lp (σ := qM) (i := t + 1) (n := 151) (J := fun j U => fo (cpy m t) j 151 U = fo (cpy m t) (t + 1) 151 S) (C := fun j U => EvV X (d + 1) mX11_stays 4 [(2, 78), (0, m), (0, t), (0, j)] [] sh pt (mrg b U) K) (by omega) ?_ ?_ S rfl
  · intro j U j0 j1 eU ih
    have nx := ih (cpy m t j U) (by rw [← eU, fo_step (n := 151) j1])
    unfold cpy at nx
    refine b_X11_stays_4 hst ⟨fun q => absurd q (by omega), fun _ => b_X11_cell hst ⟨⟨by omega, by omega⟩, ⟨by omega, by omega⟩, b_X11_cell hst ⟨⟨by omega, by omega⟩, ⟨by omega, by omega⟩, ?_⟩⟩⟩
    refine ⟨⟨by omega, by omega⟩, ⟨by omega, by omega⟩, fun h7 e7 => b_X11_cell hst ⟨⟨by omega, by omega⟩, ⟨by omega, by omega⟩, b_X11_cell hst ⟨⟨by omega, by omega⟩, ⟨by omega, by omega⟩, ?_⟩⟩⟩
    refine ⟨⟨by omega, by omega⟩, ⟨by omega, by omega⟩, fun h14 e14 => b_X11_cell hst ⟨⟨by omega, by omega⟩, ⟨by omega, by omega⟩, b_X11_cell hst ⟨⟨by omega, by omega⟩, ⟨by omega, by omega⟩, ?_⟩⟩⟩
    refine ⟨⟨by omega, by omega⟩, ⟨by omega, by omega⟩, fun h21 e21 => ⟨⟨by omega, by omega⟩, ?_⟩⟩
    subst e21
    subst e14
    subst e7
    simp only [mrg_78, mrg_82, mrg_83, mrg_84, mrg_89, mrg_90, mrg_94, mrg_95, mrg_96, mrg_97, mrg_98, mrg_99, mrg_106, mrg_107, mrg_108, mrg_109, mrg_110, mrg_111, mrg_112, mrgu_78, mrgu_106, mrgu_107, mrgu_108, mrgu_109, mrgu_110, mrgu_111, mrgu_112, qup_ap, Int.reduceEq, Int.reduceNeg, false_and, and_false, true_and, and_true, and_self, reduceIte]
    exact nx
  · intro U eU
    rw [fo_end (by omega)] at eU
    subst eU
    exact b_X11_stays_4 hst ⟨fun _ => k, fun q => absurd q (by omega)⟩
/-- the lines -/
theorem m_lines {K : Int → qM → Prop} {Sb : qM} {f : qM × Int} (hst : St sh pt) (xb : TXo Sb) (ef : fo linS 0 (Sb 78 30) (S, 0) = f) (v0 : LIv Sb 0 0 S)
    (kk : (0 ≤ f.2 ∧ f.2 ≤ 150) → 0 ≤ f.1 78 67 → Fr PLn Sb f.1 → (f.1 78 67 = 0 → LIv Sb (Sb 78 30) f.2 f.1) → EvI X (d + 8) mX11_run 281 [(2, 78), (8, -1), (0, f.2), (8, -1), (8, -1)] [] sh pt (mrg b f.1) K) : EvI X (d + 8) mX11_run 98 [(2, 78), (0, 0), (0, 0), (0, 0), (8, -1)] [] sh pt (mrg b S) K := by
  have L0 := xb.2.1
  have M0 := xb.1
  refine lp (σ := (qM × Int) × Int) (i := 0) (n := Sb 78 30) (J := fun l s => LIv Sb l s.1.2 s.1.1 ∧ (0 ≤ s.2 ∧ s.2 ≤ 2147483647) ∧ (∀ m, tb s.2 m = true ↔ ∃ l', 0 ≤ l' ∧ l' < l ∧ tb (Sb 89 l') m = true) ∧ fo linS l (Sb 78 30) s.1 = f) (C := fun l s => EvI X (d + 8) mX11_run 98 [(2, 78), (0, s.2), (0, s.1.2), (0, l), (8, -1)] [] sh pt (mrg b s.1.1) K) L0.1 ?_ ?_ ((S, 0), 0) ⟨v0, (show (0 : Int) ≤ 0 ∧ (0 : Int) ≤ 2147483647 from by decide), fun m => by rw [tb_0]; exact ⟨fun z => absurd z (by decide), fun ⟨l', a, b, _⟩ => by omega⟩, ef⟩
  · intro l s l0 l1 ⟨v, led0, led, es⟩ ih
    obtain ⟨⟨S, mx⟩, lv⟩ := s
    dsimp only at v led0 led es ih ⊢
    have v1 := v.2.1
    have x : TXo S := TXo_fr xb v.1
    have e30 : S 78 30 = Sb 78 30 := v.1 _ _ (by unfold PLn; omega)
    have e7 : S 78 7 = Sb 78 7 := v.1 _ _ (by unfold PLn; omega)
    have e89 : ∀ l, S 89 l = Sb 89 l := fun l => v.1 _ _ (by unfold PLn; omega)
    refine b_X11_run_98 hst ?_
    try simp only [mrg_78, mrg_82, mrg_83, mrg_84, mrg_89, mrg_90, mrg_94, mrg_95, mrg_96, mrg_97, mrg_98, mrg_99, mrg_106, mrg_107, mrg_108, mrg_109, mrg_110, mrg_111, mrg_112, mrgu_78, mrgu_106, mrgu_107, mrgu_108, mrgu_109, mrgu_110, mrgu_111, mrgu_112]
    refine ⟨fun z => absurd z (by omega), fun _ => ⟨fun z => ?_, fun e0 h1 d1 => ?_⟩⟩
    · rw [linS_err z] at es
      subst es
      exact kk v1 v.2.2.1 v.1 (fun y => absurd y z)
    subst d1
    try simp only [mrg_78, mrg_82, mrg_83, mrg_84, mrg_89, mrg_90, mrg_94, mrg_95, mrg_96, mrg_97, mrg_98, mrg_99, mrg_106, mrg_107, mrg_108, mrg_109, mrg_110, mrg_111, mrg_112, mrgu_78, mrgu_106, mrgu_107, mrgu_108, mrgu_109, mrgu_110, mrgu_111, mrgu_112]
    obtain ⟨k0, f0, ⟨z1, z2, z3, z4, z5⟩, g0, bd0⟩ := lin0_ok x v e0
    obtain ⟨k1, r1⟩ := lin1_ok x v e0 l0 (by omega)
    have kF := linF_ok x v e0 l0 (by omega)
    have nl : fo linS (l + 1) (Sb 78 30) (linF l S, max mx (lin1 l S 78 63)) = f := by
      rw [← es, fo_step (n := Sb 78 30) l1, linS, cif_t (by exact e0)]
    have sb := (xb.2.2 l l0 l1).2
    have o1 := qor_tb (s := lv) (t := Sb 89 l) led0.1 led0.2 sb.1 (by omega)
    have led1 : ∀ m, tb (qior lv (Sb 89 l)) m = true ↔ ∃ l', 0 ≤ l' ∧ l' < l + 1 ∧ tb (Sb 89 l') m = true := fun m => by
      rw [o1.2.2 m, Bool.or_eq_true, led m]
      constructor
      · rintro (⟨l', a, b, c⟩ | c)
        · exact ⟨l', a, by omega, c⟩
        · exact ⟨l, l0, by omega, c⟩
      · rintro ⟨l', a, b, c⟩
        by_cases q : l' = l
        · rw [q] at c; exact Or.inr c
        · exact Or.inl ⟨l', a, by omega, c⟩
    have nx : ∀ mm, mm = max mx (lin1 l S 78 63) → EvI X (d + 8) mX11_run 98 [(2, 78), (0, qior lv (Sb 89 l)), (0, mm), (0, l + 1), (8, -1)] [] sh pt (mrg b (linF l S)) K := fun mm em => by
      subst em
      exact ih ((linF l S, max mx (lin1 l S 78 63)), qior lv (Sb 89 l)) ⟨kF, ⟨o1.1, o1.2.1⟩, led1, nl⟩
    have ins : ∀ m, 0 ≤ m → m < 20 → (inB S l m ↔ (tb (Sb 89 l) m = true ∧ ¬ tb lv m = true)) := fun m a c => by
      unfold inB
      rw [e89, led m]
      constructor
      · rintro ⟨p, q⟩
        refine ⟨p, fun ⟨l', a, b, c⟩ => ?_⟩
        have := q l' a b
        rw [e89] at this
        rw [this] at c
        exact absurd c (by decide)
      · rintro ⟨p, q⟩
        refine ⟨p, fun l' a b => ?_⟩
        by_cases w : tb (S 89 l') m = true
        · exact absurd ⟨l', a, b, by rw [← e89]; exact w⟩ q
        · simpa using w
    have ga : gath (inB S l) (S 78 7) S = fo (ga1 (inB S l)) 0 (S 78 7) (qup S 78 62 0) := rfl
    refine lp (σ := qM) (i := 0) (n := S 78 7) (J := fun m U => Fr (fun a x => a = 112 ∨ (a = 78 ∧ x = 62)) S U ∧ ((0 ≤ U 78 62 ∧ U 78 62 ≤ m) ∧ ∀ i, 0 ≤ i → i < U 78 62 → 0 ≤ U 112 i ∧ U 112 i < m) ∧ fo (ga1 (inB S l)) m (S 78 7) U = gath (inB S l) (S 78 7) S) (C := fun m U => EvI X (d + 8) mX11_run 121 [(2, 78), (0, lv), (0, mx), (0, l), (0, m)] [] sh pt (mrg b U) K) (by omega) ?_ ?_ (qup S 78 62 0) ⟨Fr.up Fr.rf (by omega), ⟨by rw [qup_at]; decide, fun i a b => by rw [qup_at] at b; omega⟩, ga.symm⟩
    · intro m U m0 m1 ⟨fU, bU, eU⟩ ih2
      have u7 : U 78 7 = S 78 7 := fU _ _ (by omega)
      have u89 : U 89 l = Sb 89 l := (fU _ _ (by omega)).trans (e89 l)
      have st : fo (ga1 (inB S l)) (m + 1) (S 78 7) (ga1 (inB S l) m U) = gath (inB S l) (S 78 7) S := by rw [← eU, fo_step (n := S 78 7) m1]
      have nx2 := ih2 (ga1 (inB S l) m U) ⟨fun a x q => by rw [ga1_of q]; exact fU a x q, ga1_keep m0 bU, st⟩
      have t1 := q_bitS (s := Sb 89 l) (m := m) sb.1 (by omega) m0 (by omega)
      have t2 := q_bitS (s := lv) (m := m) led0.1 led0.2 m0 (by omega)
      have im := ins m m0 (by omega)
      have no : ¬ inB S l m → EvI X (d + 8) mX11_run 121 [(2, 78), (0, lv), (0, mx), (0, l), (0, m + 1)] [] sh pt (mrg b U) K := fun w => by
        unfold ga1 at nx2
        rw [cif_f w] at nx2
        exact nx2
      refine b_X11_run_121 hst ?_
      try simp only [mrg_78, mrg_82, mrg_83, mrg_84, mrg_89, mrg_90, mrg_94, mrg_95, mrg_96, mrg_97, mrg_98, mrg_99, mrg_106, mrg_107, mrg_108, mrg_109, mrg_110, mrg_111, mrg_112, mrgu_78, mrgu_106, mrgu_107, mrgu_108, mrgu_109, mrgu_110, mrgu_111, mrgu_112]
      rw [u89, t1, t2]
      refine ⟨fun q => absurd q (by omega), fun _ => ⟨⟨by omega, by omega⟩, fun q => ⟨⟨by omega, by omega⟩, no (fun w => ?_)⟩, fun q => ⟨fun q2 => ⟨⟨by omega, by omega⟩, fun h12 d12 => ?_⟩, fun q2 => ⟨⟨by omega, by omega⟩, no (fun w => ?_)⟩⟩⟩⟩
      · rw [if_pos (im.mp w).1] at q
        exact absurd q (by decide)
      · have w : inB S l m := by
          refine im.mpr ⟨?_, fun y => ?_⟩
          · by_cases y : tb (Sb 89 l) m = true
            · exact y
            · rw [if_neg y] at q; exact absurd rfl q
          · rw [if_pos y] at q2; exact absurd rfl q2
        unfold ga1 at nx2
        rw [cif_t w] at nx2
        subst d12
        simp only [mrg_78, mrg_82, mrg_83, mrg_84, mrg_89, mrg_90, mrg_94, mrg_95, mrg_96, mrg_97, mrg_98, mrg_99, mrg_106, mrg_107, mrg_108, mrg_109, mrg_110, mrg_111, mrg_112, mrgu_78, mrgu_106, mrgu_107, mrgu_108, mrgu_109, mrgu_110, mrgu_111, mrgu_112, qup_ap, Int.reduceEq, Int.reduceNeg, false_and, and_false, true_and, and_true, and_self, reduceIte]
        refine ⟨⟨by omega, by omega⟩, fun h13 d13 => ⟨⟨by omega, by omega⟩, ?_⟩⟩
        subst d13
        try simp only [mrg_78, mrg_82, mrg_83, mrg_84, mrg_89, mrg_90, mrg_94, mrg_95, mrg_96, mrg_97, mrg_98, mrg_99, mrg_106, mrg_107, mrg_108, mrg_109, mrg_110, mrg_111, mrg_112, mrgu_78, mrgu_106, mrgu_107, mrgu_108, mrgu_109, mrgu_110, mrgu_111, mrgu_112]
        exact nx2
      · have y := (im.mp w).2
        rw [if_neg y] at q2
        exact absurd q2 (by decide)
    · intro U ⟨fU, bU, eU⟩
      rw [fo_end (by omega)] at eU
      have u7 : U 78 7 = S 78 7 := fU _ _ (by omega)
      have u89 : U 89 l = Sb 89 l := (fU _ _ (by omega)).trans (e89 l)
      refine b_X11_run_121 hst ?_
      try simp only [mrg_78, mrg_82, mrg_83, mrg_84, mrg_89, mrg_90, mrg_94, mrg_95, mrg_96, mrg_97, mrg_98, mrg_99, mrg_106, mrg_107, mrg_108, mrg_109, mrg_110, mrg_111, mrg_112, mrgu_78, mrgu_106, mrgu_107, mrgu_108, mrgu_109, mrgu_110, mrgu_111, mrgu_112]
      refine ⟨fun _ => ⟨⟨by omega, by omega⟩, fun h2 d2 h3 d3 h4 d4 => ⟨⟨by omega, by omega⟩, ⟨by omega, by omega⟩, ⟨by omega, by omega⟩, ?_⟩⟩, fun q => absurd q (by omega)⟩
      have e4 : h4 = mrg b (lin0 l S) := by
        rw [d4, d3, d2]
        simp only [mrg_78, mrg_82, mrg_83, mrg_84, mrg_89, mrg_90, mrg_94, mrg_95, mrg_96, mrg_97, mrg_98, mrg_99, mrg_106, mrg_107, mrg_108, mrg_109, mrg_110, mrg_111, mrg_112, mrgu_78, mrgu_106, mrgu_107, mrgu_108, mrgu_109, mrgu_110, mrgu_111, mrgu_112]
        unfold lin0
        rw [eU]
      rw [e4, u89]
      try simp only [mrg_78, mrg_82, mrg_83, mrg_84, mrg_89, mrg_90, mrg_94, mrg_95, mrg_96, mrg_97, mrg_98, mrg_99, mrg_106, mrg_107, mrg_108, mrg_109, mrg_110, mrg_111, mrg_112, mrgu_78, mrgu_106, mrgu_107, mrgu_108, mrgu_109, mrgu_110, mrgu_111, mrgu_112]
      rw [f0 90 l (by unfold PLn; omega), f0 90 (l + 1) (by unfold PLn; omega)]
      refine m_ro (d := d) (K := fun _ => True) hst (show 500 * l ≤ 5000 by omega) 3 _ _ _ _ k0 r1 (x_max hst ?_)
      try simp only [mrg_78, mrg_82, mrg_83, mrg_84, mrg_89, mrg_90, mrg_94, mrg_95, mrg_96, mrg_97, mrg_98, mrg_99, mrg_106, mrg_107, mrg_108, mrg_109, mrg_110, mrg_111, mrg_112, mrgu_78, mrgu_106, mrgu_107, mrgu_108, mrgu_109, mrgu_110, mrgu_111, mrgu_112]
      show EvI X (d + 8) mX11_run 238 [(2, 78), (0, qior lv (Sb 89 l)), (0, max mx (lin1 l S 78 63)), (0, l), (0, 0)] [] sh pt (mrg b (lin1 l S)) K
      have nx3 := nx _ rfl
      unfold linF at nx3
      have bb := k1.1.1
      have c1 := k1.1.2.1
      generalize max mx (lin1 l S 78 63) = mm at *
      generalize lin1 l S = V at *
      have sz := bb.1
      by_cases c : V 78 67 = 0
      · rw [cif_t c] at nx3
        have es0 : sts V = fo (fun i U => stF (U 112 i) (U 78 63) U) 0 (V 78 62) V := rfl
        refine lp (σ := qM) (i := 0) (n := V 78 62) (J := fun i U => STv V i U ∧ fo (fun i U => stF (U 112 i) (U 78 63) U) i (V 78 62) U = sts V) (C := fun i U => EvI X (d + 8) mX11_run 238 [(2, 78), (0, qior lv (Sb 89 l)), (0, mm), (0, l), (0, i)] [] sh pt (mrg b U) K) sz.1 ?_ ?_ V ⟨⟨Fr.rf, fun _ _ _ _ _ => by omega⟩, es0.symm⟩
        · intro i U i0 i1 ⟨sU, eU⟩ ih3
          have u62 : U 78 62 = V 78 62 := sU.1 _ _ (by omega)
          have u67 : U 78 67 = V 78 67 := sU.1 _ _ (by omega)
          have u63 : U 78 63 = V 78 63 := sU.1 _ _ (by omega)
          have u112 : U 112 i = V 112 i := sU.1 _ _ (by omega)
          have mi := bb.2 i i0 i1
          have nx4 := ih3 (stF (U 112 i) (U 78 63) U) ⟨sts1 bb c1.2 i0 i1 sU, by rw [← eU, fo_step (n := V 78 62) i1]⟩
          refine b_X11_run_238 hst ?_
          try simp only [mrg_78, mrg_82, mrg_83, mrg_84, mrg_89, mrg_90, mrg_94, mrg_95, mrg_96, mrg_97, mrg_98, mrg_99, mrg_106, mrg_107, mrg_108, mrg_109, mrg_110, mrg_111, mrg_112, mrgu_78, mrgu_106, mrgu_107, mrgu_108, mrgu_109, mrgu_110, mrgu_111, mrgu_112]
          exact ⟨fun q => absurd q (by omega), fun _ => ⟨fun q => absurd (u67.trans c) q, fun _ => ⟨⟨by omega, by omega⟩, RunV.deep (d1 := d + 1) (by omega) (m_stays hst (by omega) (by omega) ⟨⟨by omega, by omega⟩, nx4⟩)⟩⟩⟩
        · intro U ⟨sU, eU⟩
          rw [fo_end (by omega)] at eU
          subst eU
          have u62 : sts V 78 62 = V 78 62 := sU.1 _ _ (by omega)
          refine b_X11_run_238 hst ?_
          try simp only [mrg_78, mrg_82, mrg_83, mrg_84, mrg_89, mrg_90, mrg_94, mrg_95, mrg_96, mrg_97, mrg_98, mrg_99, mrg_106, mrg_107, mrg_108, mrg_109, mrg_110, mrg_111, mrg_112, mrgu_78, mrgu_106, mrgu_107, mrgu_108, mrgu_109, mrgu_110, mrgu_111, mrgu_112]
          exact ⟨fun _ => ⟨⟨by omega, by omega⟩, nx3⟩, fun q => absurd q (by omega)⟩
      · rw [cif_f c] at nx3
        refine b_X11_run_238 hst ?_
        try simp only [mrg_78, mrg_82, mrg_83, mrg_84, mrg_89, mrg_90, mrg_94, mrg_95, mrg_96, mrg_97, mrg_98, mrg_99, mrg_106, mrg_107, mrg_108, mrg_109, mrg_110, mrg_111, mrg_112, mrgu_78, mrgu_106, mrgu_107, mrgu_108, mrgu_109, mrgu_110, mrgu_111, mrgu_112]
        exact ⟨fun _ => ⟨⟨by omega, by omega⟩, nx3⟩, fun q => ⟨fun _ => ⟨⟨by omega, by omega⟩, nx3⟩, fun z => absurd z c⟩⟩
  · intro s ⟨v, led0, led, es⟩
    obtain ⟨⟨S, mx⟩, lv⟩ := s
    dsimp only at v led0 led es ⊢
    have e30 : S 78 30 = Sb 78 30 := v.1 _ _ (by unfold PLn; omega)
    rw [fo_end (by omega)] at es
    subst es
    refine b_X11_run_98 hst ?_
    try simp only [mrg_78, mrg_82, mrg_83, mrg_84, mrg_89, mrg_90, mrg_94, mrg_95, mrg_96, mrg_97, mrg_98, mrg_99, mrg_106, mrg_107, mrg_108, mrg_109, mrg_110, mrg_111, mrg_112, mrgu_78, mrgu_106, mrgu_107, mrgu_108, mrgu_109, mrgu_110, mrgu_111, mrgu_112]
    exact ⟨fun _ => kk v.2.1 v.2.2.1 v.1 (fun _ => v), fun z => absurd z (by omega)⟩
end
