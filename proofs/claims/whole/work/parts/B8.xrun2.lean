/-! run() of the class, whole -/
section
variable {X : qX} {d rc rs : Nat} {sh : qS} {pt Sb h : qM} {c t M : Int}
theorem x_stepThrough {K : qM → Prop} (hst : St sh pt) (ht : isT t) (hc : isC c) (xb : TXo Sb) (bg : BGo Sb) (tc : TXc t Sb h) (eM : M = Sb 78 7) (h23 : h 2 3 = M) (hbg : ∀ m, 0 ≤ m → m < M → h 3 m = Sb 82 m ∧ h 4 m = Sb 83 m ∧ h 5 m = Sb 84 m) (sb : SBc c h)
    (kf : ¬ (runP Sb).1 78 67 = 0 → ∀ h1, Fr (fun a _ => XTw c a) h h1 → SBc c h1 → h1 12 0 = (runP Sb).1 78 67 → h1 12 1 = (runP Sb).1 78 68 → K h1)
    (ks : (runP Sb).1 78 67 = 0 → ∀ h1, Fr (fun a _ => XTw c a) h h1 → SBc c h1 → h1 12 0 = 0 → h1 12 1 = -1 → h1 c 3 = 1 → h1 c 4 = M → h1 c 5 = (runP Sb).2 → h1 c 6 = (runP Sb).1 78 66 → (∀ m t', 0 ≤ m → m < M → 0 ≤ t' → t' ≤ (runP Sb).2 → CGr c (runP Sb).1 h1 (20 * t' + m)) → K h1) : RunV X (d + 7) mX1_stepThrough [(2, 12), (2, t), (2, 2), (2, c)] sh pt h K := by
  have cn : c ≠ 11 ∧ c ≠ 12 ∧ 60 ≤ c ∧ c ≤ 70 := by rcases hc with e | e <;> omega
  have tn : 40 ≤ t ∧ t ≤ 53 := by rcases ht with e | e <;> omega
  have tcc : t ≠ c ∧ t ≠ c + 1 := by rcases ht with e | e <;> rcases hc with e2 | e2 <;> omega
  have M1 := xb.1
  have L1 := xb.2.1
  obtain ⟨v0, x0⟩ := run0_ok xb bg
  have bv := bgF_ok xb.1.1 xb.1.2
  refine b_X1_stepThrough hst ht hc (fun h1 d1 h2 d2 => x_fillI hst (s_16 hst) (by decide) (by decide) (fun h3 f3 w3 => ?_))
  have f3b : Fr (fun a _ => XTw c a) h h3 := by
    refine Fr.tr (h1 := h2) ?_ (Fr.wk f3 (fun a y q => by unfold XTw; omega))
    rw [d2, d1]
    exact Fr.up (Fr.up Fr.rf (by unfold XTw; omega)) (by unfold XTw; omega)
  have e120 : h3 12 0 = 0 := by rw [f3 12 0 (by omega), d2, qup_of (by omega), d1, qup_at]
  have e121 : h3 12 1 = -1 := by rw [f3 12 1 (by omega), d2, qup_at]
  have hc3 : ∀ y, h3 (c + 1) y = h (c + 1) y := fun y => by rw [f3 _ y (by omega), d2, qup_of (by omega), d1, qup_of (by omega)]
  have e3 : ∀ m, h3 3 m = h 3 m ∧ h3 4 m = h 4 m ∧ h3 5 m = h 5 m := fun m => ⟨f3b 3 m (by unfold XTw; omega), f3b 4 m (by unfold XTw; omega), f3b 5 m (by unfold XTw; omega)⟩
  refine RunV.deep (d1 := d + 2) (by omega) (x_begin (M := M) hst hc (by rw [f3b 2 3 (by unfold XTw; omega)]; exact h23) (by omega) (fun y a b => by rw [hc3]; exact sb y a b) (fun m a b => ?_) (fun h4 f4 sb4 c4 c5 c6 cv => ?_))
  · have z := hbg m a b
    have y := bg m a (by omega)
    rw [(e3 m).1, (e3 m).2.1, (e3 m).2.2, z.1, z.2.1, z.2.2]
    exact y
  have f4b : Fr (fun a _ => XTw c a) h h4 := Fr.tr f3b (Fr.wk f4 (fun a y q => by unfold XTw; omega))
  have r7 : run0 Sb 78 67 = 0 := by unfold run0; rw [qup_of (by omega), qup_at]
  have r6 : run0 Sb 78 66 = 0 := by unfold run0; rw [qup_at]
  have rr : ∀ a y, 109 ≤ a → run0 Sb a y = bgF Sb a y := fun a y q => by unfold run0; rw [qup_of (by omega), qup_of (by omega)]
  have lc0 : LCr c M h 0 (run0 Sb) h4 := by
    refine ⟨f4b, sb4, by rw [f4 12 0 (by omega), r7]; exact e120, c4, fun z => absurd r7 z, fun _ => ⟨by rw [f4 12 1 (by omega)]; exact e121, c5, by rw [r6]; exact c6, fun m a b => ?_⟩⟩
    have h16 : h4 16 m = 0 := by rw [f4 16 m (by omega)]; exact w3 m a (by omega)
    have z := hbg m a b
    have y := bg m a (by omega)
    rw [h16]
    refine ⟨by decide, fun t' p q => ?_, fun a' t' p0 p1 p2 p3 => ?_⟩
    · have t0 : t' = 0 := by omega
      have w := bv.2 m 0 a (by omega) (by decide) (by decide)
      rw [t0]
      unfold CGr gnd
      rw [rr 109 _ (by decide), rr 110 _ (by decide), rr 111 _ (by decide), w.1, w.2.1, w.2.2, show 20 * 0 + m = m by omega, cv m a b, (e3 m).1, (e3 m).2.1, (e3 m).2.2, z.1, z.2.1, z.2.2]
      exact ⟨rfl, y⟩
    · have w1 := bv.2 m t' a (by omega) (by omega) p3
      have w2 := bv.2 m 0 a (by omega) (by decide) (by decide)
      rw [rr a' _ p0, rr a' _ p0]
      have : a' = 109 ∨ a' = 110 ∨ a' = 111 := by omega
      rcases this with e | e | e <;> subst e
      · rw [w1.1, w2.1]
      · rw [w1.2.1, w2.2.1]
      · rw [w1.2.2, w2.2.2]
  have ht9 : ∀ u, Fr (fun a _ => XTw c a) h u → u t 9 = Sb 78 30 := fun u fu => by rw [fu t 9 (by unfold XTw; omega)]; exact tc.1
  refine lp (σ := (qM × Int) × qM) (i := 0) (n := Sb 78 30) (J := fun l s => LIv Sb l s.1.2 s.1.1 ∧ LCr c M h s.1.2 s.1.1 s.2 ∧ fo linS l (Sb 78 30) s.1 = runP Sb) (C := fun l s => EvV X (d + 7) mX1_stepThrough 26 [(2, 12), (2, t), (8, -1), (2, c), (0, l), (8, -1)] [] sh pt s.2 K) L1.1 ?_ ?_ ((run0 Sb, 0), h4) ⟨v0, lc0, rfl⟩
  · intro l ⟨⟨S, mx⟩, u⟩ l0 l1 ⟨v, lc, es⟩ ih
    dsimp only at v lc es ih ⊢
    by_cases e0 : S 78 67 = 0
    · refine x_line (u := u) hst ht hc xb tc eM v e0 l0 l1 lc (fun h1 lc1 => ih ((linF l S, max mx (lin1 l S 78 63)), h1) ⟨linF_ok (TXo_fr xb v.1) v e0 l0 ?_, lc1, ?_⟩)
      · rw [v.1 78 30 (by unfold PLn; omega)]; exact l1
      · dsimp only
        rw [← es, fo_step (n := Sb 78 30) l1, linS, cif_t (by exact e0)]
    · rw [linS_err e0] at es
      have e1 : (runP Sb).1 = S := by rw [← es]
      have z : ¬ u 12 0 = 0 := by rw [lc.2.2.1]; exact e0
      have kk : K u := kf (by rw [e1]; exact e0) u lc.1 lc.2.1 (by rw [e1]; exact lc.2.2.1) (by rw [e1]; exact lc.2.2.2.2.1 e0)
      have u9 := ht9 u lc.1
      exact b_X1_stepThrough_26 hst ht hc ⟨fun y => absurd y (by omega), fun _ => ⟨fun _ => ⟨fun _ => kk, fun y => absurd y z⟩, fun y => absurd y z⟩⟩
  · intro ⟨⟨S, mx⟩, u⟩ ⟨v, lc, es⟩
    dsimp only at v lc es ⊢
    rw [fo_end (by omega)] at es
    have u9 := ht9 u lc.1
    have v2 := v.2.1
    rw [← es] at kf ks
    dsimp only at kf ks
    refine b_X1_stepThrough_26 hst ht hc ⟨fun _ => ⟨fun z => ?_, fun z => ?_⟩, fun y => absurd y (by omega)⟩
    · have e0 : ¬ S 78 67 = 0 := by rw [← lc.2.2.1]; exact z
      exact kf e0 u lc.1 lc.2.1 lc.2.2.1 (lc.2.2.2.2.1 e0)
    · have e0 : S 78 67 = 0 := by rw [← lc.2.2.1]; exact z
      obtain ⟨y1, y5, y6, ym⟩ := lc.2.2.2.2.2 e0
      refine RunV.deep (d1 := d + 1) (by omega) (x_stayBehind (N := 0) (S := S) hst hc (by omega) v2 lc.2.2.2.1 y5 lc.2.1 ym (fun h5 f5 s5 g5 h6 d6 => ?_))
      have h6e : ∀ a y, ¬ (a = c ∧ y = 3) → ¬ a = c + 1 → h6 a y = u a y := fun a y p q => by rw [d6, qup_of p, f5 a y q]
      refine ks e0 h6 (fun a y q => ?_) (fun y a b => by rw [d6, qup_of (by omega)]; exact s5 y a b) (by rw [h6e 12 0 (by omega) (by omega)]; exact z) (by rw [h6e 12 1 (by omega) (by omega)]; exact y1) (by rw [d6, qup_at]) (by rw [h6e c 4 (by omega) (by omega)]; exact lc.2.2.2.1) (by rw [h6e c 5 (by omega) (by omega)]; exact y5) (by rw [h6e c 6 (by omega) (by omega)]; exact y6) (fun m t' a b a2 b2 => ?_)
      · unfold XTw at q
        rw [h6e a y (by omega) (by omega)]
        exact lc.1 a y (by unfold XTw; exact q)
      · have w := g5 m t' a b a2 b2
        unfold CGr at w ⊢
        rw [d6, qup_of (by omega)]
        exact w
theorem x_run {cs : Int} {Q : Option qV → qG → Prop} (hst : St sh pt) (e10 : pt 0 10 = c) (hc : isC c) (e11 : pt 0 11 = cs) (hcs : isC cs) (e8 : pt 0 8 = t) (ht : isT t) (told : ¬ h t 10 = 0 → TXo Sb ∧ TXc t Sb h) (bg : BGo Sb) (eM : M = Sb 78 7) (h23 : h 2 3 = M) (hbg : ∀ m, 0 ≤ m → m < M → h 3 m = Sb 82 m ∧ h 4 m = Sb 83 m ∧ h 5 m = Sb 84 m) (sb : SBc cs h)
    (kn : h t 10 = 0 → Q (some (0, -1)) (sh, pt, qup h 0 12 8))
    (kf : ¬ h t 10 = 0 → ¬ (runP Sb).1 78 67 = 0 → ∀ h1, Fr (fun a x => XTw cs a ∨ (a = 0 ∧ (x = 12 ∨ x = 15 ∨ x = 16))) h h1 → SBc cs h1 → h1 0 12 = 10 → h1 0 15 = (runP Sb).1 78 67 → h1 0 16 = (runP Sb).1 78 68 → Q (some (0, -1)) (sh, pt, h1))
    (ks : ¬ h t 10 = 0 → (runP Sb).1 78 67 = 0 → ∀ h1 pt', Fr (fun a x => XTw cs a ∨ (a = 0 ∧ (x = 12 ∨ x = 15 ∨ x = 16))) h h1 → SBc cs h1 → h1 0 12 = 0 → h1 0 15 = 0 → h1 0 16 = -1 → h1 cs 3 = 1 → h1 cs 4 = M → h1 cs 5 = (runP Sb).2 → h1 cs 6 = (runP Sb).1 78 66 → (∀ m t', 0 ≤ m → m < M → 0 ≤ t' → t' ≤ (runP Sb).2 → CGr cs (runP Sb).1 h1 (20 * t' + m)) → St sh pt' → pt' 0 10 = cs → pt' 0 11 = c → (∀ a i : Int, ¬ (a = 0 ∧ (i = 10 ∨ i = 11)) → pt' a i = pt a i) → Q (some (0, (runP Sb).2)) (sh, pt', h1)) : Run X (d + 8) rc rs mX10_run [(2, 0)] (sh, pt, h) Q := by
  have cn : cs ≠ 11 ∧ cs ≠ 12 ∧ 60 ≤ cs ∧ cs ≤ 70 := by rcases hcs with e | e <;> omega
  show Ev X (d + 8) rc rs mX10_run 0 [(2, 0), (8, -1)] [] (sh, pt, h) Q
  refine c_X10_run hst e10 hc e11 hcs e8 ht ⟨fun z => ?_, fun z => b_X10_none hst (fun h1 d1 => by rw [d1]; exact kn z)⟩
  obtain ⟨xb, tc⟩ := told z
  have kf1 := kf z
  have ks1 := ks z
  refine x_stepThrough (d := d) hst ht hcs xb bg tc eM h23 hbg sb (fun er h1 f s a0 a1 h2 d2 h3 d3 => ?_) (fun er h1 f s a0 a1 a3 a4 a5 a6 ag h2 d2 h3 d3 => ?_)
  · have e15 : h3 0 15 = h1 12 0 := by rw [d3, qup_of (by omega), d2, qup_at]
    have e16 : h3 0 16 = h1 12 1 := by rw [d3, qup_at, d2, qup_of (by omega)]
    rw [e15]
    refine ⟨fun y => absurd (a0.symm.trans y) er, fun _ => b_X10_none hst (fun h4 d4 => ?_)⟩
    refine kf1 er h4 (fun a x q => ?_) (fun y a b => ?_) (by rw [d4, qup_at]) (by rw [d4, qup_of (by omega), e15]; exact a0) (by rw [d4, qup_of (by omega), e16]; exact a1)
    · rw [d4, qup_of (by omega), d3, qup_of (by omega), d2, qup_of (by omega)]
      exact f a x (fun y => q (Or.inl y))
    · rw [d4, qup_of (by omega), d3, qup_of (by omega), d2, qup_of (by omega)]
      exact s y a b
  · have e15 : h3 0 15 = h1 12 0 := by rw [d3, qup_of (by omega), d2, qup_at]
    have e16 : h3 0 16 = h1 12 1 := by rw [d3, qup_at, d2, qup_of (by omega)]
    have h3e : ∀ a x, ¬ a = 0 → h3 a x = h1 a x := fun a x q => by rw [d3, qup_of (by omega), d2, qup_of (by omega)]
    rw [e15]
    refine ⟨fun _ => x_run_82 (d := d + 7) hst hcs (fun pt' st p1 p2 pp => ?_), fun y => absurd a0 y⟩
    rw [h3e cs 5 (by omega), a5]
    have h4e : ∀ a x, ¬ a = 0 → qup h3 0 12 0 a x = h1 a x := fun a x q => by rw [qup_of (by omega), h3e a x q]
    refine ks1 er _ pt' (fun a x q => ?_) (fun y a b => by rw [h4e _ _ (by omega)]; exact s y a b) qup_at (by rw [qup_of (by omega), e15]; exact a0) (by rw [qup_of (by omega), e16]; exact a1) (by rw [h4e _ _ (by omega)]; exact a3) (by rw [h4e _ _ (by omega)]; exact a4) (by rw [h4e _ _ (by omega)]; exact a5) (by rw [h4e _ _ (by omega)]; exact a6) (fun m t' a b a2 b2 => ?_) st p1 p2 pp
    · have n1 : ¬ XTw cs a := fun y => q (Or.inl y)
      rw [qup_of (by omega), d3, qup_of (by omega), d2, qup_of (by omega)]
      exact f a x n1
    · have w := ag m t' a b a2 b2
      unfold CGr at w ⊢
      rw [h4e _ _ (by omega)]
      exact w
end
