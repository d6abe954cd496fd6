/-! run() of the reference: its two ends -/
def PMr (a x : Int) : Prop := (a = 78 ∧ (x = 0 ∨ x = 1 ∨ (50 ≤ x ∧ x ≤ 54) ∨ (62 ≤ x ∧ x ≤ 68))) ∨ (106 ≤ a ∧ a ≤ 112)
section
variable {X : qX} {d : Nat} {sh : qS} {pt h b S S0 : qM} {W o to m t l mx : Int}
theorem m_copy3 {K : Int → qM → Prop} {V : qM} (hst : St sh pt) (k : ∀ Q, Fr (fun a x => (106 ≤ a ∧ a ≤ 108) ∨ (a = 78 ∧ 50 ≤ x ∧ x ≤ 52)) V Q → (∀ x, 0 ≤ x → x < 3020 → Q 106 x = V 109 x ∧ Q 107 x = V 110 x ∧ Q 108 x = V 111 x) → Q 78 50 = V 78 7 → Q 78 51 = mx → Q 78 52 = V 78 66 → K mx (mrg b Q)) : EvI X (d + 1) mX11_run 324 [(2, 78), (8, -1), (0, mx), (0, 0), (8, -1)] [] sh pt (mrg b V) K := by
  refine lp (σ := qM) (i := 0) (n := 3020) (J := fun j U => Fr (fun a _ => 106 ≤ a ∧ a ≤ 108) V U ∧ ∀ x, 0 ≤ x → x < j → U 106 x = V 109 x ∧ U 107 x = V 110 x ∧ U 108 x = V 111 x) (C := fun j U => EvI X (d + 1) mX11_run 324 [(2, 78), (8, -1), (0, mx), (0, j), (8, -1)] [] sh pt (mrg b U) K) (by decide) ?_ ?_ V ⟨Fr.rf, fun x _ _ => by omega⟩
  · intro j U j0 j1 ⟨fU, vU⟩ ih
    refine b_X11_run_324 hst ?_
    try simp only [mrg_78, mrg_82, mrg_83, mrg_84, mrg_89, mrg_90, mrg_94, mrg_95, mrg_96, mrg_97, mrg_98, mrg_99, mrg_106, mrg_107, mrg_108, mrg_109, mrg_110, mrg_111, mrg_112, mrgu_78, mrgu_106, mrgu_107, mrgu_108, mrgu_109, mrgu_110, mrgu_111, mrgu_112]
    refine ⟨fun q => absurd q (by omega), fun _ => ⟨⟨by omega, by omega⟩, ⟨by omega, by omega⟩, fun h6 d6 => ⟨⟨by omega, by omega⟩, ⟨by omega, by omega⟩, fun h9 d9 => ⟨⟨by omega, by omega⟩, ⟨by omega, by omega⟩, fun h12 d12 => ⟨⟨by omega, by omega⟩, ?_⟩⟩⟩⟩⟩
    subst d12
    subst d9
    subst d6
    simp only [mrg_78, mrg_82, mrg_83, mrg_84, mrg_89, mrg_90, mrg_94, mrg_95, mrg_96, mrg_97, mrg_98, mrg_99, mrg_106, mrg_107, mrg_108, mrg_109, mrg_110, mrg_111, mrg_112, mrgu_78, mrgu_106, mrgu_107, mrgu_108, mrgu_109, mrgu_110, mrgu_111, mrgu_112, qup_ap, Int.reduceEq, Int.reduceNeg, false_and, and_false, true_and, and_true, and_self, reduceIte]
    refine ih _ ⟨Fr.up (Fr.up (Fr.up fU (by decide)) (by decide)) (by decide), fun x x0 x1 => ?_⟩
    by_cases c : x = j
    · rw [c]
      refine ⟨?_, ?_, ?_⟩
      · rw [qup_of (by omega), qup_of (by omega), qup_at, fU 109 j (by omega)]
      · rw [qup_of (by omega), qup_at, fU 110 j (by omega)]
      · rw [qup_at, fU 111 j (by omega)]
    · have z := vU x x0 (by omega)
      rw [qup_of (by omega), qup_of (by omega), qup_of (by omega), qup_of (by omega), qup_of (by omega), qup_of (by omega), qup_of (by omega), qup_of (by omega), qup_of (by omega)]
      exact z
  · intro U ⟨fU, vU⟩
    refine b_X11_run_324 hst ?_
    try simp only [mrg_78, mrg_82, mrg_83, mrg_84, mrg_89, mrg_90, mrg_94, mrg_95, mrg_96, mrg_97, mrg_98, mrg_99, mrg_106, mrg_107, mrg_108, mrg_109, mrg_110, mrg_111, mrg_112, mrgu_78, mrgu_106, mrgu_107, mrgu_108, mrgu_109, mrgu_110, mrgu_111, mrgu_112]
    refine ⟨fun _ h1 d1 h2 d2 h3 d3 => ?_, fun q => absurd q (by omega)⟩
    subst d3
    subst d2
    subst d1
    have u7 : U 78 7 = V 78 7 := fU _ _ (by omega)
    have u66 : U 78 66 = V 78 66 := fU _ _ (by omega)
    simp only [mrg_78, mrg_82, mrg_83, mrg_84, mrg_89, mrg_90, mrg_94, mrg_95, mrg_96, mrg_97, mrg_98, mrg_99, mrg_106, mrg_107, mrg_108, mrg_109, mrg_110, mrg_111, mrg_112, mrgu_78, mrgu_106, mrgu_107, mrgu_108, mrgu_109, mrgu_110, mrgu_111, mrgu_112, qup_ap, Int.reduceEq, Int.reduceNeg, false_and, and_false, true_and, and_true, and_self, reduceIte]
    refine k _ (Fr.up (Fr.up (Fr.up (Fr.wk fU (fun a x z => Or.inl z)) (by omega)) (by omega)) (by omega)) (fun x x0 x1 => ?_) ?_ ?_ ?_
    · rw [qup_of (by omega), qup_of (by omega), qup_of (by omega), qup_of (by omega), qup_of (by omega), qup_of (by omega), qup_of (by omega), qup_of (by omega), qup_of (by omega)]
      exact vU x x0 x1
    · rw [qup_of (by decide), qup_of (by decide), qup_at, u7]
    · rw [qup_of (by decide), qup_at]
    · rw [qup_at, u66]
theorem m_run {K : Int → qM → Prop} (hst : St sh pt) (x : 0 ≤ S 78 30 → TXo S) (bg : BGo S)
    (kn : S 78 30 < 0 → K (-1) (mrg b (ms S 8)))
    (kf : 0 ≤ S 78 30 → 0 < (runP (ms S 0)).1 78 67 → ∀ Q, Fr PMr S Q → Fr (fun a x => a = 78 ∧ (x = 0 ∨ x = 53 ∨ x = 54)) (runP (ms S 0)).1 Q → Q 78 0 = 10 → Q 78 53 = (runP (ms S 0)).1 78 67 → Q 78 54 = (runP (ms S 0)).1 78 68 → K (-1) (mrg b Q))
    (ks : 0 ≤ S 78 30 → (runP (ms S 0)).1 78 67 = 0 → (0 ≤ (runP (ms S 0)).2 ∧ (runP (ms S 0)).2 ≤ 150) → LIv (ms S 0) (S 78 30) (runP (ms S 0)).2 (runP (ms S 0)).1 → ∀ Q, Fr PMr S Q → Q 78 0 = 0 → Q 78 53 = 0 → Q 78 54 = -1 → (∀ y, 0 ≤ y → y < 3020 → Q 106 y = (runP (ms S 0)).1 109 y ∧ Q 107 y = (runP (ms S 0)).1 110 y ∧ Q 108 y = (runP (ms S 0)).1 111 y) → Q 78 50 = S 78 7 → Q 78 51 = (runP (ms S 0)).2 → Q 78 52 = (runP (ms S 0)).1 78 66 → K (runP (ms S 0)).2 (mrg b Q)) : RunI X (d + 8) mX11_run [(2, 78)] sh pt (mrg b S) K := by
  refine b_X11_run hst (fun h1 d1 h2 d2 => ?_)
  have e2 : h2 = mrg b (ms S 0) := by
    rw [d2, d1]
    simp only [mrg_78, mrg_82, mrg_83, mrg_84, mrg_89, mrg_90, mrg_94, mrg_95, mrg_96, mrg_97, mrg_98, mrg_99, mrg_106, mrg_107, mrg_108, mrg_109, mrg_110, mrg_111, mrg_112, mrgu_78, mrgu_106, mrgu_107, mrgu_108, mrgu_109, mrgu_110, mrgu_111, mrgu_112]
    rfl
  subst e2
  clear d1 d2
  have m30 : ms S 0 78 30 = S 78 30 := ms_of2 (by decide)
  have m7 : ms S 0 78 7 = S 78 7 := ms_of2 (by decide)
  try simp only [mrg_78, mrg_82, mrg_83, mrg_84, mrg_89, mrg_90, mrg_94, mrg_95, mrg_96, mrg_97, mrg_98, mrg_99, mrg_106, mrg_107, mrg_108, mrg_109, mrg_110, mrg_111, mrg_112, mrgu_78, mrgu_106, mrgu_107, mrgu_108, mrgu_109, mrgu_110, mrgu_111, mrgu_112]
  rw [m30]
  refine ⟨fun l0 => ?_, fun l0 => b_X11_refuse hst (fun h3 d3 => ?_)⟩
  · have fm : Fr (fun a x => a = 78 ∧ (x = 0 ∨ x = 1)) S (ms S 0) := Fr.up (Fr.up Fr.rf (by omega)) (by omega)
    have x0 := x l0
    have x1 : TXo (ms S 0) := by
      have r : ∀ a, ¬ a = 78 → ms S 0 a = S a := fun a q => funext (fun i => ms_of q)
      unfold TXo RGn oK at x0 ⊢
      rw [m7, m30, r 90 (by decide), r 89 (by decide), r 94 (by decide), r 95 (by decide), r 96 (by decide), r 97 (by decide), r 99 (by decide)]
      exact x0
    have b1 : BGo (ms S 0) := by
      have r : ∀ a, ¬ a = 78 → ms S 0 a = S a := fun a q => funext (fun i => ms_of q)
      unfold BGo at bg ⊢
      rw [m7, r 82 (by decide), r 83 (by decide), r 84 (by decide)]
      exact bg
    have t0 : ms S 0 78 0 = 0 := qup_at
    have kf1 := kf l0
    have ks1 := ks l0
    generalize ms S 0 = T at *
    have M1 := x1.1
    have rr : runP T = fo linS 0 (T 78 30) (run0 T, 0) := rfl
    have r0 := run0_ok x1 b1
    -- the beginning
    refine lp (σ := qM) (i := 0) (n := T 78 7) (J := fun m U => BGv T m U ∧ fo bg1 m (T 78 7) U = bgF T) (C := fun m U => EvI X (d + 8) mX11_run 26 [(2, 78), (0, m), (8, -1), (8, -1), (8, -1)] [] sh pt (mrg b U) K) M1.1 ?_ ?_ T ⟨⟨Fr.rf, fun m k _ _ _ _ => by omega⟩, rfl⟩
    · intro m U m0 m1 ⟨vU, eU⟩ ih
      have u7 : U 78 7 = T 78 7 := vU.1 _ _ (by omega)
      have nx := ih (bg1 m U) ⟨BGv_st m0 (by omega) vU, by rw [← eU, fo_step (n := T 78 7) m1]⟩
      unfold bg1 at nx
      refine b_X11_run_26 hst ?_
      try simp only [mrg_78, mrg_82, mrg_83, mrg_84, mrg_89, mrg_90, mrg_94, mrg_95, mrg_96, mrg_97, mrg_98, mrg_99, mrg_106, mrg_107, mrg_108, mrg_109, mrg_110, mrg_111, mrg_112, mrgu_78, mrgu_106, mrgu_107, mrgu_108, mrgu_109, mrgu_110, mrgu_111, mrgu_112]
      refine ⟨fun q => absurd q (by omega), fun _ => ⟨⟨by omega, by omega⟩, ⟨by omega, by omega⟩, fun h5 d5 => ⟨⟨by omega, by omega⟩, ⟨by omega, by omega⟩, fun h8 d8 => ⟨⟨by omega, by omega⟩, ⟨by omega, by omega⟩, fun h11 d11 => ?_⟩⟩⟩⟩
      subst d11
      subst d8
      subst d5
      simp only [mrg_78, mrg_82, mrg_83, mrg_84, mrg_89, mrg_90, mrg_94, mrg_95, mrg_96, mrg_97, mrg_98, mrg_99, mrg_106, mrg_107, mrg_108, mrg_109, mrg_110, mrg_111, mrg_112, mrgu_78, mrgu_106, mrgu_107, mrgu_108, mrgu_109, mrgu_110, mrgu_111, mrgu_112, qup_ap, Int.reduceEq, Int.reduceNeg, false_and, and_false, true_and, and_true, and_self, reduceIte]
      exact RunV.deep (d1 := d + 1) (by omega) (m_stays hst (by omega) (by decide) ⟨⟨by omega, by omega⟩, nx⟩)
    · intro U ⟨vU, eU⟩
      rw [fo_end (by omega)] at eU
      subst eU
      have u7 : bgF T 78 7 = T 78 7 := vU.1 _ _ (by omega)
      refine b_X11_run_26 hst ?_
      try simp only [mrg_78, mrg_82, mrg_83, mrg_84, mrg_89, mrg_90, mrg_94, mrg_95, mrg_96, mrg_97, mrg_98, mrg_99, mrg_106, mrg_107, mrg_108, mrg_109, mrg_110, mrg_111, mrg_112, mrgu_78, mrgu_106, mrgu_107, mrgu_108, mrgu_109, mrgu_110, mrgu_111, mrgu_112]
      refine ⟨fun _ h3 d3 h4 d4 => ?_, fun q => absurd q (by omega)⟩
      have e4 : h4 = mrg b (run0 T) := by
        rw [d4, d3]
        simp only [mrg_78, mrg_82, mrg_83, mrg_84, mrg_89, mrg_90, mrg_94, mrg_95, mrg_96, mrg_97, mrg_98, mrg_99, mrg_106, mrg_107, mrg_108, mrg_109, mrg_110, mrg_111, mrg_112, mrgu_78, mrgu_106, mrgu_107, mrgu_108, mrgu_109, mrgu_110, mrgu_111, mrgu_112]
        rfl
      rw [e4]
      refine m_lines (f := runP T) hst x1 rr.symm r0.1 (fun mb e0 fr lv => ?_)
      generalize runP T = f at *
      refine b_X11_run_281 hst (fun h5 d5 => ?_)
      subst d5
      simp only [mrg_78, mrg_82, mrg_83, mrg_84, mrg_89, mrg_90, mrg_94, mrg_95, mrg_96, mrg_97, mrg_98, mrg_99, mrg_106, mrg_107, mrg_108, mrg_109, mrg_110, mrg_111, mrg_112, mrgu_78, mrgu_106, mrgu_107, mrgu_108, mrgu_109, mrgu_110, mrgu_111, mrgu_112, qup_ap, Int.reduceEq, Int.reduceNeg, false_and, and_false, true_and, and_true, and_self, reduceIte]
      have fS : ∀ a x, ¬ PMr a x → f.1 a x = S a x := fun a x q => by
        unfold PMr at q
        rw [fr a x (by unfold PLn; omega), fm a x (by omega)]
      refine ⟨fun c h6 d6 => ?_, fun c h6 d6 => ?_⟩
      · subst d6
        simp only [mrg_78, mrg_82, mrg_83, mrg_84, mrg_89, mrg_90, mrg_94, mrg_95, mrg_96, mrg_97, mrg_98, mrg_99, mrg_106, mrg_107, mrg_108, mrg_109, mrg_110, mrg_111, mrg_112, mrgu_78, mrgu_106, mrgu_107, mrgu_108, mrgu_109, mrgu_110, mrgu_111, mrgu_112, qup_ap, Int.reduceEq, Int.reduceNeg, false_and, and_false, true_and, and_true, and_self, reduceIte]
        refine ⟨fun z => absurd z (by omega), fun z => b_X11_refuse hst (fun h7 d7 => ?_)⟩
        subst d7
        try simp only [mrg_78, mrg_82, mrg_83, mrg_84, mrg_89, mrg_90, mrg_94, mrg_95, mrg_96, mrg_97, mrg_98, mrg_99, mrg_106, mrg_107, mrg_108, mrg_109, mrg_110, mrg_111, mrg_112, mrgu_78, mrgu_106, mrgu_107, mrgu_108, mrgu_109, mrgu_110, mrgu_111, mrgu_112]
        refine kf1 z _ (fun a x q => ?_) (Fr.up (Fr.up (Fr.up Fr.rf (by omega)) (by omega)) (by omega)) qup_at (by rw [qup_of (by decide), qup_of (by decide), qup_at]) (by rw [qup_of (by decide), qup_at])
        have q2 := q
        unfold PMr at q
        rw [qup_of (by omega), qup_of (by omega), qup_of (by omega)]
        exact fS a x q2
      · subst d6
        simp only [mrg_78, mrg_82, mrg_83, mrg_84, mrg_89, mrg_90, mrg_94, mrg_95, mrg_96, mrg_97, mrg_98, mrg_99, mrg_106, mrg_107, mrg_108, mrg_109, mrg_110, mrg_111, mrg_112, mrgu_78, mrgu_106, mrgu_107, mrgu_108, mrgu_109, mrgu_110, mrgu_111, mrgu_112, qup_ap, Int.reduceEq, Int.reduceNeg, false_and, and_false, true_and, and_true, and_self, reduceIte]
        refine ⟨fun _ => ?_, fun z => absurd z (by omega)⟩
        refine m_copy3 (d := d + 7) hst (fun Q fQ vQ q50 q51 q52 => ?_)
        have qe : ∀ a x, ¬ ((106 ≤ a ∧ a ≤ 108) ∨ (a = 78 ∧ 50 ≤ x ∧ x ≤ 54)) → Q a x = f.1 a x := fun a x q => by
          rw [fQ a x (by omega), qup_of (by omega), qup_of (by omega)]
        refine ks1 c mb ?_ Q (fun a x q => ?_) ?_ ?_ ?_ (fun y y0 y1 => ?_) ?_ q51 ?_
        · have := lv c
          rw [m30] at this
          exact this
        · have q2 := q
          unfold PMr at q
          rw [qe a x (by omega)]
          exact fS a x q2
        · rw [qe 78 0 (by omega), fr 78 0 (by unfold PLn; omega)]
          exact t0
        · rw [fQ 78 53 (by omega), qup_of (by omega), qup_at]
          exact c
        · rw [fQ 78 54 (by omega), qup_at]
        · have z := vQ y y0 y1
          rw [qup_of (by omega), qup_of (by omega), qup_of (by omega), qup_of (by omega), qup_of (by omega), qup_of (by omega)] at z
          exact z
        · rw [q50, qup_of (by omega), qup_of (by omega), fr 78 7 (by unfold PLn; omega)]
          exact m7
        · rw [q52, qup_of (by omega), qup_of (by omega)]
  · rw [d3]
    simp only [mrg_78, mrg_82, mrg_83, mrg_84, mrg_89, mrg_90, mrg_94, mrg_95, mrg_96, mrg_97, mrg_98, mrg_99, mrg_106, mrg_107, mrg_108, mrg_109, mrg_110, mrg_111, mrg_112, mrgu_78, mrgu_106, mrgu_107, mrgu_108, mrgu_109, mrgu_110, mrgu_111, mrgu_112]
    rw [ms_up]
    exact kn l0
end
