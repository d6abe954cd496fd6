/-! pairs: the tape, persons, GOES -/
section
variable {X : qX} {d : Nat} {sh : qS} {pt h g : qM} {t ts c cs : Int}
theorem p_feed {v1 v2 v3 v4 v5 : Int} (q1 : qI v1) (q2 : qI v2) (q3 : qI v3) (q4 : qI v4) (q5 : qI v5) (v : Inv sh pt h) : RunI X (d + 21) mX10_feed [(2, 0), (0, v1), (0, v2), (0, v3), (0, v4), (0, v5)] sh pt h (fun r h1 => RunI X (d + 21) mX11_feed [(2, 78), (0, v1), (0, v2), (0, v3), (0, v4), (0, v5)] sh pt h1 (fun r1 h2 => r1 = r ∧ Inv sh pt h2)) := by
  obtain ⟨t, ts, c, cs, v⟩ := v
  have hst := v.2.1
  have tp := v.2.2.2.2.2.2.2.2.1
  have tp1 := tp.1
  refine RunI.deep (d1 := d + 1) (by omega) (x_feed (n := h 9 1) hst q1 q2 q3 q4 q5 rfl tp.1.2.1 (fun z => ?_) (fun z h1 f1 l1 b1 => ?_))
  · exact RunI.deep (d1 := d + 1) (by omega) (m_feed (n := h 9 1) hst q1 q2 q3 q4 q5 tp.1.1 tp.1.2.1 tp.1.2.2 (fun _ => ⟨rfl, Inv_1 v⟩) (fun y => by omega))
  · have n18 : h1 78 18 = h 9 1 := by rw [f1 78 18 (by omega)]; exact tp.1.1
    refine RunI.deep (d1 := d + 1) (by omega) (m_feed (n := h 9 1) hst q1 q2 q3 q4 q5 n18 tp.1.2.1 tp.1.2.2 (fun y => by omega) (fun _ h2 f2 l2 b2 => ⟨rfl, t, ts, c, cs, InvA_tp v (fun x i q q2 => ?_) ?_ ⟨⟨?_, ?_⟩, fun i a b => ?_⟩⟩))
    · have n2 := nPst_r q
      unfold Qtp at q2
      rw [f2 x i (by omega), f1 x i (by omega)]
    · rw [f2 0 12 (by omega), f2 78 0 (by omega), f1 0 12 (by omega), f1 78 0 (by omega)]
      exact v.2.2.2.1
    · rw [l2, f2 9 1 (by omega), l1]
    · rw [f2 9 1 (by omega), l1]; omega
    · rw [f2 9 1 (by omega), l1] at b
      rw [f2 10 i (by omega)]
      by_cases y : h 9 1 ≤ i
      · have e1 := b1 (i - h 9 1) (by omega) (by omega)
        have e2 := b2 (i - h 9 1) (by omega) (by omega)
        rw [show h 9 1 + (i - h 9 1) = i by omega] at e1 e2
        rw [e1, e2]
      · rw [f1 10 i (by omega), f2 88 i (by omega), f1 88 i (by omega)]
        exact tp.2 i a (by omega)
theorem p_person {s : Int} (qs : qI s) (v : Inv sh pt h) : RunI X (d + 21) mX10_person [(2, 0), (0, s)] sh pt h (fun r h1 => RunI X (d + 21) mX11_person [(2, 78), (0, s)] sh pt h1 (fun r1 h2 => r1 = r ∧ Inv sh pt h2)) := by
  obtain ⟨t, ts, c, cs, v⟩ := v
  have hst := v.2.1
  have gr := v.2.2.2.2.2.1
  have gr1 := gr.1
  have ro := v.2.2.2.2.2.2.2.2.2.2.2.2.2.2.1
  have ro1 := ro.1
  have ro2 := ro.2.1
  have s20 := sh20 gr.1.2.1 gr.1.2.2
  have g0 : ∀ s, Inv sh pt (qup (qup (qup (qup h 0 12 s) 78 1 0) 78 0 0) 78 0 s) := fun s => by rw [ms3]; exact Inv_rs v Fst qup_at
  have e85 : ∀ s, qup h 0 12 s 78 85 = h 30 0 := fun s => by rw [qup_of (by decide)]; exact ro.1.1
  have e7 : ∀ s, qup h 0 12 s 78 7 = h 2 3 := fun s => by rw [qup_of (by decide)]; exact gr.1.1
  refine RunI.deep (d1 := d + 1) (by omega) (x_person hst gr.1.2 ro.1.2 qs (fun z => ?_) (fun z z2 z3 => ?_) (fun z z2 z3 => ?_))
  · refine RunI.deep (d1 := d + 1) (by omega) (m_person hst (by rw [e85]; exact ro.1.2) (fun _ => ⟨rfl, g0 5⟩) (fun y y2 => ?_) (fun y y2 => ?_))
    · rw [e7] at y2; exact absurd ⟨y, y2⟩ z
    · rw [e7] at y2; exact absurd ⟨y, y2⟩ z
  · refine RunI.deep (d1 := d + 1) (by omega) (m_person hst (by rw [e85]; exact ro.1.2) (fun y => ?_) (fun _ _ _ => ⟨rfl, g0 7⟩) (fun _ _ y => ?_))
    · rw [e7] at y; exact absurd ⟨z, z2⟩ y
    · rw [e85] at y; omega
  · have ke : ∀ a i, ¬ (a = 32 ∧ i = h 30 0) → ¬ (a = 30 ∧ i = 0) → ¬ (a = 0 ∧ i = 12) → qup (qup (qup h 32 (h 30 0) s) 30 0 (h 30 0 + 1)) 0 12 0 a i = h a i := fun a i p p2 p3 => by rw [qup_of p3, qup_of p2, qup_of p]
    have k3 : qup (qup (qup h 32 (h 30 0) s) 30 0 (h 30 0 + 1)) 0 12 0 32 (h 30 0) = s ∧ qup (qup (qup h 32 (h 30 0) s) 30 0 (h 30 0 + 1)) 0 12 0 30 0 = h 30 0 + 1 ∧ qup (qup (qup h 32 (h 30 0) s) 30 0 (h 30 0 + 1)) 0 12 0 0 12 = 0 := ⟨by rw [qup_of (by omega), qup_of (by omega), qup_at], by rw [qup_of (by omega), qup_at], qup_at⟩
    generalize qup (qup (qup h 32 (h 30 0) s) 30 0 (h 30 0 + 1)) 0 12 0 = k at *
    have k85 : k 78 85 = h 30 0 := by rw [ke 78 85 (by omega) (by omega) (by omega)]; exact ro.1.1
    have k7 : k 78 7 = h 2 3 := by rw [ke 78 7 (by omega) (by omega) (by omega)]; exact gr.1.1
    refine RunI.deep (d1 := d + 1) (by omega) (m_person hst (by rw [k85]; exact ro.1.2) (fun y => ?_) (fun _ _ y => ?_) (fun _ _ _ => ?_))
    · rw [k7] at y; exact absurd ⟨z, z2⟩ y
    · rw [k85] at y; omega
    · rw [k85]
      have me : ∀ a i, ¬ (a = 124 ∧ i = h 30 0) → ¬ (a = 78 ∧ (i = 0 ∨ i = 1 ∨ i = 85)) → qup (qup (qup (qup k 78 1 0) 78 0 0) 124 (h 30 0) s) 78 85 (h 30 0 + 1) a i = k a i := fun a i p p2 => by rw [qup_of (by omega), qup_of p, qup_of (by omega), qup_of (by omega)]
      have m3 : qup (qup (qup (qup k 78 1 0) 78 0 0) 124 (h 30 0) s) 78 85 (h 30 0 + 1) 124 (h 30 0) = s ∧ qup (qup (qup (qup k 78 1 0) 78 0 0) 124 (h 30 0) s) 78 85 (h 30 0 + 1) 78 85 = h 30 0 + 1 ∧ qup (qup (qup (qup k 78 1 0) 78 0 0) 124 (h 30 0) s) 78 85 (h 30 0 + 1) 78 0 = 0 := ⟨by rw [qup_of (by omega), qup_at], qup_at, by rw [qup_of (by omega), qup_of (by omega), qup_at]⟩
      generalize qup (qup (qup (qup k 78 1 0) 78 0 0) 124 (h 30 0) s) 78 85 (h 30 0 + 1) = m at *
      have m30 : m 30 0 = h 30 0 + 1 := by rw [me 30 0 (by omega) (by omega)]; exact k3.2.1
      have m31 : m 30 1 = h 30 1 := by rw [me 30 1 (by omega) (by omega), ke 30 1 (by omega) (by omega) (by omega)]
      have m32 : m 30 2 = h 30 2 := by rw [me 30 2 (by omega) (by omega), ke 30 2 (by omega) (by omega) (by omega)]
      refine ⟨rfl, t, ts, c, cs, InvA_ro v (fun x i q q2 => ?_) ?_ ⟨?_, ?_, ?_, fun p a b => ?_, fun u a b => ?_⟩⟩
      · have n1 := nPst_x q
        have n2 := nPst_r q
        unfold Qro at q2
        rw [me x i (by omega) (by omega), ke x i (by omega) (by omega) n1]
      · rw [me 0 12 (by omega) (by omega), k3.2.2, m3.2.2]
      · rw [m3.2.1, m30]; omega
      · rw [me 78 86 (by omega) (by omega), ke 78 86 (by omega) (by omega) (by omega), m31]; exact ro.2.1
      · rw [me 78 87 (by omega) (by omega), ke 78 87 (by omega) (by omega) (by omega), m32]; exact ro.2.2.1
      · rw [m30] at b
        by_cases y : p = h 30 0
        · rw [y, m3.1, me 32 _ (by omega) (by omega), k3.1]; omega
        · rw [me 124 p (by omega) (by omega), me 32 p (by omega) (by omega), ke 124 p (by omega) (by omega) (by omega), ke 32 p (by omega) (by omega) (by omega)]
          exact ro.2.2.2.1 p a (by omega)
      · rw [m31] at b
        have f : ∀ a, 33 ≤ a → ¬ a = 124 → ¬ a = 78 → m a u = h a u := fun a p p2 p3 => by rw [me a u (by omega) (by omega), ke a u (by omega) (by omega) (by omega)]
        rw [f 125 (by decide) (by decide) (by decide), f 126 (by decide) (by decide) (by decide), f 127 (by decide) (by decide) (by decide), f 128 (by decide) (by decide) (by decide), f 33 (by decide) (by decide) (by decide), f 34 (by decide) (by decide) (by decide), f 35 (by decide) (by decide) (by decide), f 36 (by decide) (by decide) (by decide)]
        exact ro.2.2.2.2 u a b
theorem p_away {p f u w : Int} (v : Inv sh pt h) : RunI X (d + 21) mX10_away [(2, 0), (0, p), (0, f), (0, u), (0, w)] sh pt h (fun r h1 => RunI X (d + 21) mX11_away [(2, 78), (0, p), (0, f), (0, u), (0, w)] sh pt h1 (fun r1 h2 => r1 = r ∧ Inv sh pt h2)) := by
  obtain ⟨t, ts, c, cs, v⟩ := v
  have hst := v.2.1
  have ro := v.2.2.2.2.2.2.2.2.2.2.2.2.2.2.1
  have ro1 := ro.1
  have ro2 := ro.2.1
  have ae : ∀ g : qM, (∀ i, 85 ≤ i → i ≤ 87 → g 78 i = h 78 i) → awst (g 78 85) (g 78 86) (g 78 87) p f u w = awst (h 30 0) (h 30 1) (h 30 2) p f u w := fun g q => by rw [q 85 (by decide) (by decide), q 86 (by decide) (by decide), q 87 (by decide) (by decide), ro.1.1, ro.2.1.1, ro.2.2.1]
  refine RunI.deep (d1 := d + 1) (by omega) (x_away hst ro.2.1.2 (fun s es z => ?_) (fun z z2 z3 => ?_))
  · have fg : ∀ i, 85 ≤ i → i ≤ 87 → qup h 0 12 s 78 i = h 78 i := fun i _ _ => qup_of (by omega)
    refine RunI.deep (d1 := d + 3) (by omega) (m_away hst (by rw [fg 85 (by decide) (by decide), ro.1.1]; exact ro.1.2) (by rw [fg 86 (by decide) (by decide), ro.2.1.1]; exact ro.2.1.2) (fun s1 es1 _ => ⟨rfl, ?_⟩) (fun y => absurd (es.trans ((ae _ fg).symm.trans y)) z))
    rw [ae _ fg, ← es] at es1
    rw [ms3, es1]
    exact Inv_rs v Fst qup_at
  · have ke : ∀ a i, ¬ ((33 ≤ a ∧ a ≤ 36) ∧ i = h 30 1) → ¬ (a = 30 ∧ (i = 1 ∨ i = 2)) → ¬ (a = 0 ∧ i = 12) → qup (qup (qup (qup (qup (qup (qup h 33 (h 30 1) p) 34 (h 30 1) f) 35 (h 30 1) u) 36 (h 30 1) w) 30 1 (h 30 1 + 1)) 30 2 w) 0 12 0 a i = h a i := fun a i q1 q2 q3 => by rw [qup_of q3, qup_of (by omega), qup_of (by omega), qup_of (by omega), qup_of (by omega), qup_of (by omega), qup_of (by omega)]
    have k3 : qup (qup (qup (qup (qup (qup (qup h 33 (h 30 1) p) 34 (h 30 1) f) 35 (h 30 1) u) 36 (h 30 1) w) 30 1 (h 30 1 + 1)) 30 2 w) 0 12 0 33 (h 30 1) = p ∧ qup (qup (qup (qup (qup (qup (qup h 33 (h 30 1) p) 34 (h 30 1) f) 35 (h 30 1) u) 36 (h 30 1) w) 30 1 (h 30 1 + 1)) 30 2 w) 0 12 0 34 (h 30 1) = f ∧ qup (qup (qup (qup (qup (qup (qup h 33 (h 30 1) p) 34 (h 30 1) f) 35 (h 30 1) u) 36 (h 30 1) w) 30 1 (h 30 1 + 1)) 30 2 w) 0 12 0 35 (h 30 1) = u ∧ qup (qup (qup (qup (qup (qup (qup h 33 (h 30 1) p) 34 (h 30 1) f) 35 (h 30 1) u) 36 (h 30 1) w) 30 1 (h 30 1 + 1)) 30 2 w) 0 12 0 36 (h 30 1) = w ∧ qup (qup (qup (qup (qup (qup (qup h 33 (h 30 1) p) 34 (h 30 1) f) 35 (h 30 1) u) 36 (h 30 1) w) 30 1 (h 30 1 + 1)) 30 2 w) 0 12 0 30 1 = h 30 1 + 1 ∧ qup (qup (qup (qup (qup (qup (qup h 33 (h 30 1) p) 34 (h 30 1) f) 35 (h 30 1) u) 36 (h 30 1) w) 30 1 (h 30 1 + 1)) 30 2 w) 0 12 0 30 2 = w ∧ qup (qup (qup (qup (qup (qup (qup h 33 (h 30 1) p) 34 (h 30 1) f) 35 (h 30 1) u) 36 (h 30 1) w) 30 1 (h 30 1 + 1)) 30 2 w) 0 12 0 0 12 = 0 := by
      simp only [qup_ap, Int.reduceEq, Int.reduceNeg, false_and, and_false, true_and, and_true, and_self, reduceIte]
    generalize qup (qup (qup (qup (qup (qup (qup h 33 (h 30 1) p) 34 (h 30 1) f) 35 (h 30 1) u) 36 (h 30 1) w) 30 1 (h 30 1 + 1)) 30 2 w) 0 12 0 = k at *
    have fg : ∀ i, 85 ≤ i → i ≤ 87 → k 78 i = h 78 i := fun i _ _ => ke 78 i (by omega) (by omega) (by omega)
    refine RunI.deep (d1 := d + 3) (by omega) (m_away hst (by rw [fg 85 (by decide) (by decide), ro.1.1]; exact ro.1.2) (by rw [fg 86 (by decide) (by decide), ro.2.1.1]; exact ro.2.1.2) (fun s1 es1 y => absurd (es1.trans ((ae _ fg).trans z)) y) (fun _ _ _ => ?_))
    rw [fg 86 (by decide) (by decide), ro.2.1.1]
    have me : ∀ a i, ¬ ((125 ≤ a ∧ a ≤ 128) ∧ i = h 30 1) → ¬ (a = 78 ∧ (i = 0 ∨ i = 1 ∨ i = 86 ∨ i = 87)) → qup (qup (qup (qup (qup (qup (qup (qup k 78 1 0) 78 0 0) 125 (h 30 1) p) 126 (h 30 1) f) 127 (h 30 1) u) 128 (h 30 1) w) 78 86 (h 30 1 + 1)) 78 87 w a i = k a i := fun a i q1 q2 => by rw [qup_of (by omega), qup_of (by omega), qup_of (by omega), qup_of (by omega), qup_of (by omega), qup_of (by omega), qup_of (by omega), qup_of (by omega)]
    have m3 : qup (qup (qup (qup (qup (qup (qup (qup k 78 1 0) 78 0 0) 125 (h 30 1) p) 126 (h 30 1) f) 127 (h 30 1) u) 128 (h 30 1) w) 78 86 (h 30 1 + 1)) 78 87 w 125 (h 30 1) = p ∧ qup (qup (qup (qup (qup (qup (qup (qup k 78 1 0) 78 0 0) 125 (h 30 1) p) 126 (h 30 1) f) 127 (h 30 1) u) 128 (h 30 1) w) 78 86 (h 30 1 + 1)) 78 87 w 126 (h 30 1) = f ∧ qup (qup (qup (qup (qup (qup (qup (qup k 78 1 0) 78 0 0) 125 (h 30 1) p) 126 (h 30 1) f) 127 (h 30 1) u) 128 (h 30 1) w) 78 86 (h 30 1 + 1)) 78 87 w 127 (h 30 1) = u ∧ qup (qup (qup (qup (qup (qup (qup (qup k 78 1 0) 78 0 0) 125 (h 30 1) p) 126 (h 30 1) f) 127 (h 30 1) u) 128 (h 30 1) w) 78 86 (h 30 1 + 1)) 78 87 w 128 (h 30 1) = w ∧ qup (qup (qup (qup (qup (qup (qup (qup k 78 1 0) 78 0 0) 125 (h 30 1) p) 126 (h 30 1) f) 127 (h 30 1) u) 128 (h 30 1) w) 78 86 (h 30 1 + 1)) 78 87 w 78 86 = h 30 1 + 1 ∧ qup (qup (qup (qup (qup (qup (qup (qup k 78 1 0) 78 0 0) 125 (h 30 1) p) 126 (h 30 1) f) 127 (h 30 1) u) 128 (h 30 1) w) 78 86 (h 30 1 + 1)) 78 87 w 78 87 = w ∧ qup (qup (qup (qup (qup (qup (qup (qup k 78 1 0) 78 0 0) 125 (h 30 1) p) 126 (h 30 1) f) 127 (h 30 1) u) 128 (h 30 1) w) 78 86 (h 30 1 + 1)) 78 87 w 78 0 = 0 := by
      simp only [qup_ap, Int.reduceEq, Int.reduceNeg, false_and, and_false, true_and, and_true, and_self, reduceIte]
    generalize qup (qup (qup (qup (qup (qup (qup (qup k 78 1 0) 78 0 0) 125 (h 30 1) p) 126 (h 30 1) f) 127 (h 30 1) u) 128 (h 30 1) w) 78 86 (h 30 1 + 1)) 78 87 w = m at *
    obtain ⟨k33, k34, k35, k36, k301, k302, k012⟩ := k3
    obtain ⟨m125, m126, m127, m128, m86, m87, m80⟩ := m3
    have m30 : m 30 0 = h 30 0 := by rw [me 30 0 (by omega) (by omega), ke 30 0 (by omega) (by omega) (by omega)]
    have m31 : m 30 1 = h 30 1 + 1 := by rw [me 30 1 (by omega) (by omega), k301]
    have m32 : m 30 2 = w := by rw [me 30 2 (by omega) (by omega), k302]
    refine ⟨rfl, t, ts, c, cs, InvA_ro v (fun x i q q2 => ?_) ?_ ⟨?_, ?_, ?_, fun p1 a b => ?_, fun u1 a b => ?_⟩⟩
    · have n1 := nPst_x q
      have n2 := nPst_r q
      unfold Qro at q2
      rw [me x i (by omega) (by omega), ke x i (by omega) (by omega) n1]
    · rw [me 0 12 (by omega) (by omega), k012, m80]
    · rw [me 78 85 (by omega) (by omega), ke 78 85 (by omega) (by omega) (by omega), m30]; exact ro.1
    · rw [m86, m31]; omega
    · rw [m87, m32]
    · rw [m30] at b
      rw [me 124 p1 (by omega) (by omega), me 32 p1 (by omega) (by omega), ke 124 p1 (by omega) (by omega) (by omega), ke 32 p1 (by omega) (by omega) (by omega)]
      exact ro.2.2.2.1 p1 a b
    · rw [m31] at b
      by_cases y : u1 = h 30 1
      · rw [y, m125, m126, m127, m128, me 33 _ (by omega) (by omega), me 34 _ (by omega) (by omega), me 35 _ (by omega) (by omega), me 36 _ (by omega) (by omega), k33, k34, k35, k36]
        omega
      · have f9 : ∀ a, 33 ≤ a → ¬ a = 78 → m a u1 = h a u1 := fun a p p3 => by rw [me a u1 (by omega) (by omega), ke a u1 (by omega) (by omega) (by omega)]
        rw [f9 125 (by decide) (by decide), f9 126 (by decide) (by decide), f9 127 (by decide) (by decide), f9 128 (by decide) (by decide), f9 33 (by decide) (by decide), f9 34 (by decide) (by decide), f9 35 (by decide) (by decide), f9 36 (by decide) (by decide)]
        exact ro.2.2.2.2 u1 a (by omega)
theorem goesF_0 {tm M v1 v2 v3 r : Int} {bE bN sE sN : Int → Int} (e : (r, (0 : Int)) = goesF tm M v1 v2 v3 bE bN sE sN) : 1 ≤ v2 ∧ v2 ≤ 6 := by
  unfold goesF at e
  by_cases a : ¬ (0 ≤ v1 ∧ v1 < 4)
  · rw [if_pos a] at e; exact absurd (Prod.mk.inj e).2 (by decide)
  rw [if_neg a] at e
  by_cases b : tm < 0
  · rw [if_pos b] at e; exact absurd (Prod.mk.inj e).2 (by decide)
  rw [if_neg b] at e
  by_cases q : ¬ (1 ≤ v2 ∧ v2 ≤ 6 ∧ v2 ≤ M ∧ 1 ≤ v3 ∧ v3 ≤ 40)
  · rw [if_pos q] at e; exact absurd (Prod.mk.inj e).2 (by decide)
  · omega
theorem p_goes {v1 v2 v3 : Int} (v : Inv sh pt h) : RunI X (d + 21) mX10_goes [(2, 0), (0, v1), (0, v2), (0, v3)] sh pt h (fun r h1 => RunI X (d + 21) mX11_goes_ [(2, 78), (0, v1), (0, v2), (0, v3)] sh pt h1 (fun r1 h2 => r1 = r ∧ Inv sh pt h2)) := by
  obtain ⟨t, ts, c, cs, v⟩ := v
  have hst := v.2.1
  have gr := v.2.2.2.2.2.1
  have gr1 := gr.1
  have tr := v.2.2.2.2.1
  have pl := v.2.2.2.2.2.2.2.2.2.2.2.2.1
  have pl1 := pl.1
  refine RunI.deep (d1 := d + 11) (by omega) (x_goes (tm := h 80 v1) (M := h 2 3) (bE := h 3) (bN := h 4) (sE := fun s => h (71 + 2 * v1) (2 * s)) (sN := fun s => h (71 + 2 * v1) (2 * s + 1)) hst (fun a b => ?_) rfl (fun m a b => ?_) (fun a b s a2 b2 => ⟨rfl, rfl⟩) (fun r s e h1 f1 y0 y1 => ?_))
  · have y := tr v1 a b
    rcases y.2.2 with w | w
    · exact Or.inl w
    · exact Or.inr ⟨w.1, w.2.1.symm, by omega, by omega⟩
  · have y := gr.2 m a b
    exact ⟨rfl, rfl, y.2.2.2.1.1, y.2.2.2.1.2, y.2.2.2.2.1.1, y.2.2.2.2.1.2⟩
  · have he : ∀ a i, ¬ PXg a i → ¬ (a = 0 ∧ i = 12) → qup h1 0 12 s a i = h a i := fun a i p q => by rw [qup_of q, f1 a i p]
    have g19 : ∀ a i, 19 ≤ a → a ≤ 27 → qup h1 0 12 s a i = h1 a i := fun a i _ _ => qup_of (by omega)
    have g12 : qup h1 0 12 s 0 12 = s := qup_at
    generalize qup h1 0 12 s = k at *
    have hr : ∀ a i, 28 ≤ a → k a i = h a i := fun a i p => he a i (by unfold PXg; omega) (by omega)
    refine RunI.deep (d1 := d + 12) (by omega) (m_goes (tm := h 80 v1) (M := h 2 3) (bE := h 3) (bN := h 4) (sE := fun s => h (71 + 2 * v1) (2 * s)) (sN := fun s => h (71 + 2 * v1) (2 * s + 1)) hst (fun a b => ?_) ?_ gr.1.2.2 (fun m a b => ?_) (fun a b s a2 b2 => ?_) (fun r1 s1 e1 h2 f2 z0 z1 => ?_))
    · have y := tr v1 a b
      rw [hr 80 v1 (by decide)]
      rcases y.2.2 with w | w
      · exact ⟨rfl, by omega, by omega⟩
      · exact ⟨rfl, by omega, by omega⟩
    · rw [hr 78 7 (by decide)]; exact gr.1.1
    · have y := gr.2 m a b
      rw [hr 82 m (by decide), hr 83 m (by decide)]
      exact ⟨y.1, y.2.1, y.2.2.2.1.1, y.2.2.2.1.2, y.2.2.2.2.1.1, y.2.2.2.2.1.2⟩
    · have y := tr v1 a b
      rw [hr 81 _ (by decide), hr 81 _ (by decide)]
      rcases y.2.2 with w | w
      · omega
      · have w1 := w.2.2.2 (2 * s) (by omega) (by omega)
        have w2 := w.2.2.2 (2 * s + 1) (by omega) (by omega)
        rw [show 40 * v1 + 2 * s + 1 = 40 * v1 + (2 * s + 1) by omega]
        exact ⟨w1, w2⟩
    · obtain ⟨er, es⟩ := pr_in e e1
      rw [es] at f2 z0 z1
      refine ⟨er, t, ts, c, cs, InvA_pl v (fun x i q q2 => ?_) ?_ ?_⟩
      · have n1 := nPst_x q
        have n2 := nPst_r q
        unfold Qpl at q2
        have n3 : ¬ PMg x i := fun z => by
          rcases z with z | z | z | z | z | z
          · exact q (pj_18 ⟨by omega, by omega⟩)
          · exact q (pj_18 ⟨by omega, by omega⟩)
          · exact q (pj_18 ⟨by omega, by omega⟩)
          · exact q (pj_18 ⟨by omega, by omega⟩)
          · omega
          · exact q (pj_23 ⟨z.1, by omega⟩)
        rw [f2 x i n3, ms_Fr x i n2, he x i (fun z => q (Pj_Xg z (by omega) (by omega))) n1]
      · rw [f2 0 12 (by unfold PMg; omega), f2 78 0 (by unfold PMg; omega), ms_of (by decide), g12, ms_at.1]
      · have u19 : ∀ a i, 19 ≤ a → a ≤ 27 → h2 a i = h1 a i := fun a i p q => by rw [f2 a i (by unfold PMg; omega), ms_of (by omega), g19 a i p q]
        unfold iPl
        rw [u19 19 0 (by decide) (by decide), u19 19 2 (by decide) (by decide)]
        by_cases sz : s = 0
        · have a0 := y0 sz
          have b0 := z0 sz
          rw [sz] at e
          have g6 := goesF_0 e
          rw [a0.1, a0.2.1, b0.1, b0.2.1]
          refine ⟨⟨rfl, by omega⟩, fun _ => ⟨rfl, fun j p0 p1 => ?_⟩⟩
          rw [u19 20 j (by decide) (by decide), a0.2.2 j p0 p1, b0.2.2 j p0 p1]
        · have a0 := y1 sz
          have b0 := z1 sz
          rw [a0.1, a0.2.1, b0.1, b0.2.1, hr 78 76 (by decide), hr 78 77 (by decide)]
          refine ⟨pl.1, fun w => ⟨(pl.2 w).1, fun j p0 p1 => ?_⟩⟩
          rw [u19 20 j (by decide) (by decide), a0.2.2 j, b0.2.2 j, hr 119 j (by decide)]
          exact (pl.2 w).2 j p0 p1
end
