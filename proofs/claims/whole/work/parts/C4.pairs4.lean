/-! pairs: trays -/
section
variable {X : qX} {d : Nat} {sh : qS} {pt h g : qM} {t ts c cs : Int}
theorem pl_eq {v1 v2 : Int} (q : iTr h) (f : ∀ a i, (79 ≤ a ∧ a ≤ 81) → g a i = h a i) : plsm (g 80 v1) v1 v2 = plst (h (70 + 2 * v1) 1) (h (70 + 2 * v1) 3) v1 v2 := by
  rw [f 80 v1 (by omega)]
  unfold plsm plst
  by_cases z : 0 ≤ v1 ∧ v1 < 4
  · have y := q v1 z.1 z.2
    have nz : ¬ ¬ (0 ≤ v1 ∧ v1 < 4) := fun y => y z
    rw [if_neg nz, if_neg nz]
    rcases y.2.2 with w | w
    · rw [if_pos (show h 80 v1 < 0 by omega), if_pos w.1]
    · rw [if_neg (show ¬ h 80 v1 < 0 by omega), if_neg (show ¬ h (70 + 2 * v1) 1 = 0 by omega), w.2.1]
  · rw [if_pos z, if_pos z]
theorem p_read {v1 v2 : Int} (v : Inv sh pt h) : RunL X (d + 21) mX10_read [(2, 0), (0, v1), (0, v2)] sh pt h (fun r h1 => RunL X (d + 21) mX11_read [(2, 78), (0, v1), (0, v2)] sh pt h1 (fun r1 h2 => r1 = r ∧ Inv sh pt h2)) := by
  obtain ⟨t, ts, c, cs, v⟩ := v
  have hst := v.2.1
  have tr := v.2.2.2.2.1
  have pe : ∀ s, plsm (qup h 0 12 s 80 v1) v1 v2 = plst (h (70 + 2 * v1) 1) (h (70 + 2 * v1) 3) v1 v2 := fun s => pl_eq (g := qup h 0 12 s) tr (fun a i q => qup_of (by omega))
  have m40 : ∀ s, 0 ≤ v1 → v1 < 4 → qup h 0 12 s 80 v1 ≤ 40 := fun s a b => by
    rw [qup_of (by omega)]
    have y := tr v1 a b
    rcases y.2.2 with w | w <;> omega
  refine RunL.deep (d1 := d + 2) (by omega) (x_read hst (fun a b => (tr v1 a b).1) (fun z => ?_) (fun z => ?_))
  · refine RunL.deep (d1 := d + 2) (by omega) (m_read hst (m40 _) (fun _ => ⟨rfl, ?_⟩) (fun y => absurd ((pe _).symm.trans y) z))
    rw [pe]
    exact Inv_rs v Fst qup_at
  · refine RunL.deep (d1 := d + 2) (by omega) (m_read hst (m40 _) (fun y => absurd ((pe _).trans z) y) (fun _ => ⟨?_, Inv_rs (s := 0) v Fst qup_at⟩))
    have pz := pe 0
    rw [z] at pz
    obtain ⟨p1, p2⟩ := plsm_0 (Int.le_of_eq pz)
    have y := tr v1 p1.1 p1.2
    rw [qup_of (by omega)] at p2 ⊢
    rcases y.2.2 with w | w
    · omega
    · exact w.2.2.2 v2 p2.1 (by omega)
theorem p_write {v1 v2 v3 : Int} (v : Inv sh pt h) : RunI X (d + 21) mX10_write [(2, 0), (0, v1), (0, v2), (1, v3)] sh pt h (fun r h1 => RunI X (d + 21) mX11_write [(2, 78), (0, v1), (0, v2), (1, v3)] sh pt h1 (fun r1 h2 => r1 = r ∧ Inv sh pt h2)) := by
  obtain ⟨t, ts, c, cs, v⟩ := v
  have hst := v.2.1
  have tr := v.2.2.2.2.1
  refine RunI.deep (d1 := d + 3) (by omega) (x_write hst (fun a b => ⟨(tr v1 a b).1, (tr v1 a b).2.1⟩) (fun z => ?_) (fun z => ?_))
  · have pe : ∀ s, plsm (qup h 0 12 s 80 v1) v1 v2 = plst (h (70 + 2 * v1) 1) (h (70 + 2 * v1) 3) v1 v2 := fun s => pl_eq (g := qup h 0 12 s) tr (fun a i q => qup_of (by omega))
    have m40 : ∀ s, 0 ≤ v1 → v1 < 4 → qup h 0 12 s 80 v1 ≤ 40 := fun s a b => by
      rw [qup_of (by omega)]
      have y := tr v1 a b
      rcases y.2.2 with w | w <;> omega
    refine RunI.deep (d1 := d + 2) (by omega) (m_write hst (m40 _) (fun _ => ⟨rfl, ?_⟩) (fun y => absurd ((pe _).symm.trans y) z))
    rw [pe]
    exact Inv_rs v Fst qup_at
  · have ps := pl_eq (g := h) (v1 := v1) (v2 := v2) tr (fun a i _ => rfl)
    rw [z] at ps
    obtain ⟨p1, p2⟩ := plsm_0 (Int.le_of_eq ps)
    have y := tr v1 p1.1 p1.2
    have w : h (70 + 2 * v1) 1 = 1 ∧ h 80 v1 = h (70 + 2 * v1) 3 ∧ h 79 v1 = h (70 + 2 * v1) 2 ∧ ∀ j, 0 ≤ j → j < h (70 + 2 * v1) 3 → h 81 (40 * v1 + j) = h (71 + 2 * v1) j := by
      rcases y.2.2 with w | w
      · omega
      · exact w
    have ke : ∀ a i, ¬ (a = 71 + 2 * v1 ∧ i = v2) → ¬ (a = 0 ∧ i = 12) → qup (qup h (71 + 2 * v1) v2 (qcut (h (70 + 2 * v1) 2) v3)) 0 12 0 a i = h a i := fun a i p q => by rw [qup_of q, qup_of p]
    have ka : qup (qup h (71 + 2 * v1) v2 (qcut (h (70 + 2 * v1) 2) v3)) 0 12 0 (71 + 2 * v1) v2 = qcut (h (70 + 2 * v1) 2) v3 := by rw [qup_of (by omega), qup_at]
    have k0 : qup (qup h (71 + 2 * v1) v2 (qcut (h (70 + 2 * v1) 2) v3)) 0 12 0 0 12 = 0 := qup_at
    generalize qup (qup h (71 + 2 * v1) v2 (qcut (h (70 + 2 * v1) 2) v3)) 0 12 0 = k at *
    have e80 : k 80 v1 = h 80 v1 := ke _ _ (by omega) (by omega)
    have e79 : k 79 v1 = h 79 v1 := ke _ _ (by omega) (by omega)
    refine RunI.deep (d1 := d + 2) (by omega) (m_write hst (fun _ _ => by omega) (fun q => absurd (by rw [e80]; exact ps) q) (fun _ => ⟨rfl, t, ts, c, cs, ?_⟩))
    rw [e79, w.2.2.1]
    have me : ∀ a i, ¬ (a = 81 ∧ i = 40 * v1 + v2) → ¬ (a = 78 ∧ i ≤ 1) → qup (qup (qup k 78 1 0) 78 0 0) 81 (40 * v1 + v2) (qcut (h (70 + 2 * v1) 2) v3) a i = k a i := fun a i p q => by rw [qup_of p, qup_of (by omega), qup_of (by omega)]
    have ma : qup (qup (qup k 78 1 0) 78 0 0) 81 (40 * v1 + v2) (qcut (h (70 + 2 * v1) 2) v3) 81 (40 * v1 + v2) = qcut (h (70 + 2 * v1) 2) v3 := qup_at
    have m0 : qup (qup (qup k 78 1 0) 78 0 0) 81 (40 * v1 + v2) (qcut (h (70 + 2 * v1) 2) v3) 78 0 = 0 := by rw [qup_of (by omega), qup_at]
    generalize qup (qup (qup k 78 1 0) 78 0 0) 81 (40 * v1 + v2) (qcut (h (70 + 2 * v1) 2) v3) = m at *
    refine InvA_tr v (fun a i q q2 => ?_) ?_ (fun u a b => ?_)
    · have n1 := nPst_x q
      have n2 := nPst_r q
      unfold Qtr at q2
      rw [me a i (by omega) n2, ke a i (by omega) n1]
    · rw [me 0 12 (by omega) (by omega), k0, m0]
    · have yu := tr u a b
      have f70 : ∀ i, m (70 + 2 * u) i = h (70 + 2 * u) i := fun i => by rw [me _ _ (by omega) (by omega), ke _ _ (by omega) (by omega)]
      rw [f70, f70, f70, me 80 u (by omega) (by omega), ke 80 u (by omega) (by omega), me 79 u (by omega) (by omega), ke 79 u (by omega) (by omega)]
      refine ⟨yu.1, yu.2.1, ?_⟩
      rcases yu.2.2 with x | x
      · exact Or.inl x
      · refine Or.inr ⟨x.1, x.2.1, x.2.2.1, fun j p0 p1 => ?_⟩
        by_cases e : u = v1 ∧ j = v2
        · rw [e.1, e.2, ma, me _ _ (by omega) (by omega), ka]
        · rw [me 81 _ (by omega) (by omega), me (71 + 2 * u) _ (by omega) (by omega), ke 81 _ (by omega) (by omega), ke (71 + 2 * u) _ (by omega) (by omega)]
          exact x.2.2.2 j p0 p1
theorem p_tray {v1 v2 v3 : Int} (v : Inv sh pt h) : RunI X (d + 21) mX10_tray [(2, 0), (0, v1), (0, v2), (0, v3)] sh pt h (fun r h1 => RunI X (d + 21) mX11_tray [(2, 78), (0, v1), (0, v2), (0, v3)] sh pt h1 (fun r1 h2 => r1 = r ∧ Inv sh pt h2)) := by
  obtain ⟨t, ts, c, cs, v⟩ := v
  have hst := v.2.1
  have tr := v.2.2.2.2.1
  have g0 : ∀ s, Inv sh pt (qup (qup (qup (qup h 0 12 s) 78 1 0) 78 0 0) 78 0 s) := fun s => by rw [ms3]; exact Inv_rs v Fst qup_at
  refine RunI.deep (d1 := d + 2) (by omega) (x_tray hst (fun z => ?_) (fun z z2 => ?_) (fun z z2 => ?_) (fun z z2 z3 h1 f1 a1 a2 a3 a4 => ?_))
  · exact RunI.deep (d1 := d + 1) (by omega) (m_tray hst (fun _ => ⟨rfl, g0 1⟩) (fun y => absurd y z) (fun y => absurd y z) (fun y => absurd y z))
  · exact RunI.deep (d1 := d + 1) (by omega) (m_tray hst (fun y => absurd z y) (fun _ _ => ⟨rfl, g0 5⟩) (fun _ y => by omega) (fun _ _ y => by omega))
  · exact RunI.deep (d1 := d + 1) (by omega) (m_tray hst (fun y => absurd z y) (fun _ y => by omega) (fun _ _ => ⟨rfl, g0 6⟩) (fun _ y => by omega))
  · refine RunI.deep (d1 := d + 1) (by omega) (m_tray hst (fun y => absurd z y) (fun _ y => by omega) (fun _ y => by omega) (fun _ _ _ h2 f2 b1 => ⟨rfl, t, ts, c, cs, ?_⟩))
    have he : ∀ a i, ¬ (a = 81 ∧ 40 * v1 ≤ i ∧ i < 40 * v1 + v3) → ¬ (a = 79 ∧ i = v1) → ¬ (a = 80 ∧ i = v1) → ¬ (a = 78 ∧ i ≤ 1) → ¬ (a = 0 ∧ i = 12) → h2 a i = h1 a i := fun a i p p2 p3 p4 p5 => by rw [f2 a i p, qup_of (by omega), qup_of (by omega), qup_of (by omega), qup_of (by omega), qup_of (by omega)]
    have e80 : h2 80 v1 = v3 := by rw [f2 80 v1 (by omega), qup_at]
    have e79 : h2 79 v1 = v2 := by rw [f2 79 v1 (by omega), qup_of (by omega), qup_at]
    have e0 : h2 78 0 = 0 := by rw [f2 78 0 (by omega), qup_of (by omega), qup_of (by omega), qup_at]
    have ex : h2 0 12 = 0 := by rw [f2 0 12 (by omega), qup_of (by omega), qup_of (by omega), qup_of (by omega), qup_of (by omega), qup_at]
    refine InvA_tr v (fun a i q q2 => ?_) (by rw [ex, e0]) (fun u a b => ?_)
    · have n1 := nPst_x q
      have n2 := nPst_r q
      unfold Qtr at q2
      rw [he a i (by omega) (by omega) (by omega) n2 n1, f1 a i (by omega)]
    · have f70 : ∀ i, h2 (70 + 2 * u) i = h1 (70 + 2 * u) i := fun i => he _ _ (by omega) (by omega) (by omega) (by omega) (by omega)
      have f71 : ∀ i, h2 (71 + 2 * u) i = h1 (71 + 2 * u) i := fun i => he _ _ (by omega) (by omega) (by omega) (by omega) (by omega)
      by_cases e : u = v1
      · rw [f70, f70, f70, e, a1, a2, a3, e80, e79]
        refine ⟨by omega, by omega, Or.inr ⟨rfl, rfl, rfl, fun j p0 p1 => ?_⟩⟩
        have f71' := f71 j
        rw [e] at f71'
        rw [f71', a4 j p0 (by omega), b1 j p0 p1]
      · have yu := tr u a b
        have g70 : ∀ i, h1 (70 + 2 * u) i = h (70 + 2 * u) i := fun i => f1 _ _ (by omega)
        rw [f70, f70, f70, g70, g70, g70, he 80 u (by omega) (by omega) (by omega) (by omega) (by omega), he 79 u (by omega) (by omega) (by omega) (by omega) (by omega), f1 80 u (by omega), f1 79 u (by omega)]
        refine ⟨yu.1, yu.2.1, ?_⟩
        rcases yu.2.2 with x | x
        · exact Or.inl x
        · refine Or.inr ⟨x.1, x.2.1, x.2.2.1, fun j p0 p1 => ?_⟩
          rw [f71, f1 (71 + 2 * u) j (by omega), he 81 _ (by omega) (by omega) (by omega) (by omega) (by omega), f1 81 _ (by omega)]
          exact x.2.2.2 j p0 p1
theorem p_pour {v1 v2 v3 v4 v5 : Int} (q2 : qI v2) (q4 : qI v4) (q5 : qI v5) (v : Inv sh pt h) : RunI X (d + 21) mX10_pour [(2, 0), (0, v1), (0, v2), (0, v3), (0, v4), (0, v5)] sh pt h (fun r h1 => RunI X (d + 21) mX11_pour [(2, 78), (0, v1), (0, v2), (0, v3), (0, v4), (0, v5)] sh pt h1 (fun r1 h2 => r1 = r ∧ Inv sh pt h2)) := by
  obtain ⟨t, ts, c, cs, v⟩ := v
  have hst := v.2.1
  have tr := v.2.2.2.2.1
  have pe : ∀ g : qM, (∀ a i, 79 ≤ a → a ≤ 80 → g a i = h a i) → pstm (g 80 v1) (g 80 v3) (g 79 v1) (g 79 v3) v1 v2 v3 v4 v5 = pst (h (70 + 2 * v1) 1) (h (70 + 2 * v3) 1) (h (70 + 2 * v1) 2) (h (70 + 2 * v3) 2) (h (70 + 2 * v1) 3) (h (70 + 2 * v3) 3) v1 v2 v3 v4 v5 := by
    intro g f
    rw [f 80 v1 (by decide) (by decide), f 80 v3 (by decide) (by decide), f 79 v1 (by decide) (by decide), f 79 v3 (by decide) (by decide)]
    unfold pstm pst
    by_cases z : 0 ≤ v1 ∧ v1 < 4 ∧ 0 ≤ v3 ∧ v3 < 4
    · have y1 := tr v1 z.1 z.2.1
      have y3 := tr v3 z.2.2.1 z.2.2.2
      have nz : ¬ ¬ (0 ≤ v1 ∧ v1 < 4 ∧ 0 ≤ v3 ∧ v3 < 4) := fun y => y z
      rw [if_neg nz, if_neg nz]
      rcases y1.2.2 with w | w
      · rw [if_pos (show h 80 v1 < 0 ∨ h 80 v3 < 0 from Or.inl (by omega)), if_pos (show h (70 + 2 * v1) 1 = 0 ∨ h (70 + 2 * v3) 1 = 0 from Or.inl w.1)]
      rcases y3.2.2 with x | x
      · rw [if_pos (show h 80 v1 < 0 ∨ h 80 v3 < 0 from Or.inr (by omega)), if_pos (show h (70 + 2 * v1) 1 = 0 ∨ h (70 + 2 * v3) 1 = 0 from Or.inr x.1)]
      · rw [if_neg (show ¬ (h 80 v1 < 0 ∨ h 80 v3 < 0) by omega), if_neg (show ¬ (h (70 + 2 * v1) 1 = 0 ∨ h (70 + 2 * v3) 1 = 0) by omega), w.2.1, x.2.1, w.2.2.1, x.2.2.1]
    · rw [if_pos z, if_pos z]
  have m40 : ∀ g : qM, (∀ a i, 79 ≤ a → a ≤ 80 → g a i = h a i) → ∀ u : Int, 0 ≤ u → u < 4 → g 80 u ≤ 40 := fun g f u a b => by
    rw [f 80 u (by decide) (by decide)]
    have y := tr u a b
    rcases y.2.2 with w | w <;> omega
  refine RunI.deep (d1 := d + 2) (by omega) (x_pour hst (fun u a b => (tr u a b).1) q5 (fun w ew z => ?_) (fun z => ?_))
  · have fg : ∀ a i, 79 ≤ a → a ≤ 80 → qup h 0 12 w a i = h a i := fun a i _ _ => qup_of (by omega)
    refine RunI.deep (d1 := d + 1) (by omega) (m_pour hst (m40 _ fg) q2 q4 q5 (fun w1 ew1 _ => ⟨rfl, ?_⟩) (fun y => absurd (ew.trans ((pe _ fg).symm.trans y)) z))
    rw [pe _ fg, ← ew] at ew1
    rw [ms3, ew1]
    exact Inv_rs v Fst qup_at
  · have fg : ∀ a i, 79 ≤ a → a ≤ 80 → qup (qcp h (71 + 2 * v1) v2 (71 + 2 * v3) v4 v5) 0 12 0 a i = h a i := fun a i _ _ => by
      have := z
      unfold pst at this
      have vv : 0 ≤ v3 ∧ v3 < 4 := by
        by_cases y : 0 ≤ v1 ∧ v1 < 4 ∧ 0 ≤ v3 ∧ v3 < 4
        · exact y.2.2
        · rw [if_pos y] at this; exact absurd this (by decide)
      rw [qup_of (by omega), qcp_of (by omega)]
    have zz := z
    unfold pst at zz
    by_cases y : 0 ≤ v1 ∧ v1 < 4 ∧ 0 ≤ v3 ∧ v3 < 4
    case neg => rw [if_pos y] at zz; exact absurd zz (by decide)
    rw [if_neg (by omega)] at zz
    have y1 := tr v1 y.1 y.2.1
    have y3 := tr v3 y.2.2.1 y.2.2.2
    by_cases l : h (70 + 2 * v1) 1 = 0 ∨ h (70 + 2 * v3) 1 = 0
    · rw [if_pos l] at zz; exact absurd zz (by decide)
    rw [if_neg l] at zz
    by_cases l2 : h (70 + 2 * v1) 2 ≠ h (70 + 2 * v3) 2
    · rw [if_pos l2] at zz; exact absurd zz (by decide)
    rw [if_neg l2] at zz
    by_cases l3 : v5 < 0
    · rw [if_pos l3] at zz; exact absurd zz (by decide)
    rw [if_neg l3] at zz
    by_cases l4 : 0 ≤ v2 ∧ 0 ≤ v4 ∧ v2 + v5 ≤ h (70 + 2 * v1) 3 ∧ v4 + v5 ≤ h (70 + 2 * v3) 3
    case neg => rw [if_neg l4] at zz; exact absurd zz (by decide)
    have w1 : h (70 + 2 * v1) 1 = 1 ∧ h 80 v1 = h (70 + 2 * v1) 3 ∧ h 79 v1 = h (70 + 2 * v1) 2 ∧ ∀ j, 0 ≤ j → j < h (70 + 2 * v1) 3 → h 81 (40 * v1 + j) = h (71 + 2 * v1) j := by
      rcases y1.2.2 with w | w
      · exact absurd (Or.inl w.1) l
      · exact w
    have ke : ∀ a i, ¬ (a = 71 + 2 * v3 ∧ v4 ≤ i ∧ i < v4 + v5) → ¬ (a = 0 ∧ i = 12) → qup (qcp h (71 + 2 * v1) v2 (71 + 2 * v3) v4 v5) 0 12 0 a i = h a i := fun a i p q => by rw [qup_of q, qcp_of p]
    have ka : ∀ i, v4 ≤ i → i < v4 + v5 → qup (qcp h (71 + 2 * v1) v2 (71 + 2 * v3) v4 v5) 0 12 0 (71 + 2 * v3) i = h (71 + 2 * v1) (v2 + (i - v4)) := fun i a b => by rw [qup_of (by omega), qcp_at ⟨a, b⟩]
    have k0 : qup (qcp h (71 + 2 * v1) v2 (71 + 2 * v3) v4 v5) 0 12 0 0 12 = 0 := qup_at
    generalize qup (qcp h (71 + 2 * v1) v2 (71 + 2 * v3) v4 v5) 0 12 0 = k at *
    refine RunI.deep (d1 := d + 1) (by omega) (m_pour hst (m40 _ fg) q2 q4 q5 (fun w1 ew1 w2 => absurd (ew1.trans ((pe _ fg).trans z)) w2) (fun _ h2 f2 b2 => ⟨rfl, t, ts, c, cs, ?_⟩))
    have me : ∀ a i, ¬ (a = 81 ∧ 40 * v3 + v4 ≤ i ∧ i < 40 * v3 + v4 + v5) → ¬ (a = 78 ∧ i ≤ 1) → h2 a i = k a i := fun a i p q => by rw [f2 a i p, qup_of (by omega), qup_of (by omega)]
    have m0 : h2 78 0 = 0 := by rw [f2 78 0 (by omega), qup_at]
    refine InvA_tr v (fun a i q q2 => ?_) (by rw [me 0 12 (by omega) (by omega), k0, m0]) (fun u a b => ?_)
    · have n1 := nPst_x q
      have n2 := nPst_r q
      unfold Qtr at q2
      rw [me a i (by omega) n2, ke a i (by omega) n1]
    · have yu := tr u a b
      have f70 : ∀ i, h2 (70 + 2 * u) i = h (70 + 2 * u) i := fun i => by rw [me _ _ (by omega) (by omega), ke _ _ (by omega) (by omega)]
      rw [f70, f70, f70, me 80 u (by omega) (by omega), ke 80 u (by omega) (by omega), me 79 u (by omega) (by omega), ke 79 u (by omega) (by omega)]
      refine ⟨yu.1, yu.2.1, ?_⟩
      rcases yu.2.2 with x | x
      · exact Or.inl x
      · refine Or.inr ⟨x.1, x.2.1, x.2.2.1, fun j p0 p1 => ?_⟩
        by_cases e : u = v3 ∧ v4 ≤ j ∧ j < v4 + v5
        · rw [e.1]
          have bb := b2 (j - v4) (by omega) (by omega)
          rw [show 40 * v3 + v4 + (j - v4) = 40 * v3 + j by omega] at bb
          rw [bb, me _ _ (by omega) (by omega), ka j e.2.1 e.2.2, ke 81 _ (by omega) (by omega), show 40 * v1 + v2 + (j - v4) = 40 * v1 + (v2 + (j - v4)) by omega]
          exact w1.2.2.2 _ (by omega) (by omega)
        · rw [me 81 _ (by omega) (by omega), me (71 + 2 * u) _ (by omega) (by omega), ke 81 _ (by omega) (by omega), ke (71 + 2 * u) _ (by omega) (by omega)]
          exact x.2.2.2 j p0 p1
end
