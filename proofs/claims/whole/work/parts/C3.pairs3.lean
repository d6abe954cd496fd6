/-! pairs: marks, trays -/
section
variable {X : qX} {d : Nat} {sh : qS} {pt h g : qM} {t ts c cs : Int}
theorem nPst_x {a i : Int} (q : ¬ Pjk c cs a i) : ¬ (a = 0 ∧ i = 12) := fun z => q (Pj_x z)
theorem nPst_r {a i : Int} (q : ¬ Pjk c cs a i) : ¬ (a = 78 ∧ i ≤ 1) := fun z => q (Pj_r z)
theorem p_weight {v1 v2 : Int} (v : Inv sh pt h) : RunI X (d + 21) mX10_weight [(2, 0), (0, v1), (0, v2)] sh pt h (fun r h1 => RunI X (d + 21) mX11_weight [(2, 78), (0, v1), (0, v2)] sh pt h1 (fun r1 h2 => r1 = r ∧ Inv sh pt h2)) := by
  obtain ⟨t, ts, c, cs, v⟩ := v
  have hst := v.2.1
  have sc := v.2.2.2.2.2.2.2.2.2.2.2.2.2.2.2
  refine RunI.deep (d1 := d + 1) (by omega) (x_weight hst (fun z => ?_) (fun a b z => ?_) (fun a b a2 b2 => ?_))
  · exact RunI.deep (d1 := d + 1) (by omega) (m_weight hst (fun _ => ⟨rfl, by rw [ms3]; exact Inv_rs v Fst qup_at⟩) (fun a b => absurd ⟨a, b⟩ z) (fun a b => absurd ⟨a, b⟩ z))
  · exact RunI.deep (d1 := d + 1) (by omega) (m_weight hst (fun y => absurd ⟨a, b⟩ y) (fun _ _ _ => ⟨rfl, by rw [ms3]; exact Inv_rs v Fst qup_at⟩) (fun _ _ y1 y2 => absurd ⟨y1, y2⟩ z))
  · refine RunI.deep (d1 := d + 1) (by omega) (m_weight hst (fun y => absurd ⟨a, b⟩ y) (fun _ _ y => absurd ⟨a2, b2⟩ y) (fun _ _ _ _ => ⟨rfl, t, ts, c, cs, InvA_sc v (fun x i q q2 => ?_) ?_ ?_⟩))
    · have n1 := nPst_x q
      have n2 := nPst_r q
      unfold Qsc at q2
      rw [qup_of (by omega), qup_of (by omega), qup_of (by omega), qup_of (by omega), qup_of (by omega)]
    · rw [qup_of (by omega), qup_of (by omega), qup_of (by omega), qup_at, qup_of (by omega), qup_at]
    · refine ⟨fun s u j a b a2 b2 a3 b3 => ?_, fun u a b => ?_, ?_, ?_⟩
      · rw [qup_of (by omega), qup_of (by omega), qup_of (by omega), qup_of (by omega), qup_of (by omega), qup_of (by omega), qup_of (by omega), qup_of (by omega), qup_of (by omega), qup_of (by omega)]
        exact sc.1 s u j a b a2 b2 a3 b3
      · by_cases y : u = v1
        · rw [y, qup_at, qup_of (by omega), qup_of (by omega), qup_of (by omega), qup_of (by omega), qup_at]
          omega
        · rw [qup_of (by omega), qup_of (by omega), qup_of (by omega), qup_of (by omega), qup_of (by omega), qup_of (by omega), qup_of (by omega), qup_of (by omega), qup_of (by omega), qup_of (by omega)]
          exact sc.2.1 u a b
      · rw [qup_of (by omega), qup_of (by omega), qup_of (by omega), qup_of (by omega), qup_of (by omega), qup_of (by omega), qup_of (by omega), qup_of (by omega), qup_of (by omega), qup_of (by omega)]
        exact sc.2.2.1
      · rw [qup_of (by omega), qup_of (by omega), qup_of (by omega), qup_of (by omega), qup_of (by omega), qup_of (by omega), qup_of (by omega), qup_of (by omega), qup_of (by omega), qup_of (by omega)]
        exact sc.2.2.2
theorem p_mark {s j u w : Int} (v : Inv sh pt h) : RunI X (d + 21) mX10_mark [(2, 0), (0, s), (0, j), (0, u), (0, w)] sh pt h (fun r h1 => RunI X (d + 21) mX11_mark [(2, 78), (0, s), (0, j), (0, u), (0, w)] sh pt h1 (fun r1 h2 => r1 = r ∧ Inv sh pt h2)) := by
  obtain ⟨t, ts, c, cs, v⟩ := v
  have hst := v.2.1
  have sc := v.2.2.2.2.2.2.2.2.2.2.2.2.2.2.2
  refine RunI.deep (d1 := d + 1) (by omega) (x_mark hst (fun z => ?_) (fun a z => ?_) (fun a a2 b2 => ?_))
  · exact RunI.deep (d1 := d + 1) (by omega) (m_mark hst (fun _ => ⟨rfl, by rw [ms3]; exact Inv_rs v Fst qup_at⟩) (fun a => absurd a z) (fun a => absurd a z))
  · exact RunI.deep (d1 := d + 1) (by omega) (m_mark hst (fun y => absurd a y) (fun _ _ => ⟨rfl, by rw [ms3]; exact Inv_rs v Fst qup_at⟩) (fun _ y1 y2 => absurd ⟨y1, y2⟩ z))
  · refine RunI.deep (d1 := d + 1) (by omega) (m_mark hst (fun y => absurd a y) (fun _ y => absurd ⟨a2, b2⟩ y) (fun _ _ _ => ⟨rfl, t, ts, c, cs, InvA_sc v (fun x i q q2 => ?_) ?_ ?_⟩))
    · have n1 := nPst_x q
      have n2 := nPst_r q
      unfold Qsc at q2
      rw [qup_of (by omega), qup_of (by omega), qup_of (by omega), qup_of (by omega), qup_of (by omega)]
    · rw [qup_of (by omega), qup_of (by omega), qup_of (by omega), qup_at, qup_of (by omega), qup_at]
    · refine ⟨fun s1 u1 j1 p0 p1 p2 p3 p4 p5 => ?_, fun u a b => ?_, ?_, ?_⟩
      · by_cases y : s1 = s ∧ u1 = u ∧ j1 = j
        · rw [y.1, y.2.1, y.2.2, qup_at, qup_of (by omega), qup_of (by omega), qup_of (by omega), qup_of (by omega), qup_at]
          omega
        · rw [qup_of (by omega), qup_of (by omega), qup_of (by omega), qup_of (by omega), qup_of (by omega), qup_of (by omega), qup_of (by omega), qup_of (by omega), qup_of (by omega), qup_of (by omega)]
          exact sc.1 s1 u1 j1 p0 p1 p2 p3 p4 p5
      · rw [qup_of (by omega), qup_of (by omega), qup_of (by omega), qup_of (by omega), qup_of (by omega), qup_of (by omega), qup_of (by omega), qup_of (by omega), qup_of (by omega), qup_of (by omega)]
        exact sc.2.1 u a b
      · rw [qup_of (by omega), qup_of (by omega), qup_of (by omega), qup_of (by omega), qup_of (by omega), qup_of (by omega), qup_of (by omega), qup_of (by omega), qup_of (by omega), qup_of (by omega)]
        exact sc.2.2.1
      · rw [qup_of (by omega), qup_of (by omega), qup_of (by omega), qup_of (by omega), qup_of (by omega), qup_of (by omega), qup_of (by omega), qup_of (by omega), qup_of (by omega), qup_of (by omega)]
        exact sc.2.2.2
theorem iSc_x (q : iSc h) : mkOk (xmk h) ∧ wtOk (h 42) := ⟨fun s t j a b a2 b2 a3 b3 => (q.1 s t j a b a2 b2 a3 b3).2, fun t a b => (q.2.1 t a b).2⟩
theorem iSc_m (q : iSc h) (f : ∀ a i, a = 134 ∨ a = 135 → g a i = h a i) : mkOk (mmk g) ∧ wtOk (g 135) ∧ (∀ s t j : Int, 0 ≤ s → s < 6 → 0 ≤ t → t < 3 → 0 ≤ j → j < 9 → mmk g s t j = xmk h s t j) ∧ ∀ t : Int, 0 ≤ t → t < 3 → g 135 t = h 42 t := by
  have e : ∀ s t j : Int, 0 ≤ s → s < 6 → 0 ≤ t → t < 3 → 0 ≤ j → j < 9 → mmk g s t j = xmk h s t j := fun s t j a b a2 b2 a3 b3 => by
    unfold mmk xmk
    rw [f 134 _ (by omega)]
    exact (q.1 s t j a b a2 b2 a3 b3).1
  have e2 : ∀ t : Int, 0 ≤ t → t < 3 → g 135 t = h 42 t := fun t a b => by rw [f 135 t (by omega)]; exact (q.2.1 t a b).1
  refine ⟨fun s t j a b a2 b2 a3 b3 => ?_, fun t a b => ?_, e, e2⟩
  · rw [e s t j a b a2 b2 a3 b3]; exact (q.1 s t j a b a2 b2 a3 b3).2
  · rw [e2 t a b]; exact (q.2.1 t a b).2
theorem p_rank {s : Int} (v : Inv sh pt h) : RunI X (d + 21) mX10_rank [(2, 0), (0, s)] sh pt h (fun r h1 => RunI X (d + 21) mX11_rank [(2, 78), (0, s)] sh pt h1 (fun r1 h2 => r1 = r ∧ Inv sh pt h2)) := by
  obtain ⟨t, ts, c, cs, v⟩ := v
  have hst := v.2.1
  have sc := v.2.2.2.2.2.2.2.2.2.2.2.2.2.2.2
  have x0 := iSc_x sc
  refine RunI.deep (d1 := d + 4) (by omega) (x_rank hst x0.1 x0.2 (fun z => ?_) (fun a z h1 f1 => ?_) (fun a z h1 f1 => ?_))
  · have y := iSc_m (g := qup h 0 12 2) sc (fun a i q => qup_of (by omega))
    exact RunI.deep (d1 := d + 2) (by omega) (m_rank hst y.1 y.2.1 (fun _ => ⟨rfl, by rw [ms3]; exact Inv_rs v Fst qup_at⟩) (fun a => absurd a z) (fun a => absurd a z))
  · have fx : Fr (Pjk c cs) h (qup h1 0 12 8) := Fr.tr (Fr.wk f1 (fun _ _ q => Pj_PS q)) Fst
    have y := iSc_m (g := qup h1 0 12 8) sc (fun a i q => by rw [qup_of (by omega), f1 a i (by unfold PS; omega)])
    have tk := totOk_cg (f := mmk (qup h1 0 12 8) s) (g := xmk h s) (fun t j p0 p1 p2 p3 => y.2.2.1 s t j a.1 a.2 p0 p1 p2 p3)
    refine RunI.deep (d1 := d + 2) (by omega) (m_rank hst y.1 y.2.1 (fun w => absurd a w) (fun _ _ h2 f2 => ⟨rfl, Inv_s v (Fr.up (Fr.tr fx (Fr.tr (Fr.wk (ms_Fr (s := 0)) (fun _ _ q => Pj_r q)) (Fr.wk f2 (fun _ _ q => Pj_PM q)))) (Pj_r ⟨rfl, by decide⟩)) ?_⟩) (fun _ w => absurd (tk.mp w) z))
    rw [qup_of (by decide), qup_at, f2 0 12 (by unfold PM; omega), qup_of (by decide), qup_of (by decide), qup_at]
  · have fx : Fr (Pjk c cs) h (qup h1 0 12 0) := Fr.tr (Fr.wk f1 (fun _ _ q => Pj_PS q)) Fst
    have y := iSc_m (g := qup h1 0 12 0) sc (fun a i q => by rw [qup_of (by omega), f1 a i (by unfold PS; omega)])
    have tk := totOk_cg (f := mmk (qup h1 0 12 0) s) (g := xmk h s) (fun t j p0 p1 p2 p3 => y.2.2.1 s t j a.1 a.2 p0 p1 p2 p3)
    refine RunI.deep (d1 := d + 2) (by omega) (m_rank hst y.1 y.2.1 (fun w => absurd a w) (fun _ w => absurd (tk.mpr z) w) (fun _ _ h2 f2 => ⟨rk_cg a y.2.2.1 y.2.2.2 6 (by decide), Inv_s v (Fr.tr fx (Fr.tr (Fr.wk (ms_Fr (s := 0)) (fun _ _ q => Pj_r q)) (Fr.wk f2 (fun _ _ q => Pj_PM q)))) ?_⟩))
    rw [f2 78 0 (by unfold PM; omega), f2 0 12 (by unfold PM; omega), qup_of (by decide), qup_of (by decide), qup_at, qup_at]
theorem p_total {s : Int} (v : Inv sh pt h) : RunI X (d + 21) mX10_total [(2, 0), (0, s)] sh pt h (fun r h1 => RunI X (d + 21) mX11_total [(2, 78), (0, s)] sh pt h1 (fun r1 h2 => r1 = r ∧ Inv sh pt h2)) := by
  obtain ⟨t, ts, c, cs, v⟩ := v
  have hst := v.2.1
  have sc := v.2.2.2.2.2.2.2.2.2.2.2.2.2.2.2
  have x0 := iSc_x sc
  refine RunI.deep (d1 := d + 3) (by omega) (x_total hst x0.1 x0.2 (fun z => ?_) (fun a z h1 f1 => ?_) (fun a z h1 f1 => ?_))
  · have y := iSc_m (g := qup h 0 12 2) sc (fun a i q => qup_of (by omega))
    exact RunI.deep (d1 := d + 2) (by omega) (m_total hst y.1 y.2.1 (fun _ => ⟨rfl, by rw [ms3]; exact Inv_rs v Fst qup_at⟩) (fun a => absurd a z) (fun a => absurd a z))
  · have fx : Fr (Pjk c cs) h (qup h1 0 12 8) := Fr.tr (Fr.wk f1 (fun _ _ q => Pj_PS q)) Fst
    have y := iSc_m (g := qup h1 0 12 8) sc (fun a i q => by rw [qup_of (by omega), f1 a i (by unfold PS; omega)])
    have tk := totOk_cg (f := mmk (qup h1 0 12 8) s) (g := xmk h s) (fun t j p0 p1 p2 p3 => y.2.2.1 s t j a.1 a.2 p0 p1 p2 p3)
    refine RunI.deep (d1 := d + 2) (by omega) (m_total hst y.1 y.2.1 (fun w => absurd a w) (fun _ _ h2 f2 => ⟨rfl, Inv_s v (Fr.up (Fr.tr fx (Fr.tr (Fr.wk (ms_Fr (s := 0)) (fun _ _ q => Pj_r q)) (Fr.wk f2 (fun _ _ q => Pj_PM q)))) (Pj_r ⟨rfl, by decide⟩)) ?_⟩) (fun _ w => absurd (tk.mp w) z))
    rw [qup_of (by decide), qup_at, f2 0 12 (by unfold PM; omega), qup_of (by decide), qup_of (by decide), qup_at]
  · generalize eA : (tot (xmk h s) (h 42) 3).1 / eg 1000 (tot (xmk h s) (h 42) 3).1 (tot (xmk h s) (h 42) 3).2 = A
    generalize eB : (tot (xmk h s) (h 42) 3).2 / eg 1000 (tot (xmk h s) (h 42) 3).1 (tot (xmk h s) (h 42) 3).2 = B
    have he : ∀ a i, ¬ (a = 41 ∧ 1 ≤ i) → ¬ (a = 0 ∧ i = 12) → qup (qup (qup h1 41 1 A) 41 2 B) 0 12 0 a i = h a i := fun a i p q => by rw [qup_of (by omega), qup_of (by omega), qup_of (by omega), f1 a i (by unfold PS; omega)]
    have h41 : qup (qup (qup h1 41 1 A) 41 2 B) 0 12 0 41 1 = A ∧ qup (qup (qup h1 41 1 A) 41 2 B) 0 12 0 41 2 = B ∧ qup (qup (qup h1 41 1 A) 41 2 B) 0 12 0 0 12 = 0 := ⟨by rw [qup_of (by omega), qup_of (by omega), qup_at], by rw [qup_of (by omega), qup_at], qup_at⟩
    generalize qup (qup (qup h1 41 1 A) 41 2 B) 0 12 0 = k1 at *
    have y := iSc_m (g := k1) sc (fun a i q => he a i (by omega) (by omega))
    have tk := totOk_cg (f := mmk k1 s) (g := xmk h s) (fun t j p0 p1 p2 p3 => y.2.2.1 s t j a.1 a.2 p0 p1 p2 p3)
    have te := tot_cg (f := mmk k1 s) (g := xmk h s) (fun t j p0 p1 p2 p3 => y.2.2.1 s t j a.1 a.2 p0 p1 p2 p3) y.2.2.2
    refine RunI.deep (d1 := d + 2) (by omega) (m_total hst y.1 y.2.1 (fun w => absurd a w) (fun _ w => absurd (tk.mpr z) w) (fun _ _ h2 f2 => ?_))
    rw [te, eA, eB]
    have h2e : ∀ a i, ¬ (a = 78 ∧ (i = 0 ∨ i = 1 ∨ i = 100 ∨ i = 101)) → h2 a i = k1 a i := fun a i p => by rw [f2 a i (by unfold PM; omega), qup_of (by omega), qup_of (by omega)]
    have h280 : h2 78 0 = 0 := by rw [f2 78 0 (by unfold PM; omega), qup_at]
    refine ⟨rfl, t, ts, c, cs, InvA_sc v (fun x i q q2 => ?_) ?_ ?_⟩
    · have n1 := nPst_x q
      have n2 := nPst_r q
      have n3 : ¬ (x = 41 ∧ 3 ≤ i) := fun z => q (pj_10 z)
      have n4 : ¬ (x = 78 ∧ (i = 100 ∨ i = 101)) := fun z => q (Pj_PM z)
      unfold Qsc at q2
      rw [qup_of (by omega), qup_of (by omega), h2e x i (by omega)]
      exact he x i (by omega) n1
    · rw [qup_of (by omega), qup_of (by omega), qup_of (by omega), qup_of (by omega), h2e 0 12 (by omega), h280, h41.2.2]
    · refine ⟨fun s u j a b a2 b2 a3 b3 => ?_, fun u a b => ?_, ?_, ?_⟩
      · rw [qup_of (by omega), qup_of (by omega), qup_of (by omega), qup_of (by omega), h2e 134 _ (by omega), h2e 43 _ (by omega), he 134 _ (by omega) (by omega), he 43 _ (by omega) (by omega)]
        exact sc.1 s u j a b a2 b2 a3 b3
      · rw [qup_of (by omega), qup_of (by omega), qup_of (by omega), qup_of (by omega), h2e 135 _ (by omega), h2e 42 _ (by omega), he 135 _ (by omega) (by omega), he 42 _ (by omega) (by omega)]
        exact sc.2.1 u a b
      · rw [qup_of (by omega), qup_at, qup_of (by omega), qup_of (by omega), h2e 41 1 (by omega), h41.1]
      · rw [qup_at, qup_of (by omega), qup_of (by omega), h2e 41 2 (by omega), h41.2.1]
end
