/-! pairs: the field -/
theorem sh20 {m : Int} (m0 : 0 ≤ m) (m1 : m ≤ 20) : 1 ≤ qishl 1 m ∧ qishl 1 m ≤ 1048576 := by
  rw [qishl_1 m0 (by omega)]
  have a : 2 ^ m.toNat ≤ 2 ^ 20 := Nat.pow_le_pow_right (by decide) (by omega)
  have b : 0 < 2 ^ m.toNat := Nat.two_pow_pos _
  have e : 2 ^ 20 = 1048576 := by decide
  omega
section
variable {X : qX} {d : Nat} {sh : qS} {pt h g : qM} {t ts c cs : Int}
theorem p_steps {v1 : Int} (v : Inv sh pt h) : RunI X (d + 21) mX10_steps [(2, 0), (0, v1)] sh pt h (fun r h1 => RunI X (d + 21) mX11_steps [(2, 78), (0, v1)] sh pt h1 (fun r1 h2 => r1 = r ∧ Inv sh pt h2)) := by
  obtain ⟨t, ts, c, cs, v⟩ := v
  have hst := v.2.1
  have fe := v.2.2.2.2.2.2.2.2.2.1
  refine RunI.deep (d1 := d + 1) (by omega) (x_steps hst (fun z => ?_) (fun a b => ?_))
  · exact RunI.deep (d1 := d + 1) (by omega) (m_steps hst (fun _ => ⟨rfl, by rw [ms3]; exact Inv_rs v Fst qup_at⟩) (fun a b => absurd ⟨a, b⟩ z))
  · refine RunI.deep (d1 := d + 1) (by omega) (m_steps hst (fun y => absurd ⟨a, b⟩ y) (fun _ _ => ⟨rfl, t, ts, c, cs, InvA_fe v (fun x i q q2 => ?_) ?_ ?_⟩))
    · have n1 := nPst_x q
      have n2 := nPst_r q
      unfold Qfe at q2
      rw [qup_of (by omega), qup_of (by omega), qup_of (by omega), qup_of (by omega), qup_of (by omega)]
    · rw [qup_of (by omega), qup_of (by omega), qup_of (by omega), qup_at, qup_of (by omega), qup_at]
    · unfold iFE
      simp only [qup_ap, Int.reduceEq, Int.reduceNeg, false_and, and_false, true_and, and_true, and_self, reduceIte]
      exact ⟨fe.1, fe.2.1, fe.2.2.1, fe.2.2.2.1⟩
theorem p_marcher {e n f : Int} (v : Inv sh pt h) : RunI X (d + 21) mX10_marcher [(2, 0), (0, e), (0, n), (0, f)] sh pt h (fun r h1 => RunI X (d + 21) mX11_marcher [(2, 78), (0, e), (0, n), (0, f)] sh pt h1 (fun r1 h2 => r1 = r ∧ Inv sh pt h2)) := by
  obtain ⟨t, ts, c, cs, v⟩ := v
  have hst := v.2.1
  have gr := v.2.2.2.2.2.1
  have gr1 := gr.1
  have g0 : ∀ s, Inv sh pt (qup (qup (qup (qup h 0 12 s) 78 1 0) 78 0 0) 78 0 s) := fun s => by rw [ms3]; exact Inv_rs v Fst qup_at
  have e7 : ∀ s, qup h 0 12 s 78 7 = h 2 3 := fun s => by rw [qup_of (by decide)]; exact gr.1.1
  refine RunI.deep (d1 := d + 1) (by omega) (x_marcher hst gr.1.2 (fun z => ?_) (fun z z2 => ?_) (fun z z2 => ?_))
  · exact RunI.deep (d1 := d + 2) (by omega) (m_marcher hst (by rw [e7]; exact gr.1.2) (fun _ => ⟨rfl, g0 5⟩) (fun y => absurd y z) (fun y => absurd y z))
  · exact RunI.deep (d1 := d + 2) (by omega) (m_marcher hst (by rw [e7]; exact gr.1.2) (fun y => absurd z y) (fun _ _ => ⟨rfl, g0 7⟩) (fun _ y => by rw [e7] at y; omega))
  · have k7 : qup (qup (qup (qup (qup h 3 (h 2 3) e) 4 (h 2 3) n) 5 (h 2 3) f) 2 3 (h 2 3 + 1)) 0 12 0 78 7 = h 2 3 := by rw [qup_of (by omega), qup_of (by omega), qup_of (by omega), qup_of (by omega), qup_of (by omega)]; exact gr.1.1
    refine RunI.deep (d1 := d + 2) (by omega) (m_marcher hst (by rw [k7]; exact gr.1.2) (fun y => absurd z y) (fun _ y => by rw [k7] at y; omega) (fun _ _ => ⟨k7, t, ts, c, cs, ?_⟩))
    rw [k7]
    refine InvA_gr v (fun x i q q2 => ?_) ?_ ⟨?_, fun m a b => ?_⟩
    · have n1 := nPst_x q
      have n2 := nPst_r q
      unfold Qgr at q2
      rw [qup_of (by omega), qup_of (by omega), qup_of (by omega), qup_of (by omega), qup_of (by omega), qup_of (by omega), qup_of (by omega), qup_of (by omega), qup_of (by omega), qup_of (by omega), qup_of (by omega)]
    · simp only [qup_ap, Int.reduceEq, Int.reduceNeg, false_and, and_false, true_and, and_true, and_self, reduceIte]
    · simp only [qup_ap, Int.reduceEq, Int.reduceNeg, false_and, and_false, true_and, and_true, and_self, reduceIte]
      omega
    · simp only [qup_ap, Int.reduceEq, Int.reduceNeg, false_and, and_false, true_and, and_true, and_self, reduceIte] at b ⊢
      by_cases y : m = h 2 3
      · rw [if_pos y, if_pos y, if_pos y, if_pos y, if_pos y, if_pos y]
        omega
      · rw [if_neg y, if_neg y, if_neg y, if_neg y, if_neg y, if_neg y]
        exact gr.2 m a (by omega)
theorem p_prop {e n : Int} (v : Inv sh pt h) : RunI X (d + 21) mX10_prop [(2, 0), (0, e), (0, n)] sh pt h (fun r h1 => RunI X (d + 21) mX11_prop [(2, 78), (0, e), (0, n)] sh pt h1 (fun r1 h2 => r1 = r ∧ Inv sh pt h2)) := by
  obtain ⟨t, ts, c, cs, v⟩ := v
  have hst := v.2.1
  have pr := v.2.2.2.2.2.2.1
  have pr1 := pr.1
  have g0 : ∀ s, Inv sh pt (qup (qup (qup (qup h 0 12 s) 78 1 0) 78 0 0) 78 0 s) := fun s => by rw [ms3]; exact Inv_rs v Fst qup_at
  have e8 : ∀ s, qup h 0 12 s 78 8 = h 2 5 := fun s => by rw [qup_of (by decide)]; exact pr.1.1
  have e86 : ∀ s i, qup h 0 12 s 86 i = h 86 i := fun s i => qup_of (by omega)
  refine RunI.deep (d1 := d + 1) (by omega) (x_prop hst (fun a b => pr.2.1 n a b) pr.1.2 (fun z => ?_) (fun z z2 => ?_) (fun z z2 z3 => ?_) (fun z z2 z3 => ?_))
  · exact RunI.deep (d1 := d + 2) (by omega) (m_prop hst (by rw [e8]; exact pr.1.2) (fun _ => ⟨rfl, g0 5⟩) (fun y => absurd y z) (fun y => absurd y z) (fun y => absurd y z))
  · exact RunI.deep (d1 := d + 2) (by omega) (m_prop hst (by rw [e8]; exact pr.1.2) (fun y => absurd z y) (fun _ _ => ⟨rfl, g0 7⟩) (fun _ y => by rw [e8] at y; omega) (fun _ y => by rw [e8] at y; omega))
  · have w := (pr.2.2.1 e n z.1 z.2.1 z.2.2.1 z.2.2.2).mp z3
    exact RunI.deep (d1 := d + 2) (by omega) (m_prop hst (by rw [e8]; exact pr.1.2) (fun y => absurd z y) (fun _ y => by rw [e8] at y; omega) (fun _ _ _ => ⟨rfl, g0 9⟩) (fun _ _ y => by rw [e86] at y; exact absurd y w))
  · have w : h 86 (40 * e + n) = 0 := by
      by_cases y : h 86 (40 * e + n) = 0
      · exact y
      · have := (pr.2.2.1 e n z.1 z.2.1 z.2.2.1 z.2.2.2).mpr y
        rw [z3] at this
        exact absurd this (by decide)
    have k8 : qup (qup (qup h 6 n (qlor (h 6 n) (qlshl 1 e))) 2 5 (h 2 5 + 1)) 0 12 0 78 8 = h 2 5 := by rw [qup_of (by omega), qup_of (by omega), qup_of (by omega)]; exact pr.1.1
    have k86 : qup (qup (qup h 6 n (qlor (h 6 n) (qlshl 1 e))) 2 5 (h 2 5 + 1)) 0 12 0 86 (40 * e + n) = h 86 (40 * e + n) := by rw [qup_of (by omega), qup_of (by omega), qup_of (by omega)]
    refine RunI.deep (d1 := d + 2) (by omega) (m_prop hst (by rw [k8]; exact pr.1.2) (fun y => absurd z y) (fun _ y => by rw [k8] at y; omega) (fun _ _ y => by rw [k86] at y; exact absurd w y) (fun _ _ _ => ⟨rfl, t, ts, c, cs, ?_⟩))
    rw [k8]
    have o := ql_or1 (s := h 6 n) (m := e) (pr.2.1 n z.2.2.1 z.2.2.2).1 (pr.2.1 n z.2.2.1 z.2.2.2).2 z.1 z.2.1
    refine InvA_pr v (fun x i q q2 => ?_) ?_ ⟨?_, fun n1 a b => ?_, fun e1 n1 a b a2 b2 => ?_, ?_⟩
    · have n1 := nPst_x q
      have n2 := nPst_r q
      unfold Qpr at q2
      rw [qup_of (by omega), qup_of (by omega), qup_of (by omega), qup_of (by omega), qup_of (by omega), qup_of (by omega), qup_of (by omega)]
    · simp only [qup_ap, Int.reduceEq, Int.reduceNeg, false_and, and_false, true_and, and_true, and_self, reduceIte]
    · simp only [qup_ap, Int.reduceEq, Int.reduceNeg, false_and, and_false, true_and, and_true, and_self, reduceIte]
      omega
    · simp only [qup_ap, Int.reduceEq, Int.reduceNeg, false_and, and_false, true_and, and_true, and_self, reduceIte]
      by_cases y : n1 = n
      · rw [if_pos y]; exact ⟨o.1, o.2.1⟩
      · rw [if_neg y]; exact pr.2.1 n1 a b
    · simp only [qup_ap, Int.reduceEq, Int.reduceNeg, false_and, and_false, true_and, and_true, and_self, reduceIte]
      have old := pr.2.2.1 e1 n1 a b a2 b2
      by_cases y : n1 = n
      · rw [if_pos y, o.2.2 e1 a]
        by_cases y2 : e1 = e
        · rw [y, y2, if_pos rfl]
          simp
        · rw [if_neg (show ¬ 40 * e1 + n1 = 40 * e + n by omega), ← old, y]
          simp [y2]
      · rw [if_neg y, if_neg (show ¬ 40 * e1 + n1 = 40 * e + n by omega)]
        exact old
    · simp only [qup_ap, Int.reduceEq, Int.reduceNeg, false_and, and_false, true_and, and_true, and_self, reduceIte]
      have na := NT_add (P := fun w => h 86 w ≠ 0) (Q := fun u => (if u = 40 * e + n then 1 else h 86 u) ≠ 0) (v := 40 * e + n) (by omega) (fun y => y w) 2400 (by omega) (fun u a b => by
        by_cases y : u = 40 * e + n
        · rw [if_pos y]; exact ⟨fun _ => Or.inr y, fun _ => by decide⟩
        · rw [if_neg y]; exact ⟨fun x => Or.inl x, fun x => by rcases x with x | x; exact x; exact absurd x y⟩)
      rw [na, pr.2.2.2]
theorem p_group {u s : Int} (qs : qI s) (v : Inv sh pt h) : RunI X (d + 21) mX10_group [(2, 0), (1, u), (0, s)] sh pt h (fun r h1 => RunI X (d + 21) mX11_group [(2, 78), (1, u), (0, s)] sh pt h1 (fun r1 h2 => r1 = r ∧ Inv sh pt h2)) := by
  obtain ⟨t, ts, c, cs, v⟩ := v
  have hst := v.2.1
  have gr := v.2.2.2.2.2.1
  have gr1 := gr.1
  have gp := v.2.2.2.2.2.2.2.1
  have gp1 := gp.1
  have s20 := sh20 gr.1.2.1 gr.1.2.2
  have g0 : ∀ s, Inv sh pt (qup (qup (qup (qup h 0 12 s) 78 1 0) 78 0 0) 78 0 s) := fun s => by rw [ms3]; exact Inv_rs v Fst qup_at
  have fe : ∀ g : qM, (∀ a i, a = 87 ∨ (a = 78 ∧ i = 9) → g a i = h a i) → fnd (g 87) u (g 78 9).toNat 0 = fnd (h 7) u (h 2 8).toNat 0 := fun g f => by
    rw [f 78 9 (by omega), gp.1.1]
    refine fnd_cg _ _ (fun j a b => ?_)
    rw [f 87 j (by omega)]
    exact (gp.2 j (by omega) (by omega)).1
  have e7 : ∀ g : qM, (∀ a i, a = 78 ∧ (i = 7 ∨ i = 9) → g a i = h a i) → g 78 7 = h 2 3 ∧ g 78 9 = h 2 8 := fun g f => ⟨by rw [f 78 7 (by omega)]; exact gr.1.1, by rw [f 78 9 (by omega)]; exact gp.1.1⟩
  have fo := fnd_ok (f := h 7) (v := u) (h 2 8).toNat 0
  refine RunI.deep (d1 := d + 1) (by omega) (x_group hst gr.1.2 gp.1.2 qs (fun z => ?_) (fun z z2 z3 z4 z5 => ?_) (fun z z2 z3 gg eg ng => ?_) (fun z z2 z3 z4 z5 => ?_))
  · have ee := e7 (qup h 0 12 5) (fun a i q => qup_of (by omega))
    refine RunI.deep (d1 := d + 1) (by omega) (m_group hst (by rw [ee.2]; exact gp.1.2) (fun _ => ⟨rfl, g0 5⟩) (fun y y2 y3 => ?_) (fun y y2 y3 => ?_) (fun y y2 y3 => ?_))
    · rw [ee.1] at y3; exact absurd ⟨y, y2, y3⟩ z
    · rw [ee.1] at y3; exact absurd ⟨y, y2, y3⟩ z
    · rw [ee.1] at y3; exact absurd ⟨y, y2, y3⟩ z
  · have ee := e7 (qup h 0 12 7) (fun a i q => qup_of (by omega))
    have ff := fe (qup h 0 12 7) (fun a i q => qup_of (by omega))
    refine RunI.deep (d1 := d + 1) (by omega) (m_group hst (by rw [ee.2]; exact gp.1.2) (fun y => ?_) (fun _ _ _ _ _ => ⟨rfl, g0 7⟩) (fun _ _ _ gg eg ng => ?_) (fun _ _ _ _ y => ?_))
    · rw [ee.1] at y; exact absurd ⟨z, z2, z3⟩ y
    · rw [ff, z4] at eg; exact absurd eg ng
    · rw [ee.2] at y; omega
  · have ke : ∀ a i, ¬ (a = 7 ∧ i = gg) → ¬ (a = 8 ∧ i = gg) → ¬ (a = 0 ∧ i = 12) → qup (qup (qup h 7 gg u) 8 gg s) 0 12 0 a i = h a i := fun a i p p2 p3 => by rw [qup_of p3, qup_of p2, qup_of p]
    have k7 : qup (qup (qup h 7 gg u) 8 gg s) 0 12 0 7 gg = u ∧ qup (qup (qup h 7 gg u) 8 gg s) 0 12 0 8 gg = s ∧ qup (qup (qup h 7 gg u) 8 gg s) 0 12 0 0 12 = 0 := ⟨by rw [qup_of (by omega), qup_of (by omega), qup_at], by rw [qup_of (by omega), qup_at], qup_at⟩
    generalize qup (qup (qup h 7 gg u) 8 gg s) 0 12 0 = k at *
    have ee := e7 k (fun a i q => ke a i (by omega) (by omega) (by omega))
    have ff := fe k (fun a i q => ke a i (by omega) (by omega) (by omega))
    refine RunI.deep (d1 := d + 1) (by omega) (m_group hst (by rw [ee.2]; exact gp.1.2) (fun y => ?_) (fun _ _ _ y => ?_) (fun _ _ _ g1 eg1 _ => ?_) (fun _ _ _ y => ?_))
    · rw [ee.1] at y; exact absurd ⟨z, z2, z3⟩ y
    · rw [ff, ← eg] at y; exact absurd y ng
    · have e1 : g1 = gg := by rw [eg1, ff, eg]
      rw [e1]
      rw [← eg] at fo
      refine ⟨rfl, t, ts, c, cs, InvA_gp v (fun x i q q2 => ?_) ?_ ⟨?_, fun m a b => ?_⟩⟩
      · have n1 := nPst_x q
        have n2 := nPst_r q
        unfold Qgp at q2
        rw [qup_of (by omega), qup_of (by omega), qup_of (by omega), qup_of (by omega), ke x i (by omega) (by omega) n1]
      · rw [qup_of (by omega), qup_of (by omega), qup_of (by omega), qup_of (by omega), qup_of (by omega), qup_of (by omega), qup_at, k7.2.2]
      · rw [qup_of (by omega), qup_of (by omega), qup_of (by omega), qup_of (by omega), qup_of (by omega), qup_of (by omega), qup_of (by omega), qup_of (by omega), ee.2, ke 2 8 (by omega) (by omega) (by omega)]
        exact ⟨rfl, gp.1.2⟩
      · rw [qup_of (by omega), qup_of (by omega), qup_of (by omega), qup_of (by omega), ke 2 8 (by omega) (by omega) (by omega)] at b
        rw [qup_of (a := 85) (b := 87) (by omega), qup_of (a := 85) (b := 7) (by omega), qup_of (a := 87) (b := 7) (by omega), qup_of (a := 78) (b := 7) (by omega), qup_of (a := 78) (b := 7) (by omega), qup_of (a := 85) (b := 8) (by omega), qup_of (a := 87) (b := 8) (by omega), qup_of (a := 78) (b := 8) (by omega), qup_of (a := 78) (b := 8) (by omega)]
        by_cases y : m = gg
        · rw [y, qup_at, qup_at, k7.1, k7.2.1]
          exact ⟨rfl, rfl, z.1, by omega, by omega⟩
        · rw [qup_of (by omega), qup_of (by omega), qup_of (by omega), qup_of (by omega), qup_of (by omega), qup_of (by omega), qup_of (by omega), ke 87 m (by omega) (by omega) (by omega), ke 7 m (by omega) (by omega) (by omega), ke 85 m (by omega) (by omega) (by omega), ke 8 m (by omega) (by omega) (by omega)]
          exact gp.2 m a b
    · rw [ff, ← eg] at y; exact absurd y ng
  · have ke : ∀ a i, ¬ (a = 7 ∧ i = h 2 8) → ¬ (a = 8 ∧ i = h 2 8) → ¬ (a = 2 ∧ i = 8) → ¬ (a = 0 ∧ i = 12) → qup (qup (qup (qup h 2 8 (h 2 8 + 1)) 7 (h 2 8) u) 8 (h 2 8) s) 0 12 0 a i = h a i := fun a i p p2 p4 p3 => by rw [qup_of p3, qup_of p2, qup_of p, qup_of p4]
    have k7 : qup (qup (qup (qup h 2 8 (h 2 8 + 1)) 7 (h 2 8) u) 8 (h 2 8) s) 0 12 0 7 (h 2 8) = u ∧ qup (qup (qup (qup h 2 8 (h 2 8 + 1)) 7 (h 2 8) u) 8 (h 2 8) s) 0 12 0 8 (h 2 8) = s ∧ qup (qup (qup (qup h 2 8 (h 2 8 + 1)) 7 (h 2 8) u) 8 (h 2 8) s) 0 12 0 0 12 = 0 ∧ qup (qup (qup (qup h 2 8 (h 2 8 + 1)) 7 (h 2 8) u) 8 (h 2 8) s) 0 12 0 2 8 = h 2 8 + 1 := ⟨by rw [qup_of (by omega), qup_of (by omega), qup_at], by rw [qup_of (by omega), qup_at], qup_at, by rw [qup_of (by omega), qup_of (by omega), qup_of (by omega), qup_at]⟩
    generalize qup (qup (qup (qup h 2 8 (h 2 8 + 1)) 7 (h 2 8) u) 8 (h 2 8) s) 0 12 0 = k at *
    have ee := e7 k (fun a i q => ke a i (by omega) (by omega) (by omega) (by omega))
    have ff := fe k (fun a i q => ke a i (by omega) (by omega) (by omega) (by omega))
    refine RunI.deep (d1 := d + 1) (by omega) (m_group hst (by rw [ee.2]; exact gp.1.2) (fun y => ?_) (fun _ _ _ _ y => ?_) (fun _ _ _ g1 eg1 ng => ?_) (fun _ _ _ _ y => ?_))
    · rw [ee.1] at y; exact absurd ⟨z, z2, z3⟩ y
    · rw [ee.2] at y; omega
    · rw [ff, z4] at eg1; exact absurd eg1 ng
    · rw [ee.2]
      refine ⟨rfl, t, ts, c, cs, InvA_gp v (fun x i q q2 => ?_) ?_ ⟨?_, fun m a b => ?_⟩⟩
      · have n1 := nPst_x q
        have n2 := nPst_r q
        unfold Qgp at q2
        rw [qup_of (by omega), qup_of (by omega), qup_of (by omega), qup_of (by omega), qup_of (by omega), ke x i (by omega) (by omega) (by omega) n1]
      · rw [qup_of (by omega), qup_of (by omega), qup_of (by omega), qup_of (by omega), qup_of (by omega), qup_of (by omega), qup_of (by omega), qup_of (by omega), qup_at, k7.2.2.1]
      · rw [qup_of (by omega), qup_of (by omega), qup_at, qup_of (by omega), qup_of (by omega), qup_of (by omega), qup_of (by omega), qup_of (by omega), k7.2.2.2]
        exact ⟨rfl, by omega, by omega⟩
      · rw [qup_of (by omega), qup_of (by omega), qup_of (by omega), qup_of (by omega), qup_of (by omega), k7.2.2.2] at b
        rw [qup_of (a := 85) (b := 87) (by omega), qup_of (a := 85) (b := 7) (by omega), qup_of (a := 87) (b := 7) (by omega), qup_of (a := 78) (b := 7) (by omega), qup_of (a := 78) (b := 7) (by omega), qup_of (a := 78) (b := 7) (by omega), qup_of (a := 85) (b := 8) (by omega), qup_of (a := 87) (b := 8) (by omega), qup_of (a := 78) (b := 8) (by omega), qup_of (a := 78) (b := 8) (by omega), qup_of (a := 78) (b := 8) (by omega)]
        by_cases y2 : m = h 2 8
        · rw [y2, qup_at, qup_at, k7.1, k7.2.1]
          exact ⟨rfl, rfl, z.1, by omega, by omega⟩
        · rw [qup_of (by omega), qup_of (by omega), qup_of (by omega), qup_of (by omega), qup_of (by omega), qup_of (by omega), qup_of (by omega), qup_of (by omega), qup_of (by omega), ke 87 m (by omega) (by omega) (by omega) (by omega), ke 7 m (by omega) (by omega) (by omega) (by omega), ke 85 m (by omega) (by omega) (by omega) (by omega), ke 8 m (by omega) (by omega) (by omega) (by omega)]
          exact gp.2 m a (by omega)
end
