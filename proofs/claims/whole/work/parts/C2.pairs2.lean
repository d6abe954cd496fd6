/-! pairs: told, persons that fill in, marks -/
theorem sc_cg {f g : Int → Int} : ∀ k : Nat, (∀ j : Int, 0 ≤ j → j < k → f j = g j) → sc f k = sc g k := by
  intro k
  induction k with
  | zero => intro _; rfl
  | succ k ih =>
    intro q
    unfold sc
    rw [ih (fun j a b => q j a (by omega)), q k (by omega) (by omega)]
theorem tT_cg {N S w N1 S1 w1 : Int → Int} : ∀ k : Nat, (∀ j : Int, 0 ≤ j → j < k → N j = N1 j ∧ S j = S1 j ∧ w j = w1 j) → tT N S w k = tT N1 S1 w1 k := by
  intro k
  induction k with
  | zero => intro _; rfl
  | succ k ih =>
    intro q
    have z := q k (by omega) (by omega)
    unfold tT
    rw [ih (fun j a b => q j a (by omega)), z.1, z.2.1, z.2.2]
theorem tot_cg {f g : Int → Int → Int} {w w1 : Int → Int} (q : ∀ t j : Int, 0 ≤ t → t < 3 → 0 ≤ j → j < 9 → f t j = g t j) (qw : ∀ t : Int, 0 ≤ t → t < 3 → w t = w1 t) : tot f w 3 = tot g w1 3 := by
  unfold tot
  refine tT_cg 3 (fun t a b => ?_)
  have e := sc_cg (f := f t) (g := g t) 9 (fun j a2 b2 => q t j a (by omega) a2 (by omega))
  rw [e]
  exact ⟨rfl, rfl, qw t a (by omega)⟩
theorem totOk_cg {f g : Int → Int → Int} (q : ∀ t j : Int, 0 ≤ t → t < 3 → 0 ≤ j → j < 9 → f t j = g t j) : totOk f ↔ totOk g := by
  unfold totOk
  constructor
  · intro z t a b
    rw [← sc_cg (f := f t) (g := g t) 9 (fun j a2 b2 => q t j a b a2 (by omega))]
    exact z t a b
  · intro z t a b
    rw [sc_cg (f := f t) (g := g t) 9 (fun j a2 b2 => q t j a b a2 (by omega))]
    exact z t a b
theorem rk_cg {f g : Int → Int → Int → Int} {w w1 : Int → Int} {s : Int} (s0 : 0 ≤ s ∧ s < 6) (q : ∀ s t j : Int, 0 ≤ s → s < 6 → 0 ≤ t → t < 3 → 0 ≤ j → j < 9 → f s t j = g s t j) (qw : ∀ t : Int, 0 ≤ t → t < 3 → w t = w1 t) : ∀ k : Nat, k ≤ 6 → rk f w s k = rk g w1 s k := by
  intro k
  induction k with
  | zero => intro _; rfl
  | succ k ih =>
    intro k6
    have i := ih (by omega)
    have e1 := tot_cg (f := f s) (g := g s) (fun t j a b a2 b2 => q s t j s0.1 s0.2 a b a2 b2) qw
    have e2 := tot_cg (f := f k) (g := g k) (fun t j a b a2 b2 => q k t j (by omega) (by omega) a b a2 b2) qw
    have e3 := totOk_cg (f := f k) (g := g k) (fun t j a b a2 b2 => q k t j (by omega) (by omega) a b a2 b2)
    by_cases c : rkO f w s k
    · have c1 : rkO g w1 s k := by
        unfold rkO at c ⊢
        rw [← e1, ← e2]
        exact ⟨e3.mp c.1, c.2⟩
      rw [rk_t c, rk_t c1, i]
    · have c1 : ¬ rkO g w1 s k := fun z => c (by
        unfold rkO at z ⊢
        rw [e1, e2]
        exact ⟨e3.mpr z.1, z.2⟩)
      rw [rk_f c, rk_f c1, i]
section
variable {X : qX} {d : Nat} {sh : qS} {pt h g : qM} {t ts c cs : Int}
theorem ms3 {s : Int} : qup (qup (qup h 78 1 0) 78 0 0) 78 0 s = ms h s := ms_up
theorem p_told {v1 : Int} (v : Inv sh pt h) : RunI X (d + 21) mX10_told [(2, 0), (0, v1)] sh pt h (fun r h1 => RunI X (d + 21) mX11_told [(2, 78), (0, v1)] sh pt h1 (fun r1 h2 => r1 = r ∧ Inv sh pt h2)) := by
  obtain ⟨t, ts, c, cs, v⟩ := v
  have hst := v.2.1
  have pr := v.2.2.2.2.2.2.1
  have fe := v.2.2.2.2.2.2.2.2.2.1
  obtain ⟨G, q1, q2, q3⟩ := iCo_g v.2.2.2.2.2.2.2.2.2.2.2.1
  refine RunI.deep (d1 := d + 3) (by omega) (x_told (l := h 2 9) (w := h 78 52) (p := fun e n => h 86 (40 * e + n)) hst v.1.2.1 v.1.2.2.1 q1 rfl (fun z => by rcases q3 with y | y <;> omega) pr.2.1 pr.2.2.1 (fun r s e => ?_))
  have fin : ∀ r1 s1, (r1, s1) = toldF G (fun t m => h 106 (20 * t + m)) (fun t m => h 107 (20 * t + m)) (fun e n => h 86 (40 * e + n)) (h 2 9) (h 78 52) (h 78 51) (h 78 50) v1 → r1 = r ∧ Inv sh pt (ms (qup h 0 12 s) s1) := by
    intro r1 s1 e1
    obtain ⟨er, es⟩ := pr_in e e1
    rw [es]
    exact ⟨er, Inv_rs v Fst qup_at⟩
  have ue : ∀ a i, ¬ a = 0 → qup h 0 12 s a i = h a i := fun a i q => qup_of (by omega)
  have G1 : 0 ≤ h 78 50 → ¬ G = 0 := fun z y => by rcases q3 with w | w <;> omega
  unfold toldF at fin
  refine RunI.deep (d1 := d + 3) (by omega) (m_told (E := fun t m => h 106 (20 * t + m)) (N := fun t m => h 107 (20 * t + m)) (F := fun t m => h 108 (20 * t + m)) (T := h 78 51) (M := h 78 50) (p := fun e n => h 86 (40 * e + n)) (l := h 2 9) hst (fun z => ?_) (fun z z2 z3 => ?_) (fun z => ?_) (fun e n _ _ _ _ => ue _ _ (by decide)) (by rw [ue _ _ (by decide)]; exact fe.2.2.2.2) (fun z z2 => ?_) (fun z z2 => ?_) (fun z z2 => ?_) (fun z z2 => ?_) (fun z z2 => ?_))
  · rw [ms3]; exact fin _ _ (by rw [if_pos z])
  · rw [ue 78 50 (by decide)] at z3
    rw [ms3]; exact fin _ _ (by rw [if_neg (by omega), if_pos (by rcases q3 with w | w <;> omega)])
  · rw [ue 78 50 (by decide)] at z
    have y := mg_st (s := s) q2
    rcases y with y | y
    · exact absurd y.1 (G1 z)
    · exact y.2
  · rw [ue 78 50 (by decide)] at z
    rw [ue 78 52 (by decide)]
    exact fin _ 0 (by rw [if_neg (by omega), if_neg (G1 z), if_neg (by omega), if_neg (by omega), if_neg (by omega), if_pos z2])
  · rw [ue 78 50 (by decide)] at z
    exact fin _ 0 (by rw [if_neg (by omega), if_neg (G1 z), if_pos z2])
  · rw [ue 78 50 (by decide)] at z
    exact fin _ 0 (by rw [if_neg (by omega), if_neg (G1 z), if_neg (by omega), if_pos z2])
  · rw [ue 78 50 (by decide)] at z
    exact fin _ 0 (by rw [if_neg (by omega), if_neg (G1 z), if_neg (by omega), if_neg (by omega), if_pos z2])
  · rw [ue 78 50 (by decide)] at z
    exact fin _ 0 (by rw [if_neg (by omega), if_neg (G1 z), if_neg (by omega), if_neg (by omega), if_neg (by omega), if_neg (by omega)])
theorem iRo_0 (q : iRo h) : rs0 h (h 30 0) (h 30 1) (h 33) (h 34) (h 35) (h 36) (h 32) := ⟨⟨rfl, q.1.2⟩, ⟨rfl, q.2.1.2⟩, fun p a b => ⟨rfl, (q.2.2.2.1 p a b).2⟩, fun k a b => by
  have z := q.2.2.2.2 k a b
  exact ⟨rfl, rfl, rfl, rfl, z.2.2.2.2⟩⟩
theorem iRo_M (q : iRo h) (f : ∀ a i, (124 ≤ a ∧ a ≤ 128) ∨ (a = 78 ∧ 85 ≤ i ∧ i ≤ 87) → g a i = h a i) : rsM g (h 30 0) (h 30 1) (h 33) (h 34) (h 35) (h 36) (h 32) := by
  refine ⟨⟨by rw [f 78 85 (by omega)]; exact q.1.1, q.1.2⟩, ⟨by rw [f 78 86 (by omega)]; exact q.2.1.1, q.2.1.2⟩, fun p a b => ?_, fun k a b => ?_⟩
  · rw [f 124 p (by omega)]; exact q.2.2.2.1 p a b
  · have z := q.2.2.2.2 k a b
    rw [f 125 k (by omega), f 126 k (by omega), f 127 k (by omega), f 128 k (by omega)]
    exact ⟨z.1, z.2.1, z.2.2.1, z.2.2.2.1⟩
theorem p_filled {v1 v2 : Int} (v : Inv sh pt h) : RunI X (d + 21) mX10_filled [(2, 0), (0, v1), (0, v2)] sh pt h (fun r h1 => RunI X (d + 21) mX11_filled [(2, 78), (0, v1), (0, v2)] sh pt h1 (fun r1 h2 => r1 = r ∧ Inv sh pt h2)) := by
  obtain ⟨t, ts, c, cs, v⟩ := v
  have hst := v.2.1
  have gr := v.2.2.2.2.2.1
  have ro := v.2.2.2.2.2.2.2.2.2.2.2.2.2.2.1
  refine RunI.deep (d1 := d + 6) (by omega) (x_filled (M := h 2 3) hst (iRo_0 ro) rfl gr.1.2.1 gr.1.2.2 (fun z => ?_) (fun z1 z2 L h2 f2 o2 => ?_))
  · refine m_filled (M := h 2 3) hst (iRo_M ro (fun a i q => qup_of (by omega))) (by rw [qup_of (by decide)]; exact gr.1.1) gr.1.2.1 gr.1.2.2 (fun _ => ⟨rfl, Inv_rs v Fst qup_at⟩) (fun y1 y2 => absurd ⟨y1, y2⟩ z)
  · refine m_filled (M := h 2 3) hst (iRo_M ro (fun a i q => ?_)) ?_ gr.1.2.1 gr.1.2.2 (fun y => absurd ⟨z1, z2⟩ y) (fun _ _ L1 h3 f3 o3 => ⟨mx_uq o3.1 o2.1, Inv_s v (Fr.tr (Fr.tr (Fr.wk f2 (fun _ _ q => Pj_Of q)) Fst) (Fr.tr (Fr.wk ms_Fr (fun _ _ q => Pj_r q)) (Fr.wk f3 (fun _ _ q => Pj_Fa q)))) ?_⟩)
    · rw [qup_of (by omega), f2 a i (by unfold POf; omega)]
    · rw [qup_of (by decide), f2 78 7 (by unfold POf; omega)]; exact gr.1.1
    · rw [f3 0 12 (by unfold PFa; omega), f3 78 0 (by unfold PFa; omega), ms_of (by decide), qup_at, ms_at.1]
theorem p_who {v1 v2 v3 : Int} (v : Inv sh pt h) : RunI X (d + 21) mX10_who [(2, 0), (0, v1), (0, v2), (0, v3)] sh pt h (fun r h1 => RunI X (d + 21) mX11_who [(2, 78), (0, v1), (0, v2), (0, v3)] sh pt h1 (fun r1 h2 => r1 = r ∧ Inv sh pt h2)) := by
  obtain ⟨t, ts, c, cs, v⟩ := v
  have hst := v.2.1
  have gr := v.2.2.2.2.2.1
  have ro := v.2.2.2.2.2.2.2.2.2.2.2.2.2.2.1
  refine RunI.deep (d1 := d + 6) (by omega) (x_who (M := h 2 3) hst (iRo_0 ro) rfl gr.1.2.1 gr.1.2.2 (fun z => ?_) (fun z1 z2 z => ?_) (fun z1 z2 z3 z4 L h2 f2 o2 => ?_))
  · exact m_who (M := h 2 3) hst (iRo_M ro (fun a i q => qup_of (by omega))) (by rw [qup_of (by decide)]; exact gr.1.1) gr.1.2.1 gr.1.2.2 (fun _ => ⟨rfl, Inv_rs v Fst qup_at⟩) (fun y1 y2 => absurd ⟨y1, y2⟩ z) (fun y1 y2 => absurd ⟨y1, y2⟩ z)
  · exact m_who (M := h 2 3) hst (iRo_M ro (fun a i q => qup_of (by omega))) (by rw [qup_of (by decide)]; exact gr.1.1) gr.1.2.1 gr.1.2.2 (fun y => absurd ⟨z1, z2⟩ y) (fun _ _ _ => ⟨rfl, Inv_rs v Fst qup_at⟩) (fun _ _ y1 y2 => absurd ⟨y1, y2⟩ z)
  · have key : ∀ s r, ((h2 31 v1 = -1 ∧ r = -1 ∧ s = 8) ∨ (h2 31 v1 ≠ -1 ∧ r = h2 31 v1 ∧ s = 0)) → RunI X (d + 21) mX11_who [(2, 78), (0, v1), (0, v2), (0, v3)] sh pt (qup h2 0 12 s) (fun r1 h2 => r1 = r ∧ Inv sh pt h2) := by
      intro s r hs
      refine m_who (M := h 2 3) hst (iRo_M ro (fun a i q => ?_)) ?_ gr.1.2.1 gr.1.2.2 (fun y => absurd ⟨z1, z2⟩ y) (fun _ _ y => absurd ⟨z3, z4⟩ y) (fun _ _ _ _ L1 h3 f3 o3 => ?_)
      · rw [qup_of (by omega), f2 a i (by unfold POf; omega)]
      · rw [qup_of (by decide), f2 78 7 (by unfold POf; omega)]; exact gr.1.1
      · have ef : h3 129 v1 = h2 31 v1 := lx_uq o3.2.1 o2.2.1 (v1 + 1).toNat v1 z1 (by omega) z2
        have f4 : Fr (Pjk c cs) h h3 := Fr.tr (Fr.tr (Fr.wk f2 (fun _ _ q => Pj_Of q)) Fst) (Fr.tr (Fr.wk ms_Fr (fun _ _ q => Pj_r q)) (Fr.wk f3 (fun _ _ q => Pj_Fa q)))
        have h12 : h3 0 12 = s := by rw [f3 0 12 (by unfold PFa; omega), ms_of (by decide), qup_at]
        have h80 : h3 78 0 = 0 := by rw [f3 78 0 (by unfold PFa; omega), ms_at.1]
        rw [ef]
        refine ⟨fun y => ?_, fun y => ?_⟩
        · rcases hs with w | w
          · refine ⟨w.2.1.symm, Inv_s v (Fr.up f4 (Pj_r ⟨rfl, by decide⟩)) ?_⟩
            rw [qup_of (by decide), qup_at, h12]; exact w.2.2
          · exact absurd y w.1
        · rcases hs with w | w
          · exact absurd w.1 y
          · exact ⟨w.2.1.symm, Inv_s v f4 (by rw [h12, h80]; exact w.2.2)⟩
    exact ⟨fun y => key 8 _ (Or.inl ⟨y, rfl, rfl⟩), fun y => key 0 _ (Or.inr ⟨y, rfl, rfl⟩)⟩
end
