/-! a call of the class and of the reference, one behind the other: what is only asked -/
section
variable {X : qX} {d : Nat} {sh : qS} {pt h g : qM} {t ts c cs : Int}
theorem Inv_s (v : InvA t ts c cs sh pt h) (f : Fr (Pjk c cs) h g) (s : g 0 12 = g 78 0) : Inv sh pt g := ⟨t, ts, c, cs, InvA_st v f s⟩
theorem ms_at {s : Int} : ms h s 78 0 = s ∧ ms h s 78 1 = 0 := by
  unfold ms
  exact ⟨qup_at, by rw [qup_of (by decide), qup_at]⟩
theorem ms_Fr {s : Int} : Fr (fun a i => a = 78 ∧ i ≤ 1) h (ms h s) := Fr.up (Fr.up Fr.rf (by decide)) (by decide)
/-- both say the same status -/
theorem Inv_rs {s : Int} {g1 : qM} (v : InvA t ts c cs sh pt h) (f : Fr (Pjk c cs) h g1) (e : g1 0 12 = s) : Inv sh pt (ms g1 s) := by
  refine Inv_s v (Fr.tr f (Fr.wk ms_Fr (fun a i q => Pj_r q))) ?_
  rw [ms_of (by decide), e, ms_at.1]
theorem Fst {s : Int} : Fr (Pjk c cs) h (qup h 0 12 s) := Fr.up Fr.rf (Or.inl (Or.inl ⟨rfl, rfl⟩))
theorem Fst1 : Fr (Pjk c cs) h (qup h 78 1 0) := Fr.up Fr.rf (Or.inl (Or.inr ⟨rfl, by decide⟩))
theorem p_status (v : Inv sh pt h) : RunI X (d + 21) mX10_status [(2, 0)] sh pt h (fun r h1 => RunI X (d + 21) mX11_status [(2, 78)] sh pt h1 (fun r1 h2 => r1 = r ∧ Inv sh pt h2)) := by
  obtain ⟨t, ts, c, cs, v⟩ := v
  have hst := v.2.1
  refine b_X10_status hst (b_X11_status hst (fun h1 e1 => ?_))
  rw [e1]
  exact ⟨by rw [qup_of (by decide)]; exact v.2.2.2.1.symm, Inv_s v Fst1 (by rw [qup_of (by decide), qup_of (by decide)]; exact v.2.2.2.1)⟩
theorem Inv_1 (v : InvA t ts c cs sh pt h) : Inv sh pt (qup h 78 1 0) := Inv_s v Fst1 (by rw [qup_of (by decide), qup_of (by decide)]; exact v.2.2.2.1)
theorem p_fault {v1 : Int} (v : Inv sh pt h) : RunI X (d + 21) mX10_fault [(2, 0), (0, v1)] sh pt h (fun r h1 => RunI X (d + 21) mX11_fault [(2, 78), (0, v1)] sh pt h1 (fun r1 h2 => r1 = r ∧ Inv sh pt h2)) := by
  obtain ⟨t, ts, c, cs, v⟩ := v
  have hst := v.2.1
  have fe := v.2.2.2.2.2.2.2.2.2.1
  have key : ∀ r, r = (if v1 = 0 then h 0 13 else if v1 = 1 then h 0 14 else -1) → RunI X (d + 21) mX11_fault [(2, 78), (0, v1)] sh pt h (fun r1 h2 => r1 = r ∧ Inv sh pt h2) := by
    intro r er
    refine b_X11_fault hst (fun h1 e1 => ?_)
    subst e1
    rw [qup_of (by decide), qup_of (by decide), fe.1, fe.2.1]
    refine ⟨fun q => ⟨fun q2 => ⟨?_, Inv_1 v⟩, fun q2 => ⟨?_, Inv_1 v⟩⟩, fun q => ⟨?_, Inv_1 v⟩⟩
    · rw [er, if_neg q, if_neg q2]
    · rw [er, if_neg q, if_pos q2]
    · rw [er, if_pos q]
  exact b_X10_fault hst ⟨fun q => ⟨fun q2 => key _ (by rw [if_neg q, if_neg q2]), fun q2 => key _ (by rw [if_neg q, if_pos q2])⟩, fun q => key _ (by rw [if_pos q])⟩
theorem p_error {v1 : Int} (v : Inv sh pt h) : RunI X (d + 21) mX10_error [(2, 0), (0, v1)] sh pt h (fun r h1 => RunI X (d + 21) mX11_error [(2, 78), (0, v1)] sh pt h1 (fun r1 h2 => r1 = r ∧ Inv sh pt h2)) := by
  obtain ⟨t, ts, c, cs, v⟩ := v
  have hst := v.2.1
  have fe := v.2.2.2.2.2.2.2.2.2.1
  have key : ∀ r, r = (if v1 = 0 then h 0 15 else if v1 = 1 then h 0 16 else -1) → RunI X (d + 21) mX11_error [(2, 78), (0, v1)] sh pt h (fun r1 h2 => r1 = r ∧ Inv sh pt h2) := by
    intro r er
    refine b_X11_error hst (fun h1 e1 => ?_)
    subst e1
    rw [qup_of (by decide), qup_of (by decide), fe.2.2.1, fe.2.2.2.1]
    refine ⟨fun q => ⟨fun q2 => ⟨?_, Inv_1 v⟩, fun q2 => ⟨?_, Inv_1 v⟩⟩, fun q => ⟨?_, Inv_1 v⟩⟩
    · rw [er, if_neg q, if_neg q2]
    · rw [er, if_neg q, if_pos q2]
    · rw [er, if_pos q]
  exact b_X10_error hst ⟨fun q => ⟨fun q2 => key _ (by rw [if_neg q, if_neg q2]), fun q2 => key _ (by rw [if_neg q, if_pos q2])⟩, fun q => key _ (by rw [if_pos q])⟩
theorem p_upper (v : Inv sh pt h) : RunL X (d + 21) mX10_upper [(2, 0)] sh pt h (fun r h1 => RunL X (d + 21) mX11_upper [(2, 78)] sh pt h1 (fun r1 h2 => r1 = r ∧ Inv sh pt h2)) := by
  obtain ⟨t, ts, c, cs, v⟩ := v
  have hst := v.2.1
  have sc := v.2.2.2.2.2.2.2.2.2.2.2.2.2.2.2
  refine b_X10_upper hst (b_X11_upper hst (fun h1 e1 => ?_))
  rw [e1]
  exact ⟨by rw [qup_of (by decide)]; exact sc.2.2.1, Inv_1 v⟩
theorem p_lower (v : Inv sh pt h) : RunL X (d + 21) mX10_lower [(2, 0)] sh pt h (fun r h1 => RunL X (d + 21) mX11_lower [(2, 78)] sh pt h1 (fun r1 h2 => r1 = r ∧ Inv sh pt h2)) := by
  obtain ⟨t, ts, c, cs, v⟩ := v
  have hst := v.2.1
  have sc := v.2.2.2.2.2.2.2.2.2.2.2.2.2.2.2
  refine b_X10_lower hst (b_X11_lower hst (fun h1 e1 => ?_))
  rw [e1]
  exact ⟨by rw [qup_of (by decide)]; exact sc.2.2.2, Inv_1 v⟩
/-- the RUN that stands, for both -/
theorem iCo_g (q : iCo c cs h) : ∃ g, cg h c g (fun t m => h 106 (20 * t + m)) (fun t m => h 107 (20 * t + m)) (fun t m => h 108 (20 * t + m)) (h 78 51) (h 78 50) ∧ mg h g (fun t m => h 106 (20 * t + m)) (fun t m => h 107 (20 * t + m)) (fun t m => h 108 (20 * t + m)) (h 78 51) (h 78 50) ∧ ((g = 0 ∧ h 78 50 = -1) ∨ (g = 1 ∧ 0 ≤ h 78 50 ∧ h c 6 = h 78 52)) := by
  rcases q.2.2 with z | z
  · exact ⟨0, Or.inl ⟨rfl, z.1⟩, Or.inl ⟨rfl, z.2⟩, Or.inl ⟨rfl, z.2⟩⟩
  · obtain ⟨z1, z2, z3, z4, z5, z6⟩ := z
    refine ⟨1, Or.inr ⟨rfl, z1, ⟨⟨z5.1.2, z5.2.2⟩, fun t m a b a2 b2 => ?_⟩, z2, z3, z5.2.1, z5.1.1⟩, Or.inr ⟨rfl, ⟨⟨z5.1.1, z5.1.2, z5.2.1, z5.2.2⟩, fun t m a b a2 b2 => ?_⟩, rfl, rfl⟩, Or.inr ⟨rfl, z5.2.1, z4⟩⟩
    · have y := z6 t m a b a2 b2
      rw [show t * 20 + m = 20 * t + m by omega]
      exact ⟨y.1, y.2.1.1, y.2.1.2, y.2.2.1.1, y.2.2.1.2, y.2.2.2.1, y.2.2.2.2⟩
    · have y := z6 t m a b a2 b2
      exact ⟨rfl, rfl, rfl, y.2.1.1, y.2.1.2, y.2.2.1.1, y.2.2.1.2, y.2.2.2.1, y.2.2.2.2⟩
theorem mg_fr {G : Int} {E N F : Int → Int → Int} {T M : Int} (q : mg h G E N F T M) (f : ∀ a i, (106 ≤ a ∧ a ≤ 108) ∨ (a = 78 ∧ 50 ≤ i ∧ i ≤ 51) → g a i = h a i) : mg g G E N F T M := by
  rcases q with z | ⟨z1, z2, z3, z4⟩
  · exact Or.inl ⟨z.1, by rw [f 78 50 (by omega)]; exact z.2⟩
  · refine Or.inr ⟨z1, ⟨z2.1, fun t m a b a2 b2 => ?_⟩, by rw [f 78 51 (by omega)]; exact z3, by rw [f 78 50 (by omega)]; exact z4⟩
    rw [f 106 _ (by omega), f 107 _ (by omega), f 108 _ (by omega)]
    exact z2.2 t m a b a2 b2
theorem mg_st {G s : Int} {E N F : Int → Int → Int} {T M : Int} (q : mg h G E N F T M) : mg (qup h 0 12 s) G E N F T M := mg_fr q (fun a i z => qup_of (by omega))
theorem pr_in {a b c d : Int} {p : Int × Int} (h1 : (a, b) = p) (h2 : (c, d) = p) : c = a ∧ d = b := by
  rw [← h1] at h2
  exact ⟨(Prod.mk.inj h2).1, (Prod.mk.inj h2).2⟩
theorem p_at {v1 v2 v3 : Int} (v : Inv sh pt h) : RunI X (d + 21) mX10_at [(2, 0), (0, v1), (0, v2), (0, v3)] sh pt h (fun r h1 => RunI X (d + 21) mX11_at [(2, 78), (0, v1), (0, v2), (0, v3)] sh pt h1 (fun r1 h2 => r1 = r ∧ Inv sh pt h2)) := by
  obtain ⟨t, ts, c, cs, v⟩ := v
  have hst := v.2.1
  obtain ⟨G, q1, q2, _⟩ := iCo_g v.2.2.2.2.2.2.2.2.2.2.2.1
  refine RunI.deep (d1 := d + 1) (by omega) (x_at hst v.1.2.1 v.1.2.2.1 q1 (fun r s e => RunI.deep (d1 := d + 2) (by omega) (m_at hst (mg_st q2) (fun r1 s1 e1 => ?_))))
  obtain ⟨er, es⟩ := pr_in e e1
  rw [es]
  exact ⟨er, Inv_rs v Fst qup_at⟩
theorem p_clash {v1 v2 : Int} (i1 : qI v1) (v : Inv sh pt h) : RunI X (d + 21) mX10_clash [(2, 0), (0, v1), (0, v2)] sh pt h (fun r h1 => RunI X (d + 21) mX11_clash [(2, 78), (0, v1), (0, v2)] sh pt h1 (fun r1 h2 => r1 = r ∧ Inv sh pt h2)) := by
  obtain ⟨t, ts, c, cs, v⟩ := v
  have hst := v.2.1
  obtain ⟨G, q1, q2, _⟩ := iCo_g v.2.2.2.2.2.2.2.2.2.2.2.1
  refine RunI.deep (d1 := d + 3) (by omega) (x_clash hst v.1.2.1 v.1.2.2.1 q1 i1 (fun r s e => RunI.deep (d1 := d + 3) (by omega) (m_clash hst (mg_st q2) i1 (fun r1 s1 e1 => ?_))))
  obtain ⟨er, es⟩ := pr_in e e1
  rw [es]
  exact ⟨er, Inv_rs v Fst qup_at⟩
theorem p_seen {v1 v2 v3 : Int} (v : Inv sh pt h) : RunI X (d + 21) mX10_seen [(2, 0), (0, v1), (0, v2), (0, v3)] sh pt h (fun r h1 => RunI X (d + 21) mX11_seen [(2, 78), (0, v1), (0, v2), (0, v3)] sh pt h1 (fun r1 h2 => r1 = r ∧ Inv sh pt h2)) := by
  obtain ⟨t, ts, c, cs, v⟩ := v
  have hst := v.2.1
  obtain ⟨G, q1, q2, _⟩ := iCo_g v.2.2.2.2.2.2.2.2.2.2.2.1
  refine RunI.deep (d1 := d + 3) (by omega) (x_seen hst v.1.2.1 v.1.2.2.1 q1 (fun r s e => RunI.deep (d1 := d + 2) (by omega) (m_seen hst (mg_st q2) (fun r1 s1 e1 => ?_))))
  obtain ⟨er, es⟩ := pr_in e e1
  rw [es]
  exact ⟨er, Inv_rs v Fst qup_at⟩
theorem p_like {v1 v2 : Int} (v : Inv sh pt h) : RunI X (d + 21) mX10_like [(2, 0), (0, v1), (0, v2)] sh pt h (fun r h1 => RunI X (d + 21) mX11_like [(2, 78), (0, v1), (0, v2)] sh pt h1 (fun r1 h2 => r1 = r ∧ Inv sh pt h2)) := by
  obtain ⟨t, ts, c, cs, v⟩ := v
  have hst := v.2.1
  have hc := v.1.2.2.1
  have cn : 60 ≤ c ∧ c ≤ 70 := by rcases hc with e | e <;> omega
  obtain ⟨G, q1, q2, _⟩ := iCo_g v.2.2.2.2.2.2.2.2.2.2.2.1
  refine RunI.deep (d1 := d + 5) (by omega) (x_like hst v.1.2.1 hc q1 (fun r s e h1 f1 => RunI.deep (d1 := d + 2) (by omega) (m_like hst (mg_fr (h := h) q2 (fun a i z => ?_)) (fun r1 s1 e1 h2 f2 => ?_))))
  · rw [qup_of (by omega), f1 a i (by omega)]
  obtain ⟨er, es⟩ := pr_in e e1
  rw [es] at f2
  refine ⟨er, Inv_s v (Fr.tr (Fr.tr (Fr.wk f1 (fun a i z => ?_)) Fst) (Fr.tr (Fr.wk ms_Fr (fun a i z => ?_)) (Fr.wk f2 (fun a i z => ?_)))) ?_⟩
  · rcases z with z | z
    · exact pj_11 z
    · exact pj_12 z
  · exact Pj_r z
  · exact pj_18 ⟨by omega, by omega⟩
  · rw [f2 0 12 (by omega), f2 78 0 (by omega), ms_of (by decide), qup_at, ms_at.1]
theorem p_dressed {v1 v2 : Int} (v : Inv sh pt h) : RunI X (d + 21) mX10_dressed [(2, 0), (0, v1), (0, v2)] sh pt h (fun r h1 => RunI X (d + 21) mX11_dressed [(2, 78), (0, v1), (0, v2)] sh pt h1 (fun r1 h2 => r1 = r ∧ Inv sh pt h2)) := by
  obtain ⟨t, ts, c, cs, v⟩ := v
  have hst := v.2.1
  have gp := v.2.2.2.2.2.2.2.1
  obtain ⟨G, q1, q2, _⟩ := iCo_g v.2.2.2.2.2.2.2.2.2.2.2.1
  refine RunI.deep (d1 := d + 2) (by omega) (x_dressed (G := h 2 8) (s := h 8 v1) hst v.1.2.1 v.1.2.2.1 q1 rfl gp.1.2.2 (fun a b => ⟨rfl, by have := gp.2 v1 a b; omega⟩) (fun r s e => RunI.deep (d1 := d + 2) (by omega) (m_dressed (G := h 2 8) (s := h 8 v1) hst (mg_st q2) ?_ gp.1.2.1 gp.1.2.2 (fun a b => ⟨?_, by have := gp.2 v1 a b; omega⟩) (fun r1 s1 e1 => ?_))))
  · rw [qup_of (by omega)]; exact gp.1.1
  · rw [qup_of (by omega)]; exact (gp.2 v1 a b).2.1
  obtain ⟨er, es⟩ := pr_in e e1
  rw [es]
  exact ⟨er, Inv_rs v Fst qup_at⟩
theorem p_spotOf {v1 : Int} (v : Inv sh pt h) : RunI X (d + 21) mX10_spotOf [(2, 0), (0, v1)] sh pt h (fun r h1 => RunI X (d + 21) mX11_spotOf [(2, 78), (0, v1)] sh pt h1 (fun r1 h2 => r1 = r ∧ Inv sh pt h2)) := by
  obtain ⟨t, ts, c, cs, v⟩ := v
  have hst := v.2.1
  have pl := v.2.2.2.2.2.2.2.2.2.2.2.2.1
  refine RunI.deep (d1 := d + 1) (by omega) (x_spotOf (pl := h 19 0) (su := h 19 2) (f := h 20) hst rfl pl.1.2 (fun _ => ⟨rfl, fun _ _ _ => rfl⟩) (fun r s e => RunI.deep (d1 := d + 1) (by omega) (m_spotOf (pl := h 19 0) (su := h 19 2) (f := h 20) hst ?_ pl.1.2 (fun z => ⟨?_, fun j a b => ?_⟩) (fun r1 s1 e1 => ?_))))
  · rw [qup_of (by omega)]; exact pl.1.1
  · rw [qup_of (by omega)]; exact (pl.2 z).1
  · rw [qup_of (by omega)]; exact (pl.2 z).2 j a b
  obtain ⟨er, es⟩ := pr_in e e1
  rw [es]
  exact ⟨er, Inv_rs v Fst qup_at⟩
theorem p_move {v1 : Int} (v : Inv sh pt h) : RunI X (d + 21) mX10_move [(2, 0), (0, v1)] sh pt h (fun r h1 => RunI X (d + 21) mX11_move [(2, 78), (0, v1)] sh pt h1 (fun r1 h2 => r1 = r ∧ Inv sh pt h2)) := by
  obtain ⟨t, ts, c, cs, v⟩ := v
  have hst := v.2.1
  have pa := v.2.2.2.2.2.2.2.2.2.2.2.2.2.1
  have mm : ∀ r s, (r, s) = moveF (h 28 0) (h 138) v1 → RunI X (d + 21) mX11_move [(2, 78), (0, v1)] sh pt (qup h 0 12 s) (fun r1 h2 => r1 = r ∧ Inv sh pt h2) := by
    intro r s e
    refine RunI.deep (d1 := d + 1) (by omega) (m_move (pm := h 28 0) (f := h 138) hst ?_ pa.1.2.1 pa.1.2.2 (fun j a b => ?_) (fun r1 s1 e1 => ?_))
    · rw [qup_of (by omega)]; exact pa.1.1
    · rw [qup_of (by omega)]; exact ((pa.2 (by omega)).2 j a b).1
    · obtain ⟨er, es⟩ := pr_in e e1
      rw [es]
      exact ⟨er, Inv_rs v Fst qup_at⟩
  rcases v.2.2.1 with z | z
  · have np : ¬ 0 < h 28 0 := fun y => by
      have w := pw_1 (pa.2 y).1
      rw [z.2.2.2] at w
      exact absurd w (by decide)
    refine RunI.deep (d1 := d + 1) (by omega) (x_move0 (f := h 138) hst z.2.2.2 (fun r s e => mm r s ?_))
    rw [e]
    unfold moveF
    rw [if_neg (by omega), if_neg (by omega)]
  · exact RunI.deep (d1 := d + 1) (by omega) (x_move1 (pm := h 28 0) (f := h 138) hst z rfl pa.1.2.2 (fun j a b => ⟨rfl, ((pa.2 (by omega)).2 j a b).2⟩) mm)
end
