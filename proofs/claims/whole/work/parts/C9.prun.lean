/-! pairs: run, orders -/
theorem Sw_pt {sh : qS} {pt pt1 : qM} (s : Sw sh pt) (p : ∀ i, pt1 28 i = pt 28 i) : Sw sh pt1 := by
  unfold Sw at s ⊢
  rw [p, p, p]
  exact s
theorem ShP_pt {sh : qS} {pt pt1 : qM} (s : ShP sh pt) (p : ∀ i, pt1 28 i = pt 28 i) : ShP sh pt1 := by
  rcases s with s | s
  · refine Or.inl ⟨s.1, ?_, ?_, ?_⟩
    · rw [p]; exact s.2.1
    · rw [p]; exact s.2.2.1
    · rw [p]; exact s.2.2.2
  · exact Or.inr (Sw_pt s p)
theorem runP_fr {T : qM} (x : TXo T) (b : BGo T) : Fr PLn T (runP T).1 := by
  have r0 := run0_ok x b
  have n0 : 0 ≤ T 78 30 := x.2.1.1
  have z := fo_inv (f := linS) (i := 0) (n := T 78 30) (a := (run0 T, 0)) (fun l (s : qM × Int) => LIv T l s.2 s.1) (fun l s a q v => by
    try dsimp only at v ⊢
    have e30 : s.1 78 30 = T 78 30 := v.1 _ _ (by unfold PLn; omega)
    by_cases c : s.1 78 67 = 0
    · rw [linS, cif_t c]
      exact linF_ok (TXo_fr x v.1) v c a (by omega)
    · rw [linS, cif_f c]
      exact ⟨v.1, v.2.1, v.2.2.1, fun y => absurd y c⟩) n0 r0.1
  exact z.1
section
variable {X : qX} {d rc rs : Nat} {sh : qS} {pt h g : qM} {t ts c cs : Int}
theorem ms_TXo (x : TXq h) (m : 0 ≤ h 78 7 ∧ h 78 7 ≤ 20) : TXo (ms h 0) := by
  have r : ∀ a, ¬ a = 78 → ms h 0 a = h a := fun a q => funext (fun i => ms_of q)
  have m30 : ms h 0 78 30 = h 78 30 := ms_of2 (by decide)
  have m7 : ms h 0 78 7 = h 78 7 := ms_of2 (by decide)
  unfold TXo
  unfold TXq RGn oK at x
  unfold RGn oK
  rw [m7, m30, r 90 (by decide), r 89 (by decide), r 94 (by decide), r 95 (by decide), r 96 (by decide), r 97 (by decide), r 99 (by decide)]
  exact ⟨m, x⟩
theorem ms_TXc (x : TXc t h h) : TXc t (ms h 0) h := by
  have r : ∀ a, ¬ a = 78 → ms h 0 a = h a := fun a q => funext (fun i => ms_of q)
  have m30 : ms h 0 78 30 = h 78 30 := ms_of2 (by decide)
  unfold TXc TXr oK inB at x ⊢
  rw [m30, r 90 (by decide), r 89 (by decide), r 94 (by decide), r 95 (by decide), r 96 (by decide), r 97 (by decide), r 98 (by decide), r 99 (by decide)]
  exact x
theorem p_run (v : Inv sh pt h) : Run X (d + 21) rc rs mX10_run [(2, 0)] (sh, pt, h) (fun r g => ∃ r1 pt1 h1, r = some (0, r1) ∧ g = (sh, pt1, h1) ∧ (∀ i, pt1 28 i = pt 28 i) ∧ St sh pt1 ∧ RunI X (d + 21) mX11_run [(2, 78)] sh pt1 h1 (fun r2 h2 => r2 = r1 ∧ Inv sh pt1 h2)) := by
  obtain ⟨t, ts, c, cs, v⟩ := v
  obtain ⟨v0, hst, hsp, v3, v4, gr, v6, v7, v8, fe, tx, co, vc, vd, ve, vf⟩ := id v
  have gr1 := gr.1
  obtain ⟨⟨p8, ht, p9, hts, tts⟩, p10, hc, p11, hcs, ccs⟩ := v0
  have cn : (c = 62 ∧ cs = 66) ∨ (c = 66 ∧ cs = 62) := by rcases hc with e | e <;> rcases hcs with e2 | e2 <;> omega
  have tn : 40 ≤ t ∧ t ≤ 53 := by rcases ht with e | e <;> omega
  have r : ∀ a i, ¬ a = 78 → ms h 0 a i = h a i := fun a i q => ms_of q
  have m7 : ms h 0 78 7 = h 78 7 := ms_of2 (by decide)
  have bg : BGo h := fun m a b => by
    have w := gr.2 m a (by omega)
    rw [w.1, w.2.1, w.2.2.1]
    exact w.2.2.2
  have bgm : BGo (ms h 0) := by
    unfold BGo
    rw [m7]
    intro m a b
    rw [r 82 m (by decide), r 83 m (by decide), r 84 m (by decide)]
    exact bg m a b
  have toldq : ¬ h t 10 = 0 → h t 10 = 1 ∧ TXq h ∧ TXc t h h := fun z => by
    rcases tx with w | w
    · exact absurd w.1 z
    · exact w
  -- the reference, over a heap that differs from h in the class's cells alone
  have mref : ∀ (K : Int → qM → Prop) (pt1 h1 : qM), St sh pt1 → (∀ a i, 78 ≤ a → h1 a i = h a i) → (h 78 30 < 0 → K (-1) (mrg h1 (ms h 8))) → (0 ≤ h 78 30 → 0 < (runP (ms h 0)).1 78 67 → ∀ Q, Fr PMr h Q → Fr (fun a x => a = 78 ∧ (x = 0 ∨ x = 53 ∨ x = 54)) (runP (ms h 0)).1 Q → Q 78 0 = 10 → Q 78 53 = (runP (ms h 0)).1 78 67 → Q 78 54 = (runP (ms h 0)).1 78 68 → K (-1) (mrg h1 Q)) → (0 ≤ h 78 30 → (runP (ms h 0)).1 78 67 = 0 → (0 ≤ (runP (ms h 0)).2 ∧ (runP (ms h 0)).2 ≤ 150) → LIv (ms h 0) (h 78 30) (runP (ms h 0)).2 (runP (ms h 0)).1 → ∀ Q, Fr PMr h Q → Q 78 0 = 0 → Q 78 53 = 0 → Q 78 54 = -1 → (∀ y, 0 ≤ y → y < 3020 → Q 106 y = (runP (ms h 0)).1 109 y ∧ Q 107 y = (runP (ms h 0)).1 110 y ∧ Q 108 y = (runP (ms h 0)).1 111 y) → Q 78 50 = h 78 7 → Q 78 51 = (runP (ms h 0)).2 → Q 78 52 = (runP (ms h 0)).1 78 66 → K (runP (ms h 0)).2 (mrg h1 Q)) → RunI X (d + 21) mX11_run [(2, 78)] sh pt1 h1 K := by
    intro K pt1 h1 st1 e1 kn kf ks
    have em : h1 = mrg h1 h := by
      funext a i
      unfold mrg
      by_cases q : a < 78
      · rw [if_pos q]
      · rw [if_neg q, e1 a i (by omega)]
    have z := m_run (X := X) (d := d) (sh := sh) (pt := pt1) (b := h1) (S := h) (K := K) st1 (fun l0 => ?_) bg kn kf ks
    · rw [← em] at z
      exact RunI.deep (d1 := d + 8) (by omega) z
    · rcases tx with w | w
      · omega
      · exact ⟨by omega, w.2.1⟩
  have xr := x_run (X := X) (d := d) (rc := rc) (rs := rs) (sh := sh) (pt := pt) (h := h) (Sb := ms h 0) (c := c) (cs := cs) (t := t) (M := h 2 3) (Q := fun r g => ∃ r1 pt1 h1, r = some (0, r1) ∧ g = (sh, pt1, h1) ∧ (∀ i, pt1 28 i = pt 28 i) ∧ St sh pt1 ∧ RunI X (d + 21) mX11_run [(2, 78)] sh pt1 h1 (fun r2 h2 => r2 = r1 ∧ Inv sh pt1 h2)) hst p10 hc p11 hcs p8 ht (fun z => ⟨ms_TXo (toldq z).2.1 (by omega), ms_TXc (toldq z).2.2⟩) bgm (by rw [m7, gr.1.1]) rfl (fun m a b => ?_) co.2.1 (fun z => ?_) (fun z er h1 f1 s1 a12 a15 a16 => ?_) (fun z er h1 pt1 f1 s1 a12 a15 a16 a3 a4 a5 a6 ag st1 q10 q11 pp => ?_)
  · exact Ev.deep (by omega) xr
  · have w := gr.2 m a b
    rw [r 82 m (by decide), r 83 m (by decide), r 84 m (by decide)]
    exact ⟨w.1.symm, w.2.1.symm, w.2.2.1.symm⟩
  · -- nothing told
    have l0 : h 78 30 = -1 := by
      rcases tx with w | w
      · exact w.2
      · omega
    refine ⟨-1, pt, _, rfl, rfl, fun _ => rfl, hst, mref _ pt _ hst (fun a i q => qup_of (by omega)) (fun _ => ⟨rfl, ?_⟩) (fun y => by omega) (fun y => by omega)⟩
    refine Inv_s v (fun a i q => ?_) ?_
    · have n1 := nPst_x q
      have n2 := nPst_r q
      unfold mrg
      by_cases w : a < 78
      · rw [if_pos w, qup_of n1]
      · rw [if_neg w, ms_Fr a i n2]
    · show mrg (qup h 0 12 8) (ms h 8) 0 12 = mrg (qup h 0 12 8) (ms h 8) 78 0
      rw [mrg_78, ms_at.1]
      show qup h 0 12 8 0 12 = 8
      exact qup_at
  · -- an error
    have l0 : 0 ≤ h 78 30 := by
      have w := (toldq z).2.1
      exact w.1.1
    refine ⟨-1, pt, h1, rfl, rfl, fun _ => rfl, hst, mref _ pt h1 hst (fun a i q => f1 a i (by unfold XTw; omega)) (fun y => by omega) (fun _ _ Q fQ f2 b0 b53 b54 => ⟨rfl, t, ts, c, cs, ?_⟩) (fun _ y => absurd y er)⟩
    have lo : ∀ a i, a < 78 → mrg h1 Q a i = h1 a i := fun a i q => by unfold mrg; rw [if_pos q]
    have hi : ∀ a i, 78 ≤ a → mrg h1 Q a i = Q a i := fun a i q => by unfold mrg; rw [if_neg (by omega)]
    generalize mrg h1 Q = m at *
    have me : ∀ a i, ¬ XTw cs a → ¬ (a = 0 ∧ (i = 12 ∨ i = 15 ∨ i = 16)) → ¬ PMr a i → m a i = h a i := fun a i q1 q2 q3 => by
      by_cases w : a < 78
      · rw [lo a i w, f1 a i (fun y => by rcases y with y | y; exact q1 y; exact q2 y)]
      · rw [hi a i (by omega), fQ a i q3]
    refine ⟨⟨⟨p8, ht, p9, hts, tts⟩, p10, hc, p11, hcs, ccs⟩, hst, hsp, ?_, iTr_fr v4 (fun a i q => me a i (by unfold XTw; omega) (by omega) (by unfold PMr; omega)), iGr_fr gr (fun a i q => me a i (by unfold XTw; omega) (by omega) (by unfold PMr; omega)), iPr_fr v6 (fun a i q => me a i (by unfold XTw; omega) (by omega) (by unfold PMr; omega)), iGp_fr v7 (fun a i q => me a i (by unfold XTw; omega) (by omega) (by unfold PMr; omega)), iTp_fr v8 (fun a i q => me a i (by unfold XTw; omega) (by omega) (by unfold PMr; omega)), ?_, iTx_fr tx (fun a i q => me a i (by unfold XTw; omega) (by omega) (by unfold PMr; omega)), ⟨SBc_fr co.1 (fun i => me _ _ (by unfold XTw; omega) (by omega) (by unfold PMr; omega)), SBc_fr s1 (fun i => lo _ _ (by omega)), ?_⟩, iPl_fr vc (fun a i q => me a i (by unfold XTw; omega) (by omega) (by unfold PMr; omega)), iPa_fr vd (fun a i q => me a i (by unfold XTw; omega) (by omega) (by unfold PMr; omega)), iRo_fr ve (fun a i q => me a i (by unfold XTw; omega) (by omega) (by unfold PMr; omega)), iSc_fr vf (fun a i q => me a i (by unfold XTw; omega) (by omega) (by unfold PMr; omega))⟩
    · rw [lo 0 12 (by decide), hi 78 0 (by decide), a12, b0]
    · unfold iFE
      rw [hi 78 53 (by decide), hi 78 54 (by decide), lo 0 15 (by decide), lo 0 16 (by decide), a15, a16, b53, b54, me 78 20 (by unfold XTw; omega) (by omega) (by unfold PMr; omega), me 78 21 (by unfold XTw; omega) (by omega) (by unfold PMr; omega), me 0 13 (by unfold XTw; omega) (by omega) (by unfold PMr; omega), me 0 14 (by unfold XTw; omega) (by omega) (by unfold PMr; omega), me 78 10 (by unfold XTw; omega) (by omega) (by unfold PMr; omega), me 2 9 (by unfold XTw; omega) (by omega) (by unfold PMr; omega)]
      exact ⟨fe.1, fe.2.1, rfl, rfl, fe.2.2.2.2⟩
    · have q5 : ∀ a i, (a = 106 ∨ a = 107 ∨ a = 108 ∨ (a = 78 ∧ 50 ≤ i ∧ i ≤ 52)) → m a i = h a i := fun a i q => by
        rw [hi a i (by omega), f2 a i (by omega), runP_fr (ms_TXo (toldq z).2.1 (by omega)) bgm a i (by unfold PLn; omega)]
        by_cases w : a = 78
        · subst w
          exact ms_of2 (by omega)
        · exact ms_of w
      have cc3 := co.2.2
      rw [me c 3 (by unfold XTw; omega) (by omega) (by unfold PMr; omega), me c 4 (by unfold XTw; omega) (by omega) (by unfold PMr; omega), me c 5 (by unfold XTw; omega) (by omega) (by unfold PMr; omega), me c 6 (by unfold XTw; omega) (by omega) (by unfold PMr; omega), q5 78 50 (by omega), q5 78 51 (by omega), q5 78 52 (by omega)]
      rcases cc3 with w | w
      · exact Or.inl w
      · refine Or.inr ⟨w.1, w.2.1, w.2.2.1, w.2.2.2.1, w.2.2.2.2.1, fun t' m' a b a2 b2 => ?_⟩
        rw [me (c + 1) _ (by unfold XTw; omega) (by omega) (by unfold PMr; omega), q5 106 _ (by omega), q5 107 _ (by omega), q5 108 _ (by omega)]
        exact w.2.2.2.2.2 t' m' a b a2 b2
  · -- well
    have l0 : 0 ≤ h 78 30 := by
      have w := (toldq z).2.1
      exact w.1.1
    refine ⟨(runP (ms h 0)).2, pt1, h1, rfl, rfl, fun i => pp 28 i (by omega), st1, mref _ pt1 h1 st1 (fun a i q => f1 a i (by unfold XTw; omega)) (fun y => by omega) (fun _ y => by omega) (fun _ _ mx lv Q fQ b0 b53 b54 bc b50 b51 b52 => ⟨rfl, t, ts, cs, c, ?_⟩)⟩
    have lo : ∀ a i, a < 78 → mrg h1 Q a i = h1 a i := fun a i q => by unfold mrg; rw [if_pos q]
    have hi : ∀ a i, 78 ≤ a → mrg h1 Q a i = Q a i := fun a i q => by unfold mrg; rw [if_neg (by omega)]
    generalize mrg h1 Q = m at *
    have me : ∀ a i, ¬ XTw cs a → ¬ (a = 0 ∧ (i = 12 ∨ i = 15 ∨ i = 16)) → ¬ PMr a i → m a i = h a i := fun a i q1 q2 q3 => by
      by_cases w : a < 78
      · rw [lo a i w, f1 a i (fun y => by rcases y with y | y; exact q1 y; exact q2 y)]
      · rw [hi a i (by omega), fQ a i q3]
    refine ⟨⟨⟨by rw [pp 0 8 (by omega)]; exact p8, ht, by rw [pp 0 9 (by omega)]; exact p9, hts, tts⟩, q10, hcs, q11, hc, ccs.symm⟩, st1, ShP_pt hsp (fun i => pp 28 i (by omega)), ?_, iTr_fr v4 (fun a i q => me a i (by unfold XTw; omega) (by omega) (by unfold PMr; omega)), iGr_fr gr (fun a i q => me a i (by unfold XTw; omega) (by omega) (by unfold PMr; omega)), iPr_fr v6 (fun a i q => me a i (by unfold XTw; omega) (by omega) (by unfold PMr; omega)), iGp_fr v7 (fun a i q => me a i (by unfold XTw; omega) (by omega) (by unfold PMr; omega)), iTp_fr v8 (fun a i q => me a i (by unfold XTw; omega) (by omega) (by unfold PMr; omega)), ?_, iTx_fr tx (fun a i q => me a i (by unfold XTw; omega) (by omega) (by unfold PMr; omega)), ⟨SBc_fr s1 (fun i => lo _ _ (by omega)), SBc_fr co.1 (fun i => me _ _ (by unfold XTw; omega) (by omega) (by unfold PMr; omega)), ?_⟩, iPl_fr vc (fun a i q => me a i (by unfold XTw; omega) (by omega) (by unfold PMr; omega)), ?_, iRo_fr ve (fun a i q => me a i (by unfold XTw; omega) (by omega) (by unfold PMr; omega)), iSc_fr vf (fun a i q => me a i (by unfold XTw; omega) (by omega) (by unfold PMr; omega))⟩
    · rw [lo 0 12 (by decide), hi 78 0 (by decide), a12, b0]
    · unfold iFE
      rw [hi 78 53 (by decide), hi 78 54 (by decide), lo 0 15 (by decide), lo 0 16 (by decide), a15, a16, b53, b54, me 78 20 (by unfold XTw; omega) (by omega) (by unfold PMr; omega), me 78 21 (by unfold XTw; omega) (by omega) (by unfold PMr; omega), me 0 13 (by unfold XTw; omega) (by omega) (by unfold PMr; omega), me 0 14 (by unfold XTw; omega) (by omega) (by unfold PMr; omega), me 78 10 (by unfold XTw; omega) (by omega) (by unfold PMr; omega), me 2 9 (by unfold XTw; omega) (by omega) (by unfold PMr; omega)]
      exact ⟨fe.1, fe.2.1, rfl, rfl, fe.2.2.2.2⟩
    · have cl : ∀ i, m cs i = h1 cs i := fun i => lo _ _ (by omega)
      have cl1 : ∀ i, m (cs + 1) i = h1 (cs + 1) i := fun i => lo _ _ (by omega)
      have qh : ∀ a i, 106 ≤ a → m a i = Q a i := fun a i q => hi a i (by omega)
      rw [cl, cl, cl, cl, hi 78 50 (by decide), hi 78 51 (by decide), hi 78 52 (by decide), a3, a4, a5, a6, b50, b51, b52, gr.1.1]
      refine Or.inr ⟨rfl, rfl, rfl, rfl, ⟨mx, by omega⟩, fun t' m' a b a2 b2 => ?_⟩
      have w := ag m' t' a2 b2 a b
      have y := bc (20 * t' + m') (by omega) (by omega)
      rw [cl1, qh 106 _ (by decide), qh 107 _ (by decide), qh 108 _ (by decide), y.1, y.2.1, y.2.2]
      exact ⟨w.1, w.2.1, w.2.2.1, w.2.2.2⟩
    · have w := iPa_fr vd (g := m) (fun a i q => me a i (by unfold XTw; omega) (by omega) (by unfold PMr; omega))
      exact ⟨w.1, fun y => ⟨Sw_pt (w.2 y).1 (fun i => pp 28 i (by omega)), (w.2 y).2⟩⟩
end
