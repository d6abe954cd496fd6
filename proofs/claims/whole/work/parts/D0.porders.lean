/-! pairs: orders -/
theorem ok_tr {S m : qM} {t o : Int} (o0 : 0 ≤ o ∧ o < 60) (ok : okO (S (t + 1) o) (S (t + 3) o) (S (t + 4) o) (S (t + 5) o)) (ro : RO t S (fun x i => if x = 100 then m 94 i else if x = 101 then m 95 i else if x = 102 then m 96 i else if x = 103 then m 97 i else if x = 104 then m 98 i else m x i) o ∧ m 99 o = S (t + 6) o) (e : ∀ a, t + 1 ≤ a → a ≤ t + 8 → m a o = S a o) : TXr t m m o := by
  have r1 : m 94 o = S (t + 1) o := ro.1.1
  have r2 : m 98 o = S (t + 2) o := ro.1.2.1
  have r3 : m 95 o = (if S (t + 1) o = 5 ∨ S (t + 1) o = 10 then S (t + 3) o else S (t + 5) o) := ro.1.2.2.1
  have r4 : S (t + 1) o = 6 → m 96 o = if S (t + 3) o = 0 then -1 else 1 := ro.1.2.2.2.1
  have r5 : S (t + 1) o = 7 ∨ S (t + 1) o = 8 ∨ S (t + 1) o = 9 → m 96 o = S (t + 3) o := ro.1.2.2.2.2.1
  have r6 : S (t + 1) o = 9 → m 97 o = S (t + 4) o := ro.1.2.2.2.2.2
  have r7 := ro.2
  clear ro
  unfold TXr oK oKs
  unfold okO at ok
  rw [e (t + 1) (by omega) (by omega), e (t + 2) (by omega) (by omega), e (t + 3) (by omega) (by omega), e (t + 4) (by omega) (by omega), e (t + 5) (by omega) (by omega), e (t + 6) (by omega) (by omega), r1, r2, r7]
  clear r1 r2 r7 e
  generalize S (t + 1) o = k at *
  generalize S (t + 3) o = a at *
  generalize S (t + 4) o = b at *
  generalize S (t + 5) o = c at *
  generalize m 95 o = x at *
  generalize m 96 o = y at *
  generalize m 97 o = z at *
  obtain ⟨k0, c0, c5, c6, c7, c9, c10⟩ := ok
  by_cases q5 : k = 5
  · subst q5
    rw [if_pos (Or.inl rfl)] at r3
    refine ⟨rfl, rfl, rfl, ⟨o0, by omega⟩, by omega, by omega, by omega, by omega, by omega, by omega⟩
  by_cases q10 : k = 10
  · subst q10
    rw [if_pos (Or.inr rfl)] at r3
    refine ⟨rfl, rfl, rfl, ⟨o0, by omega⟩, by omega, by omega, by omega, by omega, by omega, by omega⟩
  rw [if_neg (by omega)] at r3
  by_cases q6 : k = 6
  · subst q6
    have w := r4 rfl
    rcases (c6 rfl).1 with u | u
    · rw [if_pos u] at w
      refine ⟨rfl, rfl, rfl, ⟨o0, by omega⟩, by omega, by omega, by omega, by omega, by omega, by omega⟩
    · rw [if_neg (by omega)] at w
      refine ⟨rfl, rfl, rfl, ⟨o0, by omega⟩, by omega, by omega, by omega, by omega, by omega, by omega⟩
  refine ⟨rfl, rfl, rfl, ⟨o0, by omega⟩, by omega, by omega, by omega, by omega, by omega, by omega⟩
theorem tx_mk {S m : qM} {t : Int} (w : TX t S m) (e : ∀ a i, (a = t ∧ (i = 9 ∨ i = 10)) ∨ (t + 1 ≤ a ∧ a ≤ t + 8) → m a i = S a i) (ok : ∀ o, 0 ≤ o → o < S t 8 → okO (S (t + 1) o) (S (t + 3) o) (S (t + 4) o) (S (t + 5) o)) (nl : NL t S) (n8 : 0 ≤ S t 8 ∧ S t 8 ≤ 60) (n9 : 0 ≤ S t 9 ∧ S t 9 ≤ 8) : TXq m ∧ TXc t m m := by
  obtain ⟨w30, w0, w7, w8, wo⟩ := w
  have tr : ∀ o, 0 ≤ o → o < S t 8 → TXr t m m o := fun o a b => ok_tr ⟨a, by omega⟩ (ok o a b) (wo o a b) (fun x c d => e x o (by omega))
  have lb : ∀ l, 0 ≤ l → l < S t 9 → m 90 l = lbv (S (t + 7)) l := fun l a b => by
    unfold lbv
    by_cases q : l = 0
    · rw [if_pos q, q, w0]
    · rw [if_neg q]
      have z := w7 (l - 1) (by omega) (by omega)
      rw [show l - 1 + 1 = l by omega] at z
      exact z
  refine ⟨⟨by omega, fun l a b => ?_⟩, ?_⟩
  · rw [w30] at b
    have z := nl l a b
    rw [lb l a b, w7 l a b]
    refine ⟨⟨Nd_cg 3 _ _ (fun o c d => ?_) z.2.2.2, fun o c d => ?_, z.1, by omega⟩, (w8 l a b).1⟩
    · have y := wo o (by omega) (by omega)
      exact ⟨y.1.1, y.2⟩
    · exact (tr o (by omega) (by omega)).2.2.2.1
  · unfold TXc
    rw [w30]
    refine ⟨e t 9 (by omega), w0, fun l a b => ?_⟩
    have z := nl l a b
    have y := w8 l a b
    rw [lb l a b, w7 l a b, e (t + 8) l (by omega), e (t + 7) l (by omega)]
    exact ⟨rfl, z.2.1, y.2.1, fun x c => y.2.2 x c, fun o c d => tr o c (by omega)⟩
section
variable {X : qX} {d rc rs : Nat} {sh : qS} {pt h g : qM} {t ts c cs n : Int}
theorem p_orders (v : Inv sh pt h) : Run X (d + 21) rc rs mX10_orders [(2, 0), (0, n)] (sh, pt, h) (fun r g => ∃ r1 pt1 h1, r = some (0, r1) ∧ g = (sh, pt1, h1) ∧ (∀ i, pt1 28 i = pt 28 i) ∧ St sh pt1 ∧ RunI X (d + 21) mX11_orders [(2, 78), (0, n)] sh pt1 h1 (fun r2 h2 => r2 = r1 ∧ Inv sh pt1 h2)) := by
  obtain ⟨t, ts, c, cs, v⟩ := v
  obtain ⟨v0, hst, hsp, v3, v4, v5, v6, gp, tp, fe, tx, co, vc, vd, ve, vf⟩ := id v
  obtain ⟨⟨p8, ht, p9, hts, tts⟩, p10, hc, p11, hcs, ccs⟩ := v0
  have cn : (c = 62 ∧ cs = 66) ∨ (c = 66 ∧ cs = 62) := by rcases hc with e | e <;> rcases hcs with e2 | e2 <;> omega
  have tn : (t = 44 ∧ ts = 53) ∨ (t = 53 ∧ ts = 44) := by rcases ht with e | e <;> rcases hts with e2 | e2 <;> omega
  have ng : 0 ≤ h 2 8 ∧ h 2 8 ≤ 8 := gp.1.2
  have n2 : h 9 1 ≤ 500 := tp.1.2.2
  have hB : ∀ i, 0 ≤ i → i < n → n ≤ h 9 1 → h 88 i % 256 = h 10 i ∧ 0 ≤ h 10 i ∧ h 10 i ≤ 255 := fun i a b q => by
    have w := tp.2 i a (by omega)
    exact ⟨w.symm, by omega, by omega⟩
  -- the class's state S and then its heap: what is left of h
  have keep : ∀ (S h1 : qM), Fr (PXs ts) (rd0 ts n h) S → Fr (fun a i => jk a i ∨ (a = 9 ∧ i = 1) ∨ (a = 0 ∧ (i = 12 ∨ i = 13 ∨ i = 14))) S h1 → ∀ a i, ¬ (a = 9 ∨ a = 11 ∨ (ts ≤ a ∧ a ≤ ts + 8) ∨ (a = 0 ∧ 12 ≤ i ∧ i ≤ 14)) → h1 a i = h a i := by
    intro S h1 f1 f2 a i q
    rw [f2 a i (by unfold jk; omega), f1 a i (by unfold PXs PXt PXk; omega)]
    unfold rd0
    rw [qup_of (by omega), qup_of (by omega), qup_of (by omega), qup_of (by omega), qup_of (by omega), qup_of (by omega), qup_of (by omega), qup_of (by omega), qup_of (by omega), qup_of (by omega), qup_of (by omega), qup_of (by omega)]
  -- the reference over that heap
  have mref : ∀ (K : Int → qM → Prop) (pt1 h1 S : qM), St sh pt1 → 0 ≤ n → n ≤ h 9 1 → (∀ a i, ¬ (a = 9 ∨ a = 11 ∨ (ts ≤ a ∧ a ≤ ts + 8) ∨ (a = 0 ∧ 12 ≤ i ∧ i ≤ 14)) → h1 a i = h a i) → (∀ h2 S, Rch (h 10) n ts (rd0 ts n h) S → 0 < S 9 2 → h2 78 20 = S 9 2 → h2 78 21 = S 9 3 → h2 78 18 = 0 → h2 78 0 = 10 → h2 78 1 = 0 → Fr POg h1 h2 → K (-1) h2) → (∀ h2 S, Rch (h 10) n ts (rd0 ts n h) S → S 9 2 = 0 → S ts 10 = 1 → IV n ts S → h2 78 20 = 0 → h2 78 21 = -1 → h2 78 18 = 0 → h2 78 0 = 0 → h2 78 1 = 0 → TX ts S h2 → Fr POs h1 h2 → K (S ts 8) h2) → RunI X (d + 21) mX11_orders [(2, 78), (0, n)] sh pt1 h1 K := by
    intro K pt1 h1 S st1 n0 n1 ke kf ks
    have e18 : h1 78 18 = h 9 1 := by rw [ke 78 18 (by omega)]; exact tp.1.1
    have r0 : ∀ a i, ¬ (a = 9 ∨ (ts ≤ a ∧ a ≤ ts + 8)) → rd0 ts n h a i = h a i := fun a i q => by
      unfold rd0
      rw [qup_of (by omega), qup_of (by omega), qup_of (by omega), qup_of (by omega), qup_of (by omega), qup_of (by omega), qup_of (by omega), qup_of (by omega), qup_of (by omega), qup_of (by omega), qup_of (by omega), qup_of (by omega)]
    refine RunI.deep (d1 := d + 11) (by omega) (m_orders (B := h 10) (S0 := rd0 ts n h) (t := ts) st1 hts (rd0_at hts) (rd0_iv hts n0 ng) ?_ n0 (by omega) (by omega) (fun i a b => ?_) kf ks)
    · unfold GR
      rw [ke 78 9 (by omega), r0 2 8 (by omega)]
      refine ⟨gp.1.1, ng, fun i a b => ?_⟩
      rw [ke 87 i (by omega), ke 85 i (by omega), r0 7 i (by omega), r0 8 i (by omega)]
      exact gp.2 i a b
    · rw [ke 88 i (by omega)]
      exact hB i a b n1
  refine Ev.deep (by omega) (x_orders (d := d) (B := h 10) (t := t) (ts := ts) hst p8 ht p9 hts n2 (fun i a b q => ⟨rfl, (hB i a b q).2⟩) ng (fun q => ?_) (fun n0 n1 S h1 r e2 f1 f2 a1 a12 a13 a14 => ?_) (fun n0 n1 S h1 pt1 r e2 e10 iv f1 f2 a1 a12 a13 a14 st1 q8 q9 pp => ?_))
  · -- no such length
    refine ⟨-1, pt, _, rfl, rfl, fun _ => rfl, hst, ?_⟩
    have fin : ∀ h1, h1 = qup h 0 12 5 → RunI X (d + 20) mX11_refuse [(2, 78), (0, 5)] sh pt (qup (qup h1 78 1 0) 78 0 0) (fun r2 h2 => r2 = -1 ∧ Inv sh pt h2) := fun h1 e1 => by
      refine b_X11_refuse hst (fun h2 e2 => ⟨rfl, ?_⟩)
      refine Inv_s v (fun a i q => ?_) ?_
      · have n1 := nPst_x q
        have n2 := nPst_r q
        rw [e2, qup_of (by omega), qup_of (by omega), qup_of (by omega), e1, qup_of (by omega)]
      · rw [e2, qup_of (by omega), qup_of (by omega), qup_of (by omega), e1, qup_at, qup_at]
    refine b_X11_orders hst (fun h1 e1 h2 e2 => ⟨fun c => ?_, fun c0 => ⟨fun c => ?_, fun c => ?_⟩⟩)
    · rw [e2, e1]; exact fin _ rfl
    · rw [e2, qup_of (by omega), e1, qup_of (by omega), qup_of (by omega)] at c
      rw [tp.1.1] at c
      exact absurd ⟨c0, c⟩ q
    · rw [e2, e1]; exact fin _ rfl
  · -- at fault
    have ke := keep S h1 f1 f2
    refine ⟨-1, pt, h1, rfl, rfl, fun _ => rfl, hst, mref _ pt h1 S hst n0 n1 ke (fun h2 S' r' b2 b20 b21 b18 b0 b1 fg => ?_) (fun h2 S' r' b2 b10 => ?_)⟩
    · have es : S' = S := Rch_uq r' r (Or.inl (by omega)) (Or.inl e2)
      subst es
      refine ⟨rfl, t, ts, c, cs, ?_⟩
      have me : ∀ a i, ¬ (a = 9 ∨ a = 11 ∨ (ts ≤ a ∧ a ≤ ts + 8) ∨ (a = 0 ∧ 12 ≤ i ∧ i ≤ 14)) → ¬ POg a i → h2 a i = h a i := fun a i x y => by rw [fg a i y, ke a i x]
      have mx : ∀ a i, a < 78 → h2 a i = h1 a i := fun a i x => fg a i (by unfold POg; omega)
      refine ⟨⟨⟨p8, ht, p9, hts, tts⟩, p10, hc, p11, hcs, ccs⟩, hst, hsp, ?_, iTr_fr v4 (fun a i q => me a i (by omega) (by unfold POg; omega)), iGr_fr v5 (fun a i q => me a i (by omega) (by unfold POg; omega)), iPr_fr v6 (fun a i q => me a i (by omega) (by unfold POg; omega)), iGp_fr gp (fun a i q => me a i (by omega) (by unfold POg; omega)), ?_, ?_, iTx_fr tx (fun a i q => me a i (by omega) (by unfold POg; omega)), iCo_fr co (fun a i q => me a i (by omega) (by unfold POg; omega)), iPl_fr vc (fun a i q => me a i (by omega) (by unfold POg; omega)), iPa_fr vd (fun a i q => me a i (by omega) (by unfold POg; omega)), iRo_fr ve (fun a i q => me a i (by omega) (by unfold POg; omega)), iSc_fr vf (fun a i q => me a i (by omega) (by unfold POg; omega))⟩
      · rw [mx 0 12 (by decide), a12, b0]
      · unfold iTp
        rw [mx 9 1 (by decide), a1, b18]
        exact ⟨by decide, fun i a b => by omega⟩
      · unfold iFE
        rw [b20, b21, mx 0 13 (by decide), mx 0 14 (by decide), a13, a14, me 78 53 (by omega) (by unfold POg; omega), me 78 54 (by omega) (by unfold POg; omega), me 0 15 (by omega) (by unfold POg; omega), me 0 16 (by omega) (by unfold POg; omega), me 78 10 (by omega) (by unfold POg; omega), me 2 9 (by omega) (by unfold POg; omega)]
        exact ⟨rfl, rfl, fe.2.2⟩
    · have es : S' = S := Rch_uq r' r (Or.inr (by omega)) (Or.inl e2)
      rw [es] at b2
      exact absurd b2 e2
  · -- well
    have ke := keep S h1 f1 f2
    refine ⟨S ts 8, pt1, h1, rfl, rfl, fun i => pp 28 i (by omega), st1, mref _ pt1 h1 S st1 n0 n1 ke (fun h2 S' r' b2 => ?_) (fun h2 S' r' b2 b10 iv' b20 b21 b18 b0 b1 tx' fg => ?_)⟩
    · have es : S' = S := Rch_uq r' r (Or.inl (by omega)) (Or.inr e10)
      rw [es] at b2
      omega
    · have es : S' = S := Rch_uq r' r (Or.inr (by omega)) (Or.inr e10)
      subst es
      refine ⟨rfl, ts, t, c, cs, ?_⟩
      have me : ∀ a i, ¬ (a = 9 ∨ a = 11 ∨ (ts ≤ a ∧ a ≤ ts + 8) ∨ (a = 0 ∧ 12 ≤ i ∧ i ≤ 14)) → ¬ POs a i → h2 a i = h a i := fun a i x y => by rw [fg a i y, ke a i x]
      have mx : ∀ a i, a < 78 → h2 a i = h1 a i := fun a i x => fg a i (by unfold POs; omega)
      have ww := Rch_told hts (rd0_at hts).2.1 r e10
      refine ⟨⟨⟨q8, hts, q9, ht, tts.symm⟩, by rw [pp 0 10 (by omega)]; exact p10, hc, by rw [pp 0 11 (by omega)]; exact p11, hcs, ccs⟩, st1, ShP_pt hsp (fun i => pp 28 i (by omega)), ?_, iTr_fr v4 (fun a i q => me a i (by omega) (by unfold POs; omega)), iGr_fr v5 (fun a i q => me a i (by omega) (by unfold POs; omega)), iPr_fr v6 (fun a i q => me a i (by omega) (by unfold POs; omega)), iGp_fr gp (fun a i q => me a i (by omega) (by unfold POs; omega)), ?_, ?_, Or.inr ⟨?_, tx_mk tx' (fun a i q => ?_) (read_ok hts n0 ng r (by omega)) (read_nl hts n0 ng r ww.1) iv.1 iv.2.2.2.2.1⟩, iCo_fr co (fun a i q => me a i (by omega) (by unfold POs; omega)), iPl_fr vc (fun a i q => me a i (by omega) (by unfold POs; omega)), ?_, iRo_fr ve (fun a i q => me a i (by omega) (by unfold POs; omega)), iSc_fr vf (fun a i q => me a i (by omega) (by unfold POs; omega))⟩
      · rw [mx 0 12 (by decide), a12, b0]
      · unfold iTp
        rw [mx 9 1 (by decide), a1, b18]
        exact ⟨by decide, fun i a b => by omega⟩
      · unfold iFE
        rw [b20, b21, mx 0 13 (by decide), mx 0 14 (by decide), a13, a14, me 78 53 (by omega) (by unfold POs; omega), me 78 54 (by omega) (by unfold POs; omega), me 0 15 (by omega) (by unfold POs; omega), me 0 16 (by omega) (by unfold POs; omega), me 78 10 (by omega) (by unfold POs; omega), me 2 9 (by omega) (by unfold POs; omega)]
        exact ⟨rfl, rfl, fe.2.2⟩
      · rw [mx ts 10 (by omega), f2 ts 10 (by unfold jk; omega)]
        exact b10
      · rw [mx a i (by omega), f2 a i (by unfold jk; omega)]
      · have w := iPa_fr vd (g := h2) (fun a i q => me a i (by omega) (by unfold POs; omega))
        exact ⟨w.1, fun y => ⟨Sw_pt (w.2 y).1 (fun i => pp 28 i (by omega)), (w.2 y).2⟩⟩
end
