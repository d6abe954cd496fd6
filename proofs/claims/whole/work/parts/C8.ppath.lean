/-! pair: path; run -/
section
variable {X : qX} {d : Nat} {sh : qS} {pt h g : qM} {t ts c cs : Int}
theorem InvA_pa {sh1 : qS} {pt1 : qM} (v : InvA t ts c cs sh pt h) (hst : St sh1 pt1) (hsp : ShP sh1 pt1) (pp : ∀ i, pt1 0 i = pt 0 i) (f : ∀ a i, ¬ Pjk c cs a i → ¬ ((a = 28 ∧ i = 0) ∨ a = 123 ∨ a = 138 ∨ (a = 78 ∧ i = 84)) → a < 136 → g a i = h a i) (s : g 0 12 = g 78 0) (n : iPa sh1 pt1 g) : InvA t ts c cs sh1 pt1 g := by
  obtain ⟨v0, v1, v2, v3, v4, v5, v6, v7, v8, v9, va, vb, vc, vd, ve, vf⟩ := v
  have ht := v0.1.2.1
  have hc := v0.2.2.1
  have hcs := v0.2.2.2.2.1
  have cc := v0.2.2.2.2.2
  have tn : 40 ≤ t ∧ t ≤ 53 := by rcases ht with e | e <;> omega
  have cn : (c = 62 ∧ cs = 66) ∨ (c = 66 ∧ cs = 62) := by rcases hc with e | e <;> rcases hcs with e2 | e2 <;> omega
  refine ⟨?_, hst, hsp, s, iTr_fr v4 (fun a i q => f a i (by unfold Pjk Pst; omega) (by omega) (by omega)), iGr_fr v5 (fun a i q => f a i (by unfold Pjk Pst; omega) (by omega) (by omega)), iPr_fr v6 (fun a i q => f a i (by unfold Pjk Pst; omega) (by omega) (by omega)), iGp_fr v7 (fun a i q => f a i (by unfold Pjk Pst; omega) (by omega) (by omega)), iTp_fr v8 (fun a i q => f a i (by unfold Pjk Pst; omega) (by omega) (by omega)), iFE_fr v9 (fun a i q => f a i (by unfold Pjk Pst; omega) (by omega) (by omega)), iTx_fr va (fun a i q => f a i (by unfold Pjk Pst; omega) (by omega) (by omega)), iCo_fr vb (fun a i q => f a i (by unfold Pjk Pst; omega) (by omega) (by omega)), iPl_fr vc (fun a i q => f a i (by unfold Pjk Pst; omega) (by omega) (by omega)), n, iRo_fr ve (fun a i q => f a i (by unfold Pjk Pst; omega) (by omega) (by omega)), iSc_fr vf (fun a i q => f a i (by unfold Pjk Pst; omega) (by omega) (by omega))⟩
  unfold iP4 at v0 ⊢
  rw [pp, pp, pp, pp]
  exact v0
theorem p_path {m x y f : Int} {mc ms : Nat} (v : Inv sh pt h) (hb : (Sw sh pt ∧ mc = 0 ∧ ms = 0) ∨ (¬ vlP (h 2 3) m x y f ∧ mc = 0 ∧ ms = 0) ∨ (mc = 3 ∧ ms = 57600)) : Run X (d + 21) mc ms mX10_path [(2, 0), (0, m), (0, x), (0, y), (0, f)] (sh, pt, h) (fun r g => ∃ r1 sh1 pt1 h1, r = some (0, r1) ∧ g = (sh1, pt1, h1) ∧ (Sw sh pt → Sw sh1 pt1) ∧ (vlP (h 2 3) m x y f → Sw sh1 pt1) ∧ St sh1 pt1 ∧ RunI X (d + 21) mX11_path [(2, 78), (0, m), (0, x), (0, y), (0, f)] sh1 pt1 h1 (fun r2 h2 => r2 = r1 ∧ Inv sh1 pt1 h2)) := by
  obtain ⟨t, ts, c, cs, v⟩ := v
  have hst := v.2.1
  have hsp := v.2.2.1
  have gr := v.2.2.2.2.2.1
  have gr1 := gr.1
  have pr := v.2.2.2.2.2.2.1
  have pa := v.2.2.2.2.2.2.2.2.2.2.2.2.2.1
  have nf : 0 ≤ m → m < h 2 3 → NT (fun w => ¬ flP (fre (fun e n => h 86 (40 * e + n)) (h 3) (h 4) (h 2 3) m) w) 1200 ≤ 49 := fun m0 m1 => nf_of (P := fun w => h 86 w ≠ 0) gr.1.2.2 m0 m1 (fun e n _ _ _ _ z => z) (by rw [pr.2.2.2]; exact pr.1.2.2)
  have hbb : ∀ k, 0 ≤ k → k < h 2 3 → h 3 k = h 3 k ∧ h 4 k = h 4 k ∧ h 5 k = h 5 k ∧ (0 ≤ h 3 k ∧ h 3 k < 60 ∧ 0 ≤ h 4 k ∧ h 4 k < 40 ∧ 0 ≤ h 5 k ∧ h 5 k < 8) := fun k a b => by
    have w := gr.2 k a b
    exact ⟨rfl, rfl, rfl, w.2.2.2.1.1, w.2.2.2.1.2, w.2.2.2.2.1.1, w.2.2.2.2.1.2, w.2.2.2.2.2.1, w.2.2.2.2.2.2⟩
  have hmk : vlP (h 2 3) m x y f → Run X (d + 3) mc ms mX9_makeRows [(2, 28)] (sh, pt, h) (QmR sh pt h) := fun z => by
    rcases hb with q | q | q
    · exact x_mk0 (d := d + 2) hst q.1
    · exact absurd z q.1
    · rw [q.1, q.2]
      exact x_mk3 (d := d + 2) hst hsp
  have xp := x_pathG (X := X) (d := d) (mc := mc) (ms := ms) (sh := sh) (pt := pt) (h := h) (Q := fun r g => ∃ r1 sh1 pt1 h1, r = some (0, r1) ∧ g = (sh1, pt1, h1) ∧ (Sw sh pt → Sw sh1 pt1) ∧ (vlP (h 2 3) m x y f → Sw sh1 pt1) ∧ St sh1 pt1 ∧ RunI X (d + 21) mX11_path [(2, 78), (0, m), (0, x), (0, y), (0, f)] sh1 pt1 h1 (fun r2 h2 => r2 = r1 ∧ Inv sh1 pt1 h2)) (p := fun e n => h 86 (40 * e + n)) (bE := h 3) (bN := h 4) (bF := h 5) (M := h 2 3) (m := m) (x := x) (y := y) (f := f) (b0 := 8 * (40 * h 3 m + h 4 m) + h 5 m) hst hsp rfl gr.1.2.1 gr.1.2.2 hbb pr.2.1 pr.2.2.1 nf rfl hmk (fun r s e sh1 pt1 h1 st1 sp1 sw1 vl1 pp1 hh1 hs1 k0 k1 => ?_)
  · rw [Nat.zero_add, Nat.zero_add, Nat.zero_add, Nat.zero_add] at xp
    exact Ev.deep (by omega) xp
  · refine ⟨r, sh1, pt1, h1, rfl, rfl, sw1, vl1, st1, ?_⟩
    have he : ∀ a i, a < 136 → 30 ≤ a → h1 a i = h a i := fun a i p q => hh1 a i p (by omega)
    refine RunI.deep (d1 := d + 3) (by omega) (m_path (p := fun e n => h 86 (40 * e + n)) (bE := h 3) (bN := h 4) (bF := h 5) (M := h 2 3) (m := m) (b0 := 8 * (40 * h 3 m + h 4 m) + h 5 m) st1 ?_ gr.1.2.1 gr.1.2.2 (fun k a b => ?_) (fun e n _ _ _ _ => he _ _ (by decide) (by decide)) nf rfl (fun r2 s2 e2 h2 f2 z0 z1 => ?_))
    · rw [he 78 7 (by decide) (by decide)]; exact gr.1.1
    · have w := gr.2 k a b
      rw [he 82 k (by decide) (by decide), he 83 k (by decide) (by decide), he 84 k (by decide) (by decide)]
      exact ⟨w.1, w.2.1, w.2.2.1, (hbb k a b).2.2.2⟩
    · obtain ⟨er, es⟩ := pr_in e e2
      rw [es] at f2 z0 z1
      rw [er] at z0
      have h2e : ∀ a i, ¬ PMP a i → ¬ (a = 78 ∧ i ≤ 1) → h2 a i = h1 a i := fun a i p q => by rw [f2 a i p, ms_Fr a i q]
      refine ⟨er, t, ts, c, cs, InvA_pa v st1 sp1 (fun i => pp1 0 i (by decide) (by omega)) (fun a i q q2 q3 => ?_) ?_ ?_⟩
      · have n1 := nPst_x q
        have n2 := nPst_r q
        have n3 : ¬ (120 ≤ a ∧ a ≤ 122) := fun z => q (pj_19 z)
        have n4 : ¬ (a = 28 ∧ i ≠ 0) := fun z => q (pj_5 z)
        have n5 : ¬ a = 29 := fun z => q (pj_6 z)
        rw [h2e a i (by unfold PMP; omega) n2, hh1 a i q3 (by omega)]
      · rw [f2 0 12 (by unfold PMP; omega), f2 78 0 (by unfold PMP; omega), ms_of (by decide), hs1, ms_at.1]
      · have e28 : h2 28 0 = h1 28 0 := h2e _ _ (by unfold PMP; omega) (by omega)
        have e138 : ∀ j, h2 138 j = h1 138 j := fun j => h2e _ _ (by unfold PMP; omega) (by omega)
        unfold iPa
        rw [e28]
        by_cases sz : s = 0
        · have a0 := k0 sz
          have b0 := z0 sz
          rw [sz] at e
          have vp : vlP (h 2 3) m x y f ∧ 0 ≤ (pth (fre (fun e n => h 86 (40 * e + n)) (h 3) (h 4) (h 2 3) m) (8 * (40 * h 3 m + h 4 m) + h 5 m) x y f).1 ∧ r = (pth (fre (fun e n => h 86 (40 * e + n)) (h 3) (h 4) (h 2 3) m) (8 * (40 * h 3 m + h 4 m) + h 5 m) x y f).2.2.2.2.2 (pth (fre (fun e n => h 86 (40 * e + n)) (h 3) (h 4) (h 2 3) m) (8 * (40 * h 3 m + h 4 m) + h 5 m) x y f).1 := by
            unfold pathF at e
            by_cases w1 : ¬ (0 ≤ m ∧ m < h 2 3)
            · rw [if_pos w1] at e; exact absurd (Prod.mk.inj e).2 (by decide)
            rw [if_neg w1] at e
            by_cases w2 : ¬ ((0 ≤ x ∧ x < 60 ∧ 0 ≤ y ∧ y < 40) ∧ (f = -1 ∨ (0 ≤ f ∧ f < 8)))
            · rw [if_pos w2] at e; exact absurd (Prod.mk.inj e).2 (by decide)
            rw [if_neg w2] at e
            by_cases w3 : (pth (fre (fun e n => h 86 (40 * e + n)) (h 3) (h 4) (h 2 3) m) (8 * (40 * h 3 m + h 4 m) + h 5 m) x y f).1 < 0
            · rw [if_pos w3] at e; exact absurd (Prod.mk.inj e).2 (by decide)
            rw [if_neg w3] at e
            exact ⟨⟨by omega, by omega⟩, by omega, (Prod.mk.inj e).1⟩
          have hm := hbb m vp.1.1.1 vp.1.1.2
          have fs : frs (fre (fun e n => h 86 (40 * e + n)) (h 3) (h 4) (h 2 3) m) (8 * (40 * h 3 m + h 4 m) + h 5 m) := by
            unfold frs
            rw [show (8 * (40 * h 3 m + h 4 m) + h 5 m) / 8 / 40 = h 3 m by omega, show (8 * (40 * h 3 m + h 4 m) + h 5 m) / 8 % 40 = h 4 m by omega]
            exact ⟨by omega, Or.inl ⟨rfl, rfl⟩⟩
          have po := pth_ok (x := x) (y := y) (f := f) fre_g (nf vp.1.1.1 vp.1.1.2) (by omega) (by omega) fs vp.2.1
          rw [← vp.2.2] at po
          rw [a0.2.1, b0.1]
          refine ⟨⟨rfl, by omega, po.1.2⟩, fun _ => ⟨a0.1, fun j p0 p1 => ?_⟩⟩
          rw [e138, a0.2.2 j p0 p1, b0.2 j p0 p1]
          exact ⟨rfl, po.2 j p0 p1⟩
        · have a0 := k1 sz
          have b0 := z1 sz
          rw [a0.1, b0.1, he 78 84 (by decide) (by decide)]
          refine ⟨pa.1, fun w => ?_⟩
          have pw := pa.2 w
          refine ⟨sw1 pw.1, fun j p0 p1 => ?_⟩
          rw [e138, a0.2 pw.1 j, b0.2 j, he 123 j (by decide) (by decide)]
          exact pw.2 j p0 p1
end
