/-! a call that changes one part of it -/
def Qtr (a i : Int) : Prop := (70 ≤ a ∧ a ≤ 77) ∨ (79 ≤ a ∧ a ≤ 81)
def Qgr (a i : Int) : Prop := (a = 2 ∧ i = 3) ∨ (3 ≤ a ∧ a ≤ 5) ∨ (82 ≤ a ∧ a ≤ 84) ∨ (a = 78 ∧ i = 7)
def Qpr (a i : Int) : Prop := (a = 2 ∧ i = 5) ∨ a = 6 ∨ a = 86 ∨ (a = 78 ∧ i = 8)
def Qgp (a i : Int) : Prop := (a = 2 ∧ i = 8) ∨ a = 7 ∨ a = 8 ∨ a = 85 ∨ a = 87 ∨ (a = 78 ∧ i = 9)
def Qtp (a i : Int) : Prop := (a = 9 ∧ i = 1) ∨ a = 10 ∨ a = 88 ∨ (a = 78 ∧ i = 18)
def Qfe (a i : Int) : Prop := (a = 0 ∧ 13 ≤ i ∧ i ≤ 16) ∨ (a = 2 ∧ i = 9) ∨ (a = 78 ∧ (i = 10 ∨ i = 20 ∨ i = 21 ∨ i = 53 ∨ i = 54))
def Qpl (a i : Int) : Prop := a = 19 ∨ a = 20 ∨ a = 119 ∨ (a = 78 ∧ 76 ≤ i ∧ i ≤ 77)
def Qro (a i : Int) : Prop := (a = 30 ∧ i ≤ 2) ∨ (32 ≤ a ∧ a ≤ 36) ∨ (124 ≤ a ∧ a ≤ 128) ∨ (a = 78 ∧ 85 ≤ i ∧ i ≤ 87)
def Qsc (a i : Int) : Prop := (a = 41 ∧ 1 ≤ i ∧ i ≤ 2) ∨ a = 42 ∨ a = 43 ∨ a = 134 ∨ a = 135 ∨ (a = 78 ∧ 2 ≤ i ∧ i ≤ 3)
section
variable {h g : qM} {t ts c cs : Int} {sh : qS} {pt : qM}
theorem InvA_tr (v : InvA t ts c cs sh pt h) (f : ∀ a i, ¬ Pjk c cs a i → ¬ Qtr a i → g a i = h a i) (s : g 0 12 = g 78 0) (n : iTr g) : InvA t ts c cs sh pt g := by
  obtain ⟨v0, v1, v2, v3, v4, v5, v6, v7, v8, v9, va, vb, vc, vd, ve, vf⟩ := v
  have ht := v0.1.2.1
  have hc := v0.2.2.1
  have hcs := v0.2.2.2.2.1
  have cc := v0.2.2.2.2.2
  have tn : 40 ≤ t ∧ t ≤ 53 := by rcases ht with e | e <;> omega
  have cn : (c = 62 ∧ cs = 66) ∨ (c = 66 ∧ cs = 62) := by rcases hc with e | e <;> rcases hcs with e2 | e2 <;> omega
  exact ⟨v0, v1, v2, s, n, iGr_fr v5 (fun a i q => f a i (by unfold Pjk Pst; omega) (by unfold Qtr; omega)), iPr_fr v6 (fun a i q => f a i (by unfold Pjk Pst; omega) (by unfold Qtr; omega)), iGp_fr v7 (fun a i q => f a i (by unfold Pjk Pst; omega) (by unfold Qtr; omega)), iTp_fr v8 (fun a i q => f a i (by unfold Pjk Pst; omega) (by unfold Qtr; omega)), iFE_fr v9 (fun a i q => f a i (by unfold Pjk Pst; omega) (by unfold Qtr; omega)), iTx_fr va (fun a i q => f a i (by unfold Pjk Pst; omega) (by unfold Qtr; omega)), iCo_fr vb (fun a i q => f a i (by unfold Pjk Pst; omega) (by unfold Qtr; omega)), iPl_fr vc (fun a i q => f a i (by unfold Pjk Pst; omega) (by unfold Qtr; omega)), iPa_fr vd (fun a i q => f a i (by unfold Pjk Pst; omega) (by unfold Qtr; omega)), iRo_fr ve (fun a i q => f a i (by unfold Pjk Pst; omega) (by unfold Qtr; omega)), iSc_fr vf (fun a i q => f a i (by unfold Pjk Pst; omega) (by unfold Qtr; omega))⟩
theorem InvA_gr (v : InvA t ts c cs sh pt h) (f : ∀ a i, ¬ Pjk c cs a i → ¬ Qgr a i → g a i = h a i) (s : g 0 12 = g 78 0) (n : iGr g) : InvA t ts c cs sh pt g := by
  obtain ⟨v0, v1, v2, v3, v4, v5, v6, v7, v8, v9, va, vb, vc, vd, ve, vf⟩ := v
  have ht := v0.1.2.1
  have hc := v0.2.2.1
  have hcs := v0.2.2.2.2.1
  have cc := v0.2.2.2.2.2
  have tn : 40 ≤ t ∧ t ≤ 53 := by rcases ht with e | e <;> omega
  have cn : (c = 62 ∧ cs = 66) ∨ (c = 66 ∧ cs = 62) := by rcases hc with e | e <;> rcases hcs with e2 | e2 <;> omega
  exact ⟨v0, v1, v2, s, iTr_fr v4 (fun a i q => f a i (by unfold Pjk Pst; omega) (by unfold Qgr; omega)), n, iPr_fr v6 (fun a i q => f a i (by unfold Pjk Pst; omega) (by unfold Qgr; omega)), iGp_fr v7 (fun a i q => f a i (by unfold Pjk Pst; omega) (by unfold Qgr; omega)), iTp_fr v8 (fun a i q => f a i (by unfold Pjk Pst; omega) (by unfold Qgr; omega)), iFE_fr v9 (fun a i q => f a i (by unfold Pjk Pst; omega) (by unfold Qgr; omega)), iTx_fr va (fun a i q => f a i (by unfold Pjk Pst; omega) (by unfold Qgr; omega)), iCo_fr vb (fun a i q => f a i (by unfold Pjk Pst; omega) (by unfold Qgr; omega)), iPl_fr vc (fun a i q => f a i (by unfold Pjk Pst; omega) (by unfold Qgr; omega)), iPa_fr vd (fun a i q => f a i (by unfold Pjk Pst; omega) (by unfold Qgr; omega)), iRo_fr ve (fun a i q => f a i (by unfold Pjk Pst; omega) (by unfold Qgr; omega)), iSc_fr vf (fun a i q => f a i (by unfold Pjk Pst; omega) (by unfold Qgr; omega))⟩
theorem InvA_pr (v : InvA t ts c cs sh pt h) (f : ∀ a i, ¬ Pjk c cs a i → ¬ Qpr a i → g a i = h a i) (s : g 0 12 = g 78 0) (n : iPr g) : InvA t ts c cs sh pt g := by
  obtain ⟨v0, v1, v2, v3, v4, v5, v6, v7, v8, v9, va, vb, vc, vd, ve, vf⟩ := v
  have ht := v0.1.2.1
  have hc := v0.2.2.1
  have hcs := v0.2.2.2.2.1
  have cc := v0.2.2.2.2.2
  have tn : 40 ≤ t ∧ t ≤ 53 := by rcases ht with e | e <;> omega
  have cn : (c = 62 ∧ cs = 66) ∨ (c = 66 ∧ cs = 62) := by rcases hc with e | e <;> rcases hcs with e2 | e2 <;> omega
  exact ⟨v0, v1, v2, s, iTr_fr v4 (fun a i q => f a i (by unfold Pjk Pst; omega) (by unfold Qpr; omega)), iGr_fr v5 (fun a i q => f a i (by unfold Pjk Pst; omega) (by unfold Qpr; omega)), n, iGp_fr v7 (fun a i q => f a i (by unfold Pjk Pst; omega) (by unfold Qpr; omega)), iTp_fr v8 (fun a i q => f a i (by unfold Pjk Pst; omega) (by unfold Qpr; omega)), iFE_fr v9 (fun a i q => f a i (by unfold Pjk Pst; omega) (by unfold Qpr; omega)), iTx_fr va (fun a i q => f a i (by unfold Pjk Pst; omega) (by unfold Qpr; omega)), iCo_fr vb (fun a i q => f a i (by unfold Pjk Pst; omega) (by unfold Qpr; omega)), iPl_fr vc (fun a i q => f a i (by unfold Pjk Pst; omega) (by unfold Qpr; omega)), iPa_fr vd (fun a i q => f a i (by unfold Pjk Pst; omega) (by unfold Qpr; omega)), iRo_fr ve (fun a i q => f a i (by unfold Pjk Pst; omega) (by unfold Qpr; omega)), iSc_fr vf (fun a i q => f a i (by unfold Pjk Pst; omega) (by unfold Qpr; omega))⟩
theorem InvA_gp (v : InvA t ts c cs sh pt h) (f : ∀ a i, ¬ Pjk c cs a i → ¬ Qgp a i → g a i = h a i) (s : g 0 12 = g 78 0) (n : iGp g) : InvA t ts c cs sh pt g := by
  obtain ⟨v0, v1, v2, v3, v4, v5, v6, v7, v8, v9, va, vb, vc, vd, ve, vf⟩ := v
  have ht := v0.1.2.1
  have hc := v0.2.2.1
  have hcs := v0.2.2.2.2.1
  have cc := v0.2.2.2.2.2
  have tn : 40 ≤ t ∧ t ≤ 53 := by rcases ht with e | e <;> omega
  have cn : (c = 62 ∧ cs = 66) ∨ (c = 66 ∧ cs = 62) := by rcases hc with e | e <;> rcases hcs with e2 | e2 <;> omega
  exact ⟨v0, v1, v2, s, iTr_fr v4 (fun a i q => f a i (by unfold Pjk Pst; omega) (by unfold Qgp; omega)), iGr_fr v5 (fun a i q => f a i (by unfold Pjk Pst; omega) (by unfold Qgp; omega)), iPr_fr v6 (fun a i q => f a i (by unfold Pjk Pst; omega) (by unfold Qgp; omega)), n, iTp_fr v8 (fun a i q => f a i (by unfold Pjk Pst; omega) (by unfold Qgp; omega)), iFE_fr v9 (fun a i q => f a i (by unfold Pjk Pst; omega) (by unfold Qgp; omega)), iTx_fr va (fun a i q => f a i (by unfold Pjk Pst; omega) (by unfold Qgp; omega)), iCo_fr vb (fun a i q => f a i (by unfold Pjk Pst; omega) (by unfold Qgp; omega)), iPl_fr vc (fun a i q => f a i (by unfold Pjk Pst; omega) (by unfold Qgp; omega)), iPa_fr vd (fun a i q => f a i (by unfold Pjk Pst; omega) (by unfold Qgp; omega)), iRo_fr ve (fun a i q => f a i (by unfold Pjk Pst; omega) (by unfold Qgp; omega)), iSc_fr vf (fun a i q => f a i (by unfold Pjk Pst; omega) (by unfold Qgp; omega))⟩
theorem InvA_tp (v : InvA t ts c cs sh pt h) (f : ∀ a i, ¬ Pjk c cs a i → ¬ Qtp a i → g a i = h a i) (s : g 0 12 = g 78 0) (n : iTp g) : InvA t ts c cs sh pt g := by
  obtain ⟨v0, v1, v2, v3, v4, v5, v6, v7, v8, v9, va, vb, vc, vd, ve, vf⟩ := v
  have ht := v0.1.2.1
  have hc := v0.2.2.1
  have hcs := v0.2.2.2.2.1
  have cc := v0.2.2.2.2.2
  have tn : 40 ≤ t ∧ t ≤ 53 := by rcases ht with e | e <;> omega
  have cn : (c = 62 ∧ cs = 66) ∨ (c = 66 ∧ cs = 62) := by rcases hc with e | e <;> rcases hcs with e2 | e2 <;> omega
  exact ⟨v0, v1, v2, s, iTr_fr v4 (fun a i q => f a i (by unfold Pjk Pst; omega) (by unfold Qtp; omega)), iGr_fr v5 (fun a i q => f a i (by unfold Pjk Pst; omega) (by unfold Qtp; omega)), iPr_fr v6 (fun a i q => f a i (by unfold Pjk Pst; omega) (by unfold Qtp; omega)), iGp_fr v7 (fun a i q => f a i (by unfold Pjk Pst; omega) (by unfold Qtp; omega)), n, iFE_fr v9 (fun a i q => f a i (by unfold Pjk Pst; omega) (by unfold Qtp; omega)), iTx_fr va (fun a i q => f a i (by unfold Pjk Pst; omega) (by unfold Qtp; omega)), iCo_fr vb (fun a i q => f a i (by unfold Pjk Pst; omega) (by unfold Qtp; omega)), iPl_fr vc (fun a i q => f a i (by unfold Pjk Pst; omega) (by unfold Qtp; omega)), iPa_fr vd (fun a i q => f a i (by unfold Pjk Pst; omega) (by unfold Qtp; omega)), iRo_fr ve (fun a i q => f a i (by unfold Pjk Pst; omega) (by unfold Qtp; omega)), iSc_fr vf (fun a i q => f a i (by unfold Pjk Pst; omega) (by unfold Qtp; omega))⟩
theorem InvA_fe (v : InvA t ts c cs sh pt h) (f : ∀ a i, ¬ Pjk c cs a i → ¬ Qfe a i → g a i = h a i) (s : g 0 12 = g 78 0) (n : iFE g) : InvA t ts c cs sh pt g := by
  obtain ⟨v0, v1, v2, v3, v4, v5, v6, v7, v8, v9, va, vb, vc, vd, ve, vf⟩ := v
  have ht := v0.1.2.1
  have hc := v0.2.2.1
  have hcs := v0.2.2.2.2.1
  have cc := v0.2.2.2.2.2
  have tn : 40 ≤ t ∧ t ≤ 53 := by rcases ht with e | e <;> omega
  have cn : (c = 62 ∧ cs = 66) ∨ (c = 66 ∧ cs = 62) := by rcases hc with e | e <;> rcases hcs with e2 | e2 <;> omega
  exact ⟨v0, v1, v2, s, iTr_fr v4 (fun a i q => f a i (by unfold Pjk Pst; omega) (by unfold Qfe; omega)), iGr_fr v5 (fun a i q => f a i (by unfold Pjk Pst; omega) (by unfold Qfe; omega)), iPr_fr v6 (fun a i q => f a i (by unfold Pjk Pst; omega) (by unfold Qfe; omega)), iGp_fr v7 (fun a i q => f a i (by unfold Pjk Pst; omega) (by unfold Qfe; omega)), iTp_fr v8 (fun a i q => f a i (by unfold Pjk Pst; omega) (by unfold Qfe; omega)), n, iTx_fr va (fun a i q => f a i (by unfold Pjk Pst; omega) (by unfold Qfe; omega)), iCo_fr vb (fun a i q => f a i (by unfold Pjk Pst; omega) (by unfold Qfe; omega)), iPl_fr vc (fun a i q => f a i (by unfold Pjk Pst; omega) (by unfold Qfe; omega)), iPa_fr vd (fun a i q => f a i (by unfold Pjk Pst; omega) (by unfold Qfe; omega)), iRo_fr ve (fun a i q => f a i (by unfold Pjk Pst; omega) (by unfold Qfe; omega)), iSc_fr vf (fun a i q => f a i (by unfold Pjk Pst; omega) (by unfold Qfe; omega))⟩
theorem InvA_pl (v : InvA t ts c cs sh pt h) (f : ∀ a i, ¬ Pjk c cs a i → ¬ Qpl a i → g a i = h a i) (s : g 0 12 = g 78 0) (n : iPl g) : InvA t ts c cs sh pt g := by
  obtain ⟨v0, v1, v2, v3, v4, v5, v6, v7, v8, v9, va, vb, vc, vd, ve, vf⟩ := v
  have ht := v0.1.2.1
  have hc := v0.2.2.1
  have hcs := v0.2.2.2.2.1
  have cc := v0.2.2.2.2.2
  have tn : 40 ≤ t ∧ t ≤ 53 := by rcases ht with e | e <;> omega
  have cn : (c = 62 ∧ cs = 66) ∨ (c = 66 ∧ cs = 62) := by rcases hc with e | e <;> rcases hcs with e2 | e2 <;> omega
  exact ⟨v0, v1, v2, s, iTr_fr v4 (fun a i q => f a i (by unfold Pjk Pst; omega) (by unfold Qpl; omega)), iGr_fr v5 (fun a i q => f a i (by unfold Pjk Pst; omega) (by unfold Qpl; omega)), iPr_fr v6 (fun a i q => f a i (by unfold Pjk Pst; omega) (by unfold Qpl; omega)), iGp_fr v7 (fun a i q => f a i (by unfold Pjk Pst; omega) (by unfold Qpl; omega)), iTp_fr v8 (fun a i q => f a i (by unfold Pjk Pst; omega) (by unfold Qpl; omega)), iFE_fr v9 (fun a i q => f a i (by unfold Pjk Pst; omega) (by unfold Qpl; omega)), iTx_fr va (fun a i q => f a i (by unfold Pjk Pst; omega) (by unfold Qpl; omega)), iCo_fr vb (fun a i q => f a i (by unfold Pjk Pst; omega) (by unfold Qpl; omega)), n, iPa_fr vd (fun a i q => f a i (by unfold Pjk Pst; omega) (by unfold Qpl; omega)), iRo_fr ve (fun a i q => f a i (by unfold Pjk Pst; omega) (by unfold Qpl; omega)), iSc_fr vf (fun a i q => f a i (by unfold Pjk Pst; omega) (by unfold Qpl; omega))⟩
theorem InvA_ro (v : InvA t ts c cs sh pt h) (f : ∀ a i, ¬ Pjk c cs a i → ¬ Qro a i → g a i = h a i) (s : g 0 12 = g 78 0) (n : iRo g) : InvA t ts c cs sh pt g := by
  obtain ⟨v0, v1, v2, v3, v4, v5, v6, v7, v8, v9, va, vb, vc, vd, ve, vf⟩ := v
  have ht := v0.1.2.1
  have hc := v0.2.2.1
  have hcs := v0.2.2.2.2.1
  have cc := v0.2.2.2.2.2
  have tn : 40 ≤ t ∧ t ≤ 53 := by rcases ht with e | e <;> omega
  have cn : (c = 62 ∧ cs = 66) ∨ (c = 66 ∧ cs = 62) := by rcases hc with e | e <;> rcases hcs with e2 | e2 <;> omega
  exact ⟨v0, v1, v2, s, iTr_fr v4 (fun a i q => f a i (by unfold Pjk Pst; omega) (by unfold Qro; omega)), iGr_fr v5 (fun a i q => f a i (by unfold Pjk Pst; omega) (by unfold Qro; omega)), iPr_fr v6 (fun a i q => f a i (by unfold Pjk Pst; omega) (by unfold Qro; omega)), iGp_fr v7 (fun a i q => f a i (by unfold Pjk Pst; omega) (by unfold Qro; omega)), iTp_fr v8 (fun a i q => f a i (by unfold Pjk Pst; omega) (by unfold Qro; omega)), iFE_fr v9 (fun a i q => f a i (by unfold Pjk Pst; omega) (by unfold Qro; omega)), iTx_fr va (fun a i q => f a i (by unfold Pjk Pst; omega) (by unfold Qro; omega)), iCo_fr vb (fun a i q => f a i (by unfold Pjk Pst; omega) (by unfold Qro; omega)), iPl_fr vc (fun a i q => f a i (by unfold Pjk Pst; omega) (by unfold Qro; omega)), iPa_fr vd (fun a i q => f a i (by unfold Pjk Pst; omega) (by unfold Qro; omega)), n, iSc_fr vf (fun a i q => f a i (by unfold Pjk Pst; omega) (by unfold Qro; omega))⟩
theorem InvA_sc (v : InvA t ts c cs sh pt h) (f : ∀ a i, ¬ Pjk c cs a i → ¬ Qsc a i → g a i = h a i) (s : g 0 12 = g 78 0) (n : iSc g) : InvA t ts c cs sh pt g := by
  obtain ⟨v0, v1, v2, v3, v4, v5, v6, v7, v8, v9, va, vb, vc, vd, ve, vf⟩ := v
  have ht := v0.1.2.1
  have hc := v0.2.2.1
  have hcs := v0.2.2.2.2.1
  have cc := v0.2.2.2.2.2
  have tn : 40 ≤ t ∧ t ≤ 53 := by rcases ht with e | e <;> omega
  have cn : (c = 62 ∧ cs = 66) ∨ (c = 66 ∧ cs = 62) := by rcases hc with e | e <;> rcases hcs with e2 | e2 <;> omega
  exact ⟨v0, v1, v2, s, iTr_fr v4 (fun a i q => f a i (by unfold Pjk Pst; omega) (by unfold Qsc; omega)), iGr_fr v5 (fun a i q => f a i (by unfold Pjk Pst; omega) (by unfold Qsc; omega)), iPr_fr v6 (fun a i q => f a i (by unfold Pjk Pst; omega) (by unfold Qsc; omega)), iGp_fr v7 (fun a i q => f a i (by unfold Pjk Pst; omega) (by unfold Qsc; omega)), iTp_fr v8 (fun a i q => f a i (by unfold Pjk Pst; omega) (by unfold Qsc; omega)), iFE_fr v9 (fun a i q => f a i (by unfold Pjk Pst; omega) (by unfold Qsc; omega)), iTx_fr va (fun a i q => f a i (by unfold Pjk Pst; omega) (by unfold Qsc; omega)), iCo_fr vb (fun a i q => f a i (by unfold Pjk Pst; omega) (by unfold Qsc; omega)), iPl_fr vc (fun a i q => f a i (by unfold Pjk Pst; omega) (by unfold Qsc; omega)), iPa_fr vd (fun a i q => f a i (by unfold Pjk Pst; omega) (by unfold Qsc; omega)), iRo_fr ve (fun a i q => f a i (by unfold Pjk Pst; omega) (by unfold Qsc; omega)), n⟩
end
