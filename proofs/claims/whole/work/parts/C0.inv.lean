/-! what holds between the calls: the class and the reference side by side -/
def iTr (h : qM) : Prop := ∀ v, 0 ≤ v → v < 4 → (0 ≤ h (70 + 2 * v) 3 ∧ h (70 + 2 * v) 3 ≤ 40) ∧ (0 ≤ h (70 + 2 * v) 2 ∧ h (70 + 2 * v) 2 ≤ 3) ∧ ((h (70 + 2 * v) 1 = 0 ∧ h 80 v = -1) ∨ (h (70 + 2 * v) 1 = 1 ∧ h 80 v = h (70 + 2 * v) 3 ∧ h 79 v = h (70 + 2 * v) 2 ∧ ∀ j, 0 ≤ j → j < h (70 + 2 * v) 3 → h 81 (40 * v + j) = h (71 + 2 * v) j))
def iGr (h : qM) : Prop := (h 78 7 = h 2 3 ∧ 0 ≤ h 2 3 ∧ h 2 3 ≤ 20) ∧ ∀ m, 0 ≤ m → m < h 2 3 → h 82 m = h 3 m ∧ h 83 m = h 4 m ∧ h 84 m = h 5 m ∧ (0 ≤ h 3 m ∧ h 3 m < 60) ∧ (0 ≤ h 4 m ∧ h 4 m < 40) ∧ (0 ≤ h 5 m ∧ h 5 m < 8)
def iPr (h : qM) : Prop := (h 78 8 = h 2 5 ∧ 0 ≤ h 2 5 ∧ h 2 5 ≤ 30) ∧ (∀ n, 0 ≤ n → n < 40 → 0 ≤ h 6 n ∧ h 6 n ≤ 1152921504606846975) ∧ (∀ e n, 0 ≤ e → e < 60 → 0 ≤ n → n < 40 → (tb (h 6 n) e = true ↔ h 86 (40 * e + n) ≠ 0)) ∧ NT (fun w => h 86 w ≠ 0) 2400 = h 2 5
def iGp (h : qM) : Prop := (h 78 9 = h 2 8 ∧ 0 ≤ h 2 8 ∧ h 2 8 ≤ 8) ∧ ∀ g, 0 ≤ g → g < h 2 8 → h 87 g = h 7 g ∧ h 85 g = h 8 g ∧ 0 < h 7 g ∧ 0 ≤ h 8 g ∧ h 8 g ≤ 1048575
def iTp (h : qM) : Prop := (h 78 18 = h 9 1 ∧ 0 ≤ h 9 1 ∧ h 9 1 ≤ 500) ∧ ∀ i, 0 ≤ i → i < h 9 1 → h 10 i = h 88 i % 256
def iFE (h : qM) : Prop := h 78 20 = h 0 13 ∧ h 78 21 = h 0 14 ∧ h 78 53 = h 0 15 ∧ h 78 54 = h 0 16 ∧ h 78 10 = h 2 9
def TXq (S : qM) : Prop := (0 ≤ S 78 30 ∧ S 78 30 ≤ 8) ∧ ∀ l, 0 ≤ l → l < S 78 30 → RGn S 3 (S 90 l) (S 90 (l + 1)) ∧ (0 ≤ S 89 l ∧ S 89 l ≤ 1048575)
def iTx (t : Int) (h : qM) : Prop := (h t 10 = 0 ∧ h 78 30 = -1) ∨ (h t 10 = 1 ∧ TXq h ∧ TXc t h h)
def iCo (c cs : Int) (h : qM) : Prop := SBc c h ∧ SBc cs h ∧ ((h c 3 = 0 ∧ h 78 50 = -1) ∨ (h c 3 = 1 ∧ h c 4 = h 78 50 ∧ h c 5 = h 78 51 ∧ h c 6 = h 78 52 ∧ ((0 ≤ h 78 51 ∧ h 78 51 ≤ 150) ∧ (0 ≤ h 78 50 ∧ h 78 50 ≤ 20)) ∧ ∀ t m, 0 ≤ t → t ≤ h 78 51 → 0 ≤ m → m < h 78 50 → h (c + 1) (20 * t + m) = 8 * (40 * h 106 (20 * t + m) + h 107 (20 * t + m)) + h 108 (20 * t + m) ∧ (0 ≤ h 106 (20 * t + m) ∧ h 106 (20 * t + m) < 60) ∧ (0 ≤ h 107 (20 * t + m) ∧ h 107 (20 * t + m) < 40) ∧ (0 ≤ h 108 (20 * t + m) ∧ h 108 (20 * t + m) < 8)))
def iPl (h : qM) : Prop := (h 78 76 = h 19 0 ∧ 0 ≤ h 19 0 ∧ h 19 0 ≤ 6) ∧ (0 < h 19 0 → h 78 77 = h 19 2 ∧ ∀ j, 0 ≤ j → j < h 19 0 → h 119 j = h 20 j)
def iPa (sh : qS) (pt h : qM) : Prop := (h 78 84 = h 28 0 ∧ -1 ≤ h 28 0 ∧ h 28 0 ≤ 2400) ∧ (0 < h 28 0 → Sw sh pt ∧ ∀ j, 0 ≤ j → j < h 28 0 → h 123 j = h 138 j ∧ 0 ≤ h 138 j)
def iRo (h : qM) : Prop := (h 78 85 = h 30 0 ∧ 0 ≤ h 30 0 ∧ h 30 0 ≤ 16) ∧ (h 78 86 = h 30 1 ∧ 0 ≤ h 30 1 ∧ h 30 1 ≤ 60) ∧ h 78 87 = h 30 2 ∧ (∀ p, 0 ≤ p → p < h 30 0 → h 124 p = h 32 p ∧ 0 ≤ h 32 p ∧ h 32 p ≤ 2147483647) ∧ ∀ k, 0 ≤ k → k < h 30 1 → h 125 k = h 33 k ∧ h 126 k = h 34 k ∧ h 127 k = h 35 k ∧ h 128 k = h 36 k ∧ 0 ≤ h 33 k ∧ h 33 k < 16
def iSc (h : qM) : Prop := (∀ s t j, 0 ≤ s → s < 6 → 0 ≤ t → t < 3 → 0 ≤ j → j < 9 → h 134 (((27 * s) + (3 * j)) + t) = h 43 ((((s * 3) + t) * 9) + j) ∧ -1 ≤ h 43 ((((s * 3) + t) * 9) + j) ∧ h 43 ((((s * 3) + t) * 9) + j) ≤ 100) ∧ (∀ t, 0 ≤ t → t < 3 → h 135 t = h 42 t ∧ 1 ≤ h 42 t ∧ h 42 t ≤ 9) ∧ h 78 2 = h 41 1 ∧ h 78 3 = h 41 2
def iP4 (pt : qM) (t ts c cs : Int) : Prop := (pt 0 8 = t ∧ isT t ∧ pt 0 9 = ts ∧ isT ts ∧ t ≠ ts) ∧ (pt 0 10 = c ∧ isC c ∧ pt 0 11 = cs ∧ isC cs ∧ c ≠ cs)
def InvA (t ts c cs : Int) (sh : qS) (pt h : qM) : Prop := iP4 pt t ts c cs ∧ St sh pt ∧ ShP sh pt ∧ h 0 12 = h 78 0 ∧ iTr h ∧ iGr h ∧ iPr h ∧ iGp h ∧ iTp h ∧ iFE h ∧ iTx t h ∧ iCo c cs h ∧ iPl h ∧ iPa sh pt h ∧ iRo h ∧ iSc h
def Inv (sh : qS) (pt h : qM) : Prop := ∃ t ts c cs, InvA t ts c cs sh pt h
section
variable {h g : qM} {t ts c cs : Int} {sh : qS} {pt : qM}
theorem iTr_fr (q : iTr h) (f : ∀ a i, (70 ≤ a ∧ a ≤ 77) ∨ (79 ≤ a ∧ a ≤ 81) → g a i = h a i) : iTr g := fun v a b => by
  have z := q v a b
  have e : ∀ i, g (70 + 2 * v) i = h (70 + 2 * v) i := fun i => f _ _ (by omega)
  have e2 : ∀ i, g (71 + 2 * v) i = h (71 + 2 * v) i := fun i => f _ _ (by omega)
  rw [e, e, e, f 80 _ (by omega), f 79 _ (by omega)]
  simp only [e2, f 81 _ (Or.inr ⟨by decide, by decide⟩)]
  exact z
theorem iGr_fr (q : iGr h) (f : ∀ a i, (a = 2 ∧ i = 3) ∨ (3 ≤ a ∧ a ≤ 5) ∨ (82 ≤ a ∧ a ≤ 84) ∨ (a = 78 ∧ i = 7) → g a i = h a i) : iGr g := by
  unfold iGr
  rw [f 78 7 (by omega), f 2 3 (by omega)]
  refine ⟨q.1, fun m a b => ?_⟩
  rw [f 82 m (by omega), f 83 m (by omega), f 84 m (by omega), f 3 m (by omega), f 4 m (by omega), f 5 m (by omega)]
  exact q.2 m a b
theorem NT_cg {P Q : Int → Prop} : ∀ k : Nat, (∀ w : Int, 0 ≤ w → w < k → (P w ↔ Q w)) → NT P k = NT Q k := by
  intro k
  induction k with
  | zero => intro _; rfl
  | succ k ih =>
    intro q
    have e := ih (fun w a b => q w a (by omega))
    have e1 : NT P (k + 1) = NT P k + cif (P k) 1 0 := rfl
    have e2 : NT Q (k + 1) = NT Q k + cif (Q k) 1 0 := rfl
    rw [e1, e2, e]
    by_cases c : P k
    · rw [cif_t c, cif_t ((q k (by omega) (by omega)).mp c)]
    · rw [cif_f c, cif_f (fun z => c ((q k (by omega) (by omega)).mpr z))]
theorem iPr_fr (q : iPr h) (f : ∀ a i, (a = 2 ∧ i = 5) ∨ a = 6 ∨ a = 86 ∨ (a = 78 ∧ i = 8) → g a i = h a i) : iPr g := by
  have e : ∀ i, g 86 i = h 86 i := fun i => f _ _ (by omega)
  have e6 : ∀ i, g 6 i = h 6 i := fun i => f _ _ (by omega)
  unfold iPr
  rw [f 78 8 (by omega), f 2 5 (by omega)]
  simp only [e, e6]
  exact q
theorem iGp_fr (q : iGp h) (f : ∀ a i, (a = 2 ∧ i = 8) ∨ a = 7 ∨ a = 8 ∨ a = 85 ∨ a = 87 ∨ (a = 78 ∧ i = 9) → g a i = h a i) : iGp g := by
  unfold iGp
  rw [f 78 9 (by omega), f 2 8 (by omega)]
  refine ⟨q.1, fun m a b => ?_⟩
  rw [f 87 m (by omega), f 7 m (by omega), f 85 m (by omega), f 8 m (by omega)]
  exact q.2 m a b
theorem iTp_fr (q : iTp h) (f : ∀ a i, (a = 9 ∧ i = 1) ∨ a = 10 ∨ a = 88 ∨ (a = 78 ∧ i = 18) → g a i = h a i) : iTp g := by
  unfold iTp
  rw [f 78 18 (by omega), f 9 1 (by omega)]
  refine ⟨q.1, fun m a b => ?_⟩
  rw [f 10 m (by omega), f 88 m (by omega)]
  exact q.2 m a b
theorem iFE_fr (q : iFE h) (f : ∀ a i, (a = 0 ∧ 13 ≤ i ∧ i ≤ 16) ∨ (a = 2 ∧ i = 9) ∨ (a = 78 ∧ (i = 10 ∨ i = 20 ∨ i = 21 ∨ i = 53 ∨ i = 54)) → g a i = h a i) : iFE g := by
  unfold iFE
  rw [f 78 20 (by omega), f 78 21 (by omega), f 78 53 (by omega), f 78 54 (by omega), f 0 13 (by omega), f 0 14 (by omega), f 0 15 (by omega), f 0 16 (by omega), f 78 10 (by omega), f 2 9 (by omega)]
  exact q
theorem iTx_fr (q : iTx t h) (f : ∀ a i, (a = t ∧ (i = 9 ∨ i = 10)) ∨ (t + 1 ≤ a ∧ a ≤ t + 8) ∨ (89 ≤ a ∧ a ≤ 90) ∨ (94 ≤ a ∧ a ≤ 99) ∨ (a = 78 ∧ i = 30) → g a i = h a i) : iTx t g := by
  have r : ∀ a, (89 ≤ a ∧ a ≤ 90) ∨ (94 ≤ a ∧ a ≤ 99) ∨ (t + 1 ≤ a ∧ a ≤ t + 8) → g a = h a := fun a q => funext (fun i => f a i (by omega))
  unfold iTx TXq TXc RGn TXr oK inB at q ⊢
  rw [f t 10 (by omega), f t 9 (by omega), f 78 30 (by omega), r 89 (by omega), r 90 (by omega), r 94 (by omega), r 95 (by omega), r 96 (by omega), r 97 (by omega), r 98 (by omega), r 99 (by omega), r (t + 1) (by omega), r (t + 2) (by omega), r (t + 3) (by omega), r (t + 4) (by omega), r (t + 5) (by omega), r (t + 6) (by omega), r (t + 7) (by omega), r (t + 8) (by omega)]
  exact q
theorem SBc_fr (q : SBc c h) (f : ∀ i, g (c + 1) i = h (c + 1) i) : SBc c g := fun x a b => by rw [f]; exact q x a b
theorem iCo_fr (q : iCo c cs h) (f : ∀ a i, (a = c ∧ 3 ≤ i ∧ i ≤ 6) ∨ a = c + 1 ∨ a = cs + 1 ∨ (106 ≤ a ∧ a ≤ 108) ∨ (a = 78 ∧ 50 ≤ i ∧ i ≤ 52) → g a i = h a i) : iCo c cs g := by
  refine ⟨SBc_fr q.1 (fun i => f _ _ (by omega)), SBc_fr q.2.1 (fun i => f _ _ (by omega)), ?_⟩
  rw [f c 3 (by omega), f c 4 (by omega), f c 5 (by omega), f c 6 (by omega), f 78 50 (by omega), f 78 51 (by omega), f 78 52 (by omega)]
  rcases q.2.2 with z | z
  · exact Or.inl z
  · refine Or.inr ⟨z.1, z.2.1, z.2.2.1, z.2.2.2.1, z.2.2.2.2.1, fun t m a b a2 b2 => ?_⟩
    rw [f (c + 1) _ (by omega), f 106 _ (by omega), f 107 _ (by omega), f 108 _ (by omega)]
    exact z.2.2.2.2.2 t m a b a2 b2
theorem iPl_fr (q : iPl h) (f : ∀ a i, a = 19 ∨ a = 20 ∨ a = 119 ∨ (a = 78 ∧ 76 ≤ i ∧ i ≤ 77) → g a i = h a i) : iPl g := by
  have e : ∀ i, g 119 i = h 119 i := fun i => f _ _ (by omega)
  have e2 : ∀ i, g 20 i = h 20 i := fun i => f _ _ (by omega)
  unfold iPl
  rw [f 78 76 (by omega), f 78 77 (by omega), f 19 0 (by omega), f 19 2 (by omega)]
  simp only [e, e2]
  exact q
theorem iPa_fr (q : iPa sh pt h) (f : ∀ a i, (a = 28 ∧ i = 0) ∨ a = 123 ∨ a = 138 ∨ (a = 78 ∧ i = 84) → g a i = h a i) : iPa sh pt g := by
  have e : ∀ i, g 123 i = h 123 i := fun i => f _ _ (by omega)
  have e2 : ∀ i, g 138 i = h 138 i := fun i => f _ _ (by omega)
  unfold iPa
  rw [f 78 84 (by omega), f 28 0 (by omega)]
  simp only [e, e2]
  exact q
theorem iRo_fr (q : iRo h) (f : ∀ a i, (a = 30 ∧ i ≤ 2) ∨ (32 ≤ a ∧ a ≤ 36) ∨ (124 ≤ a ∧ a ≤ 128) ∨ (a = 78 ∧ 85 ≤ i ∧ i ≤ 87) → g a i = h a i) : iRo g := by
  unfold iRo
  rw [f 78 85 (by omega), f 78 86 (by omega), f 78 87 (by omega), f 30 0 (by omega), f 30 1 (by omega), f 30 2 (by omega)]
  refine ⟨q.1, q.2.1, q.2.2.1, fun p a b => ?_, fun k a b => ?_⟩
  · rw [f 124 p (by omega), f 32 p (by omega)]
    exact q.2.2.2.1 p a b
  · rw [f 125 k (by omega), f 126 k (by omega), f 127 k (by omega), f 128 k (by omega), f 33 k (by omega), f 34 k (by omega), f 35 k (by omega), f 36 k (by omega)]
    exact q.2.2.2.2 k a b
theorem iSc_fr (q : iSc h) (f : ∀ a i, (a = 41 ∧ 1 ≤ i ∧ i ≤ 2) ∨ a = 42 ∨ a = 43 ∨ a = 134 ∨ a = 135 ∨ (a = 78 ∧ 2 ≤ i ∧ i ≤ 3) → g a i = h a i) : iSc g := by
  unfold iSc
  rw [f 78 2 (by omega), f 78 3 (by omega), f 41 1 (by omega), f 41 2 (by omega)]
  refine ⟨fun s t j a b a2 b2 a3 b3 => ?_, fun t a b => ?_, q.2.2⟩
  · rw [f 134 _ (by omega), f 43 _ (by omega)]
    exact q.1 s t j a b a2 b2 a3 b3
  · rw [f 135 t (by omega), f 42 t (by omega)]
    exact q.2.1 t a b
/-- what a call that changes its status alone may write -/
def Pst (a i : Int) : Prop := (a = 0 ∧ i = 12) ∨ (a = 78 ∧ i ≤ 1)
/-- cells that no part of it reads -/
def Pjk (c cs a i : Int) : Prop := Pst a i ∨ (a = 9 ∧ i ≠ 1) ∨ a = 11 ∨ (12 ≤ a ∧ a ≤ 18) ∨ (21 ≤ a ∧ a ≤ 27) ∨ (a = 28 ∧ i ≠ 0) ∨ a = 29 ∨ (a = 30 ∧ 3 ≤ i) ∨ a = 31 ∨ (37 ≤ a ∧ a ≤ 40) ∨ (a = 41 ∧ 3 ≤ i) ∨ a = c + 2 ∨ a = c + 3 ∨ a = cs + 2 ∨ a = cs + 3 ∨ a = cs ∨ (91 ≤ a ∧ a ≤ 93) ∨ (100 ≤ a ∧ a ≤ 105) ∨ (109 ≤ a ∧ a ≤ 118) ∨ (120 ≤ a ∧ a ≤ 122) ∨ (129 ≤ a ∧ a ≤ 133) ∨ a = 136 ∨ a = 137 ∨ (a = 78 ∧ (i = 19 ∨ (22 ≤ i ∧ i ≤ 29) ∨ i = 31 ∨ i = 32 ∨ (55 ≤ i ∧ i ≤ 75) ∨ i = 78 ∨ i = 79 ∨ 100 ≤ i))
theorem InvA_st (v : InvA t ts c cs sh pt h) (f : Fr (Pjk c cs) h g) (s : g 0 12 = g 78 0) : InvA t ts c cs sh pt g := by
  obtain ⟨v0, v1, v2, v3, v4, v5, v6, v7, v8, v9, va, vb, vc, vd, ve, vf⟩ := v
  have ht := v0.1.2.1
  have hc := v0.2.2.1
  have hcs := v0.2.2.2.2.1
  have cc := v0.2.2.2.2.2
  have tn : 40 ≤ t ∧ t ≤ 53 := by rcases ht with e | e <;> omega
  have cn : (c = 62 ∧ cs = 66) ∨ (c = 66 ∧ cs = 62) := by rcases hc with e | e <;> rcases hcs with e2 | e2 <;> omega
  exact ⟨v0, v1, v2, s, iTr_fr v4 (fun a i q => f a i (by unfold Pjk Pst; omega)), iGr_fr v5 (fun a i q => f a i (by unfold Pjk Pst; omega)), iPr_fr v6 (fun a i q => f a i (by unfold Pjk Pst; omega)), iGp_fr v7 (fun a i q => f a i (by unfold Pjk Pst; omega)), iTp_fr v8 (fun a i q => f a i (by unfold Pjk Pst; omega)), iFE_fr v9 (fun a i q => f a i (by unfold Pjk Pst; omega)), iTx_fr va (fun a i q => f a i (by unfold Pjk Pst; omega)), iCo_fr vb (fun a i q => f a i (by unfold Pjk Pst; omega)), iPl_fr vc (fun a i q => f a i (by unfold Pjk Pst; omega)), iPa_fr vd (fun a i q => f a i (by unfold Pjk Pst; omega)), iRo_fr ve (fun a i q => f a i (by unfold Pjk Pst; omega)), iSc_fr vf (fun a i q => f a i (by unfold Pjk Pst; omega))⟩
end
