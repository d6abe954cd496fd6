/-! PATHS: the class's search -/
def sg0 (b0 : Int) : bq := (1, rup (fun _ => 0) 0 b0, rup (fun _ => 0) b0 4, rup (fun _ => 0) b0 b0, fun _ => 0)
def gl (x y f s : Int) : Prop := s / 8 / 40 = x ∧ s / 8 % 40 = y ∧ (f = -1 ∨ s % 8 = f)
def mvs (σ : bq) (g k : Int) : Int := σ.2.2.1 (chn σ.2.2.2.1 (σ.2.2.2.2 g - 1 - k).toNat g) - 1
noncomputable def pth (fr : Int → Int → Prop) (b0 x y f : Int) : Int × bq := bfs fr (gl x y f) 19201 0 (sg0 b0)
theorem cnt_z : ∀ k : Nat, cnt (fun _ => 0) k = 0 := by
  intro k
  induction k with
  | zero => rfl
  | succ k ih => rw [cnt, ih, if_pos rfl]; rfl
theorem bi_0 {fr : Int → Int → Prop} {b0 : Int} (h0 : 0 ≤ b0) (h1 : b0 < 19200) (hf : frs fr b0) : BI fr b0 (sg0 b0) 0 := by
  unfold sg0
  have e0 : ∀ t, rup (fun _ => 0) b0 4 t ≠ 0 → t = b0 := fun t h => by
    by_cases e : t = b0
    · exact e
    · rw [rup_of e] at h
      exact absurd rfl h
  refine ⟨⟨?_, Int.le_refl _, Int.le_refl _⟩, ?_, ?_, ?_, ?_, ?_, ?_, (show (0 : Int) ≤ 1 by decide), h0, h1, (show rup (fun _ => 0) b0 4 b0 = 4 from rup_at)⟩
  · show cnt (rup (fun _ => 0) b0 4) 19200 = 1
    rw [cnt_up rfl (by decide) h0 19200 (by omega), cnt_z]
    rfl
  · intro i i0 i1
    dsimp only at i1 ⊢
    rw [show i = 0 by omega, rup_at, rup_at]
    exact ⟨⟨h0, h1⟩, by decide⟩
  · intro t t0 t1 ht
    dsimp only at ht ⊢
    have e := e0 t ht
    rw [e]
    exact ⟨⟨hf, Int.le_refl _, Or.inl ⟨rfl, (show rup (fun _ => 0) b0 4 b0 = 4 from rup_at), (show rup (fun _ => 0) b0 b0 b0 = b0 from rup_at), rfl⟩⟩, 0, Int.le_refl _, by decide, rup_at⟩
  · intro i j _ _ _
    exact Int.le_refl _
  · intro _ j _ _
    exact (by decide : (0 : Int) ≤ 0 + 1)
  · intro i i0 i1
    omega
  · intro t t0 t1
    dsimp only
    by_cases e : t = b0
    · rw [e, rup_at]; decide
    · rw [rup_of e]; exact Int.le_refl _
section
variable {X : qX} {d : Nat} {sh : qS} {pt h : qM} {fr : Int → Int → Prop} {b0 : Int} {σ : bq} {hd : Int}
theorem bi_b0 (g : gOk fr) (B : BI fr b0 σ hd) {t : Int} (t0 : 0 ≤ t) (t1 : t < 19200) (tv : σ.2.2.1 t ≠ 0) : (σ.2.2.1 t = 4 ↔ t = b0) ∧ (σ.2.2.2.2 t = 0 ↔ t = b0) ∧ (t ≠ b0 → bk t (σ.2.2.1 t - 1) = σ.2.2.2.1 t ∧ (1 ≤ σ.2.2.1 t ∧ σ.2.2.1 t ≤ 3) ∧ 0 ≤ σ.2.2.2.1 t ∧ σ.2.2.2.1 t < 19200) := by
  have v := (B.2.2.1 t t0 t1 tv).1
  rcases v.2.2 with w | w
  · exact ⟨⟨fun _ => w.1, fun _ => w.2.1⟩, ⟨fun _ => w.1, fun _ => w.2.2.2⟩, fun q => absurd w.1 q⟩
  · have u := (B.2.2.1 _ w.2.2.2.1 w.2.2.2.2.1 w.2.2.2.2.2.1).1
    have u1 := u.2.1
    have ok := nx_ok (k := σ.2.2.1 t - 1) g w.2.2.2.1 w.2.2.2.2.1 u.1 (by omega) (by omega) (by rw [w.2.2.2.2.2.2.1]; exact t0)
    rw [w.2.2.2.2.2.2.1] at ok
    refine ⟨⟨fun q => by omega, fun q => absurd q w.1⟩, ⟨fun q => by omega, fun q => absurd q w.1⟩, fun _ => ⟨ok.2.2, ⟨w.2.1, w.2.2.1⟩, w.2.2.2.1, w.2.2.2.2.1⟩⟩
theorem x_stateAhead {K : Int → qM → Prop} {t : Int} (hst : St sh pt) (hsw : Sw sh pt) (xb : ∀ t, 0 ≤ t → t < 19200 → h 136 t = σ.2.2.1 t) (t0 : 0 ≤ t) (t1 : t < 19200) (c1 : 1 ≤ σ.2.2.1 t) (c3 : σ.2.2.1 t ≤ 3) (k : K (bk t (σ.2.2.1 t - 1)) h) : RunI X (d + 1) mX9_stateAhead [(2, 28), (0, t)] sh pt h K := by
  have st := qst_bd (f := t % 8) (by omega) (by omega)
  have q7 : qiand t 7 = t % 8 := qiand_7
  refine b_X9_stateAhead hst hsw ⟨⟨t0, t1⟩, ?_⟩
  rw [xb t t0 t1]
  unfold bk at k
  refine ⟨⟨by omega, by omega⟩, fun q => b_X2_eastStep hst ?_, fun q => ?_, fun q => ?_⟩
  · rw [q7]
    refine ⟨by omega, b_X2_northStep hst ?_⟩
    rw [q7]
    refine ⟨by omega, b_X2_spot hst ⟨⟨by omega, by omega⟩, ⟨by omega, by omega⟩, ?_⟩⟩
    rw [qishl_3s (by omega) (by omega)]
    rw [if_pos q, show 8 * (40 * qstE (t % 8) + qstN (t % 8)) = 8 * (qstE (t % 8) * 40 + qstN (t % 8)) by omega] at k
    exact ⟨⟨by omega, by omega⟩, k⟩
  · refine x_turned hst t0 t1 (Or.inr rfl) ?_
    rw [if_neg (by omega), if_pos q, show (t % 8 + 7) % 8 = (t + -1) % 8 by omega] at k
    exact k
  · refine x_turned hst t0 t1 (Or.inl rfl) ?_
    rw [if_neg (by omega), if_neg (by omega), show (t % 8 + 1) % 8 = (t + 1) % 8 by omega] at k
    exact k
theorem x_countMoves {K : Int → qM → Prop} (hst : St sh pt) (hsw : Sw sh pt) (g : gOk fr) (B : BI fr b0 σ hd) (h1 : hd < σ.1) (xb : ∀ t, 0 ≤ t → t < 19200 → h 136 t = σ.2.2.1 t) (Db : σ.2.2.2.2 (σ.2.1 hd) ≤ 2400) (k : K (σ.2.2.2.2 (σ.2.1 hd)) h) : RunI X (d + 2) mX9_countMoves [(2, 28), (0, σ.2.1 hd)] sh pt h K := by
  have gv := B.2.1 hd B.1.2.2 h1
  have D0 := (B.2.2.1 _ gv.1.1 gv.1.2 gv.2).1.2.1
  refine b_X9_countMoves hst ?_
  refine lp (σ := Unit) (J := fun _ _ => True) (C := fun j _ => EvI X (d + 2) mX9_countMoves 4 [(2, 28), (8, -1), (0, chn σ.2.2.2.1 j.toNat (σ.2.1 hd)), (0, j)] [] sh pt h K) (n := σ.2.2.2.2 (σ.2.1 hd)) D0 ?_ ?_ () trivial
  · intro j _ j0 j1 _ kk
    have c := chn_ok B h1 j.toNat (by omega)
    have b := bi_b0 g B c.1.1 c.1.2 c.2.1
    have ne : chn σ.2.2.2.1 j.toNat (σ.2.1 hd) ≠ b0 := fun e => by
      have := b.2.1.mpr e
      omega
    have w := b.2.2 ne
    refine b_X9_countMoves_4 hst hsw ⟨fun q => absurd q (by omega), fun _ => ⟨c.1, ?_⟩⟩
    rw [xb _ c.1.1 c.1.2]
    refine ⟨fun _ => x_stateAhead hst hsw xb c.1.1 c.1.2 w.2.1.1 w.2.1.2 ⟨⟨by omega, by omega⟩, ?_⟩, fun q => absurd (b.1.mp q) ne⟩
    have z := kk () trivial
    try dsimp only at z
    rw [show (j + 1).toNat = j.toNat + 1 by omega] at z
    rw [w.1]
    exact z
  · intro _ _
    have c := chn_ok B h1 (σ.2.2.2.2 (σ.2.1 hd)).toNat (by omega)
    have b := bi_b0 g B c.1.1 c.1.2 c.2.1
    have e := b.2.1.mp (by omega)
    refine b_X9_countMoves_4 hst hsw ⟨fun q => absurd q (by omega), fun _ => ⟨c.1, ?_⟩⟩
    rw [xb _ c.1.1 c.1.2]
    exact ⟨fun q => absurd (b.1.mpr e) q, fun _ => k⟩
def PK (a i : Int) : Prop := a = 138 ∨ (a = 28 ∧ i = 0)
theorem x_keepMoves {K : qM → Prop} (hst : St sh pt) (hsw : Sw sh pt) (g : gOk fr) (B : BI fr b0 σ hd) (h1 : hd < σ.1) (xb : ∀ t, 0 ≤ t → t < 19200 → h 136 t = σ.2.2.1 t) (Db : σ.2.2.2.2 (σ.2.1 hd) ≤ 2400) (k : ∀ h2, Fr PK h h2 → h2 28 0 = σ.2.2.2.2 (σ.2.1 hd) → (∀ j, 0 ≤ j → j < σ.2.2.2.2 (σ.2.1 hd) → h2 138 j = mvs σ (σ.2.1 hd) j) → K h2) : RunV X (d + 3) mX9_keepMoves [(2, 28), (0, σ.2.1 hd)] sh pt h K := by
  have gv := B.2.1 hd B.1.2.2 h1
  have D0 := (B.2.2.1 _ gv.1.1 gv.1.2 gv.2).1.2.1
  refine b_X9_keepMoves hst (x_countMoves hst hsw g B h1 xb Db (fun h3 e3 => ?_))
  rw [show h3 28 0 = σ.2.2.2.2 (σ.2.1 hd) by rw [e3, qup_at]]
  refine ⟨⟨by omega, by omega⟩, ?_⟩
  have z : EvV X (d + 3) mX9_keepMoves 18 [(2, 28), (8, -1), (0, chn σ.2.2.2.1 (0 : Int).toNat (σ.2.1 hd)), (0, σ.2.2.2.2 (σ.2.1 hd) - 1 - 0)] [] sh pt h3 K := by
    refine lp (σ := qM) (J := fun i h4 => Fr PK h h4 ∧ h4 28 0 = σ.2.2.2.2 (σ.2.1 hd) ∧ ∀ j, σ.2.2.2.2 (σ.2.1 hd) - 1 - i < j → j < σ.2.2.2.2 (σ.2.1 hd) → h4 138 j = mvs σ (σ.2.1 hd) j) (C := fun i h4 => EvV X (d + 3) mX9_keepMoves 18 [(2, 28), (8, -1), (0, chn σ.2.2.2.1 i.toNat (σ.2.1 hd)), (0, σ.2.2.2.2 (σ.2.1 hd) - 1 - i)] [] sh pt h4 K) (n := σ.2.2.2.2 (σ.2.1 hd)) D0 ?_ ?_ h3 ⟨by rw [e3]; exact Fr.rf.up (Or.inr ⟨rfl, rfl⟩), by rw [e3, qup_at], fun j a b => absurd a (by omega)⟩
    · intro i h4 i0 i1 ⟨f4, g1, g2⟩ kk
      have c := chn_ok B h1 i.toNat (by omega)
      have b := bi_b0 g B c.1.1 c.1.2 c.2.1
      have ne : chn σ.2.2.2.1 i.toNat (σ.2.1 hd) ≠ b0 := fun e => by
        have := b.2.1.mpr e
        omega
      have w := b.2.2 ne
      have xb4 : ∀ t, 0 ≤ t → t < 19200 → h4 136 t = σ.2.2.1 t := fun t a b => by rw [f4 _ _ (by unfold PK; omega)]; exact xb t a b
      refine b_X9_keepMoves_18 hst hsw ⟨fun q => absurd q (by omega), fun _ => ⟨c.1, ?_⟩⟩
      rw [xb4 _ c.1.1 c.1.2, qi2b_id (by omega) (by omega)]
      refine ⟨⟨by omega, by omega⟩, ⟨by omega, by omega⟩, ⟨by omega, by omega⟩, fun h5 e5 => ?_⟩
      have xb5 : ∀ t, 0 ≤ t → t < 19200 → h5 136 t = σ.2.2.1 t := fun t a b => by rw [e5, qup_of (by omega)]; exact xb4 t a b
      refine x_stateAhead hst hsw xb5 c.1.1 c.1.2 w.2.1.1 w.2.1.2 ⟨⟨by omega, by omega⟩, ?_⟩
      have y := kk h5 ⟨by rw [e5]; exact f4.up (Or.inl rfl), by rw [e5, qup_of (by omega)]; exact g1, fun j a b => ?_⟩
      · try dsimp only at y
        rw [show (i + 1).toNat = i.toNat + 1 by omega, show σ.2.2.2.2 (σ.2.1 hd) - 1 - (i + 1) = σ.2.2.2.2 (σ.2.1 hd) - 1 - i + -1 by omega] at y
        rw [w.1]
        exact y
      · by_cases e : j = σ.2.2.2.2 (σ.2.1 hd) - 1 - i
        · rw [e, e5, qup_at]
          unfold mvs
          rw [show (σ.2.2.2.2 (σ.2.1 hd) - 1 - (σ.2.2.2.2 (σ.2.1 hd) - 1 - i)).toNat = i.toNat by omega]
        · rw [e5, qup_of (by omega)]
          exact g2 j (by omega) b
    · intro h4 ⟨f4, g1, g2⟩
      exact b_X9_keepMoves_18 hst hsw ⟨fun _ => k h4 f4 g1 (fun j a b => g2 j (by omega) b), fun q => absurd q (by omega)⟩
  rw [show σ.2.2.2.2 (σ.2.1 hd) - 1 - 0 = σ.2.2.2.2 (σ.2.1 hd) - 1 by omega] at z
  exact z
def PY0 (a i : Int) : Prop := a = 29 ∨ a = 136 ∨ a = 137 ∨ (a = 28 ∧ i = 5)
def PY1 (a i : Int) : Prop := a = 29 ∨ a = 136 ∨ a = 137 ∨ a = 138 ∨ (a = 28 ∧ (i = 0 ∨ i = 5))
theorem x_search_l {K : Int → qM → Prop} {x y f : Int} (hst : St sh pt) (hsw : Sw sh pt) (g : gOk fr) (nf : NT (fun w => ¬ flP fr w) 1200 ≤ 49) (y0 : 0 ≤ y ∧ y < 40) (hb1 : ∀ n, 0 ≤ n → n < 40 → 0 ≤ h 29 n ∧ h 29 n ≤ 1152921504606846975) (hb2 : ∀ e n, 0 ≤ e → e < 60 → 0 ≤ n → n < 40 → (tb (h 29 n) e = false ↔ fr e n)) : ∀ (k : Nat) (hd : Int) (σ : bq) (h1 : qM), hd + k = 19201 → BI fr b0 σ hd → XB h1 σ → Fr PV h h1 → ((bfs fr (gl x y f) k hd σ).1 < 0 → ∀ h2, Fr PV h h2 → K 0 h2) → (0 ≤ (bfs fr (gl x y f) k hd σ).1 → ∀ h2, Fr PY1 h h2 → h2 28 0 = (bfs fr (gl x y f) k hd σ).2.2.2.2.2 (bfs fr (gl x y f) k hd σ).1 → (∀ j, 0 ≤ j → j < (bfs fr (gl x y f) k hd σ).2.2.2.2.2 (bfs fr (gl x y f) k hd σ).1 → h2 138 j = mvs (bfs fr (gl x y f) k hd σ).2 (bfs fr (gl x y f) k hd σ).1 j) → K 1 h2) → EvI X (d + 4) mX9_search 59 [(2, 28), (8, -1), (8, -1), (0, x * 40 + y), (0, f), (8, -1), (0, hd), (8, -1)] [] sh pt h1 K := by
  intro k
  induction k with
  | zero =>
    intro hd σ h1 e B
    have := bi_tail B
    have := B.2.2.2.2.2.2.2.1
    omega
  | succ k ih =>
    intro hd σ h1 e B xb f1 k0 k1
    have tl := bi_tail B
    have hh := B.1.2.2
    rw [bfs] at k0 k1
    by_cases c : σ.1 ≤ hd
    · rw [if_pos c] at k0
      exact b_X9_search_59 hst hsw ⟨fun _ => k0 (show (-1 : Int) < 0 by decide) h1 f1, fun q => absurd q (by rw [xb.1]; omega)⟩
    · have hl : hd < σ.1 := by omega
      have gv := B.2.1 hd hh hl
      have eq : h1 137 hd = σ.2.1 hd := xb.2.1 hd hh hl
      rw [if_neg c] at k0 k1
      refine b_X9_search_59 hst hsw ⟨fun q => absurd q (by rw [xb.1]; omega), fun _ => ⟨fun q => absurd q (by omega), fun q => ⟨⟨hh, q⟩, ?_⟩⟩⟩
      rw [eq, qishr_3 ⟨by omega, by omega⟩, qiand_7]
      have more : ¬ gl x y f (σ.2.1 hd) → EvI X (d + 4) mX9_search 117 [(2, 28), (8, -1), (8, -1), (0, x * 40 + y), (0, f), (8, -1), (0, hd), (0, σ.2.1 hd)] [] sh pt h1 K := fun ng => by
        rw [cif_f ng] at k0 k1
        have s0 := bi_vis (k := 0) g B hl (by decide) (by decide)
        have hb1' : ∀ n, 0 ≤ n → n < 40 → 0 ≤ h1 29 n ∧ h1 29 n ≤ 1152921504606846975 := fun n a b => by rw [f1 _ _ (by unfold PV; omega)]; exact hb1 n a b
        have hb2' : ∀ e n, 0 ≤ e → e < 60 → 0 ≤ n → n < 40 → (tb (h1 29 n) e = false ↔ fr e n) := fun e n a b c q => by rw [f1 _ _ (by unfold PV; omega)]; exact hb2 e n a b c q
        refine b_X9_search_117 hst (x_visitAhead (fr := fr) (σ := σ) hst hsw g xb gv.1.1 gv.1.2 (by have := B.1.2.1; omega) (fun t a b q => bi_room B a b q) hb1' hb2' (fun h2 f2 x2 => ?_))
        generalize e0 : vis (nx fr (σ.2.1 hd) 0) 0 (σ.2.1 hd) σ = σ0 at s0 x2
        have hl0 : hd < σ0.1 := by have := s0.2.2.1; omega
        have q0 : σ0.2.1 hd = σ.2.1 hd := s0.2.1 hd hh hl
        have s1 := bi_vis (k := 1) g s0.1 hl0 (by decide) (by decide)
        rw [q0] at s1
        refine x_turned hst gv.1.1 gv.1.2 (Or.inl rfl) ?_
        have n1 : nx fr (σ.2.1 hd) 1 = 8 * (σ.2.1 hd / 8) + (σ.2.1 hd + 1) % 8 := by rw [nx_1]; omega
        rw [← n1]
        refine x_visit (s := σ.2.1 hd) hst hsw x2 (by rw [n1]; omega) (by rw [n1]; omega) (by decide) (by decide) (by have := s0.1.1.2.1; omega) (fun q => bi_room s0.1 (by rw [n1]; omega) (by rw [n1]; omega) q) (fun h3 f3 x3 => ?_)
        generalize e1 : vis (nx fr (σ.2.1 hd) 1) 1 (σ.2.1 hd) σ0 = σ1 at s1 x3
        refine x_turned hst gv.1.1 gv.1.2 (Or.inr rfl) ?_
        have n2 : nx fr (σ.2.1 hd) 2 = 8 * (σ.2.1 hd / 8) + (σ.2.1 hd + -1) % 8 := by rw [nx_2]; omega
        rw [← n2]
        refine x_visit (s := σ.2.1 hd) hst hsw x3 (by rw [n2]; omega) (by rw [n2]; omega) (by decide) (by decide) (by have := s1.1.1.2.1; omega) (fun q => bi_room s1.1 (by rw [n2]; omega) (by rw [n2]; omega) q) (fun h4 f4 x4 => ⟨⟨by omega, by omega⟩, ?_⟩)
        have ee : exS fr (σ.2.1 hd) σ = vis (nx fr (σ.2.1 hd) 2) 2 (σ.2.1 hd) σ1 := by unfold exS; rw [e0, e1]
        rw [← ee] at x4
        exact ih (hd + 1) _ h4 (by omega) (bi_ex g B hl) x4 (((f1.tr f2).tr f3).tr f4) k0 k1
      have found : gl x y f (σ.2.1 hd) → RunV X (d + 3) mX9_keepMoves [(2, 28), (0, σ.2.1 hd)] sh pt h1 (fun h2 => K 1 h2) := fun yg => by
        rw [cif_t yg] at k0 k1
        refine x_keepMoves hst hsw g B hl xb.2.2 (path_bd g B hl nf) (fun h2 f2 g2 g3 => k1 gv.1.1 h2 (fun a i q => ?_) g2 g3)
        unfold PY1 at q
        rw [f2 _ _ (by unfold PK; omega), f1 _ _ (by unfold PV; omega)]
      refine ⟨fun q2 => more (fun z => q2 (by have := z.1; have := z.2.1; omega)), fun q2 => ⟨fun q3 => found ⟨by omega, by omega, Or.inl q3⟩, fun q3 => ⟨fun q4 => more (fun z => ?_), fun q4 => found ⟨by omega, by omega, Or.inr q4⟩⟩⟩⟩
      rcases z.2.2 with z | z
      · exact q3 z
      · exact q4 z
theorem x_ysearch {K : Int → qM → Prop} {p : Int → Int → Int} {bE bN bF : Int → Int} {M m x y f b0 : Int} (hst : St sh pt) (hsw : Sw sh pt) (hM : h 2 3 = M) (M0 : 0 ≤ M) (M1 : M ≤ 20) (m0 : 0 ≤ m) (m1 : m < M) (hb : ∀ k, 0 ≤ k → k < M → h 3 k = bE k ∧ h 4 k = bN k ∧ 0 ≤ bE k ∧ bE k < 60 ∧ 0 ≤ bN k ∧ bN k < 40) (hF : h 5 m = bF m ∧ 0 ≤ bF m ∧ bF m < 8) (hp1 : ∀ n, 0 ≤ n → n < 40 → 0 ≤ h 6 n ∧ h 6 n ≤ 1152921504606846975) (hp : ∀ e n, 0 ≤ e → e < 60 → 0 ≤ n → n < 40 → (tb (h 6 n) e = true ↔ p e n ≠ 0)) (nf : NT (fun w => ¬ flP (fre p bE bN M m) w) 1200 ≤ 49) (y0 : 0 ≤ y ∧ y < 40) (eb : b0 = 8 * (40 * bE m + bN m) + bF m)
    (k0 : (pth (fre p bE bN M m) b0 x y f).1 < 0 → ∀ h2, Fr PY0 h h2 → K 0 h2) (k1 : 0 ≤ (pth (fre p bE bN M m) b0 x y f).1 → ∀ h2, Fr PY1 h h2 → h2 28 0 = (pth (fre p bE bN M m) b0 x y f).2.2.2.2.2 (pth (fre p bE bN M m) b0 x y f).1 → (∀ j, 0 ≤ j → j < (pth (fre p bE bN M m) b0 x y f).2.2.2.2.2 (pth (fre p bE bN M m) b0 x y f).1 → h2 138 j = mvs (pth (fre p bE bN M m) b0 x y f).2 (pth (fre p bE bN M m) b0 x y f).1 j) → K 1 h2) : EvI X (d + 4) mX9_search 4 [(2, 28), (2, 2), (0, m), (0, x * 40 + y), (0, f), (8, -1), (8, -1), (8, -1)] [] sh pt h K := by
  have zm := hb m m0 m1
  refine b_X9_search_4 hst hsw (x_bar hst hM M0 M1 m0 m1 hb hp1 hp (fun h1 f1 g1 g2 => x_fillB hst (sw_136 hsw) (by decide) (by decide) (by decide) (fun h2 f2 g3 h3 e3 => ?_)))
  have u : ∀ a i, ¬ (a = 29 ∨ a = 136 ∨ a = 28) → h3 a i = h a i := fun a i q => by rw [e3, qup_of (by omega), f2 _ _ (by omega), f1 _ _ (by omega)]
  rw [u 3 m (by decide), u 4 m (by decide), zm.1, zm.2.1]
  refine ⟨by omega, by omega, b_X2_spot hst ⟨⟨by omega, by omega⟩, ⟨by omega, by omega⟩, by omega, fun v ev => ?_⟩⟩
  rw [u 5 m (by decide), hF.1, qishl_3 (by omega) (by omega), qior_8 (by omega) (by omega) (by omega) (by omega)] at ev
  have ev2 : v = b0 := by omega
  rw [ev2]
  have xb0 : XB h3 (0, fun _ => 0, fun _ => 0, fun _ => 0, fun _ => -1) := by
    refine ⟨by rw [e3, qup_at], fun i a b => absurd b (by dsimp only; omega), fun t a b => ?_⟩
    rw [e3, qup_of (by omega)]
    exact g3 t a b
  refine x_visit (s := b0) hst hsw xb0 (by omega) (by omega) (by decide) (by decide) (by decide) (fun _ => by decide) (fun h4 f4 x4 => ?_)
  have e5 : XB h4 (sg0 b0) := by
    rw [vis_y (by omega) rfl] at x4
    exact x4
  have fs : frs (fre p bE bN M m) b0 := by
    unfold frs
    rw [show b0 / 8 / 40 = bE m by omega, show b0 / 8 % 40 = bN m by omega]
    exact ⟨by omega, Or.inl ⟨rfl, rfl⟩⟩
  have g2' : ∀ e n, 0 ≤ e → e < 60 → 0 ≤ n → n < 40 → (tb (h4 29 n) e = false ↔ fre p bE bN M m e n) := fun e n a b c q => by
    rw [f4 _ _ (by unfold PV; omega), e3, qup_of (by omega), f2 _ _ (by omega)]
    exact g2 e n a b c q
  have g1' : ∀ n, 0 ≤ n → n < 40 → 0 ≤ h4 29 n ∧ h4 29 n ≤ 1152921504606846975 := fun n a b => by
    rw [f4 _ _ (by unfold PV; omega), e3, qup_of (by omega), f2 _ _ (by omega)]
    exact g1 n a b
  have f9 : Fr PY0 h h4 := fun a i q => by
    unfold PY0 at q
    rw [f4 _ _ (by unfold PV; omega), e3, qup_of (by omega), f2 _ _ (by omega), f1 _ _ (by omega)]
  refine x_search_l hst hsw fre_g nf y0 g1' g2' 19201 0 (sg0 b0) h4 (by decide) (bi_0 (by omega) (by omega) fs) e5 Fr.rf (fun q h5 f5 => k0 q h5 (fun a i z => ?_)) (fun q h5 f5 => k1 q h5 (fun a i z => ?_))
  · rw [f5 _ _ (by unfold PY0 at z; unfold PV; omega)]
    exact f9 a i z
  · rw [f5 _ _ z]
    exact f9 a i (fun w => z (by unfold PY0 at w; unfold PY1; omega))
end
