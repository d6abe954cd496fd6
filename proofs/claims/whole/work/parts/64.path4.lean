/-! PATHS: the reference's path() and move() -/
noncomputable def pathF (fr : Int → Int → Prop) (b0 M m x y f : Int) : Int × Int := if ¬ (0 ≤ m ∧ m < M) then (-1, 2) else if ¬ ((0 ≤ x ∧ x < 60 ∧ 0 ≤ y ∧ y < 40) ∧ (f = -1 ∨ (0 ≤ f ∧ f < 8))) then (-1, 5) else if (pth fr b0 x y f).1 < 0 then (-1, 8) else ((pth fr b0 x y f).2.2.2.2.2 (pth fr b0 x y f).1, 0)
def PMP (a i : Int) : Prop := a = 120 ∨ a = 121 ∨ a = 122 ∨ a = 123 ∨ (a = 78 ∧ i = 84)
section
variable {X : qX} {d : Nat} {sh : qS} {pt h : qM} {p : Int → Int → Int} {bE bN : Int → Int} {M m : Int}
theorem m_back {K : Int → qM → Prop} {fr : Int → Int → Prop} {b0 hd : Int} {σ : bq} {h0 : qM} (hst : St sh pt) (g : gOk fr) (B : BI fr b0 σ hd) (hl : hd < σ.1) (Db : σ.2.2.2.2 (σ.2.1 hd) ≤ 2400) (f0 : Fr PMP h0 h) (mx : MX h b0 σ) (k : ∀ h2, Fr PMP h0 h2 → h2 78 84 = σ.2.2.2.2 (σ.2.1 hd) → (∀ j, 0 ≤ j → j < σ.2.2.2.2 (σ.2.1 hd) → h2 123 j = mvs σ (σ.2.1 hd) j) → K (σ.2.2.2.2 (σ.2.1 hd)) h2) : EvI X (d + 1) mX11_path 404 [(2, 78), (8, -1), (8, -1), (8, -1), (8, -1), (0, b0), (8, -1), (0, σ.2.1 hd), (0, 0), (0, σ.2.1 hd), (8, -1), (8, -1), (8, -1), (8, -1), (8, -1), (8, -1), (8, -1)] [] sh pt h K := by
  have gv := B.2.1 hd B.1.2.2 hl
  have D0 := (B.2.2.1 _ gv.1.1 gv.1.2 gv.2).1.2.1
  refine lp (σ := Unit) (J := fun _ _ => True) (C := fun j _ => EvI X (d + 1) mX11_path 404 [(2, 78), (8, -1), (8, -1), (8, -1), (8, -1), (0, b0), (8, -1), (0, σ.2.1 hd), (0, j), (0, chn σ.2.2.2.1 j.toNat (σ.2.1 hd)), (8, -1), (8, -1), (8, -1), (8, -1), (8, -1), (8, -1), (8, -1)] [] sh pt h K) (n := σ.2.2.2.2 (σ.2.1 hd)) D0 ?_ ?_ () trivial
  · intro j _ j0 j1 _ kk
    have c := chn_ok B hl j.toNat (by omega)
    have b := bi_b0 g B c.1.1 c.1.2 c.2.1
    have ne : chn σ.2.2.2.1 j.toNat (σ.2.1 hd) ≠ b0 := fun e => by
      have := b.2.1.mpr e
      omega
    refine b_X11_path_404 hst ⟨fun q => absurd q ne, fun _ => ⟨⟨by omega, by omega⟩, c.1, ?_⟩⟩
    rw [(mx.2 _ c.1.1 c.1.2).2.1 c.2.1]
    have z := kk () trivial
    try dsimp only at z
    rw [show (j + 1).toNat = j.toNat + 1 by omega] at z
    exact z
  · intro _ _
    have c := chn_ok B hl (σ.2.2.2.2 (σ.2.1 hd)).toNat (by omega)
    have b := bi_b0 g B c.1.1 c.1.2 c.2.1
    have e := b.2.1.mp (by omega)
    refine b_X11_path_404 hst ⟨fun _ h1 e1 => ?_, fun q => absurd e q⟩
    have z : EvI X (d + 1) mX11_path 436 [(2, 78), (8, -1), (8, -1), (8, -1), (8, -1), (0, b0), (8, -1), (8, -1), (0, σ.2.2.2.2 (σ.2.1 hd) - 0), (0, chn σ.2.2.2.1 (0 : Int).toNat (σ.2.1 hd)), (8, -1), (8, -1), (8, -1), (8, -1), (8, -1), (8, -1), (8, -1)] [] sh pt h1 K := by
      refine lp (σ := qM) (J := fun i h4 => Fr PMP h0 h4 ∧ MX h4 b0 σ ∧ h4 78 84 = σ.2.2.2.2 (σ.2.1 hd) ∧ ∀ j, σ.2.2.2.2 (σ.2.1 hd) - 1 - i < j → j < σ.2.2.2.2 (σ.2.1 hd) → h4 123 j = mvs σ (σ.2.1 hd) j) (C := fun i h4 => EvI X (d + 1) mX11_path 436 [(2, 78), (8, -1), (8, -1), (8, -1), (8, -1), (0, b0), (8, -1), (8, -1), (0, σ.2.2.2.2 (σ.2.1 hd) - i), (0, chn σ.2.2.2.1 i.toNat (σ.2.1 hd)), (8, -1), (8, -1), (8, -1), (8, -1), (8, -1), (8, -1), (8, -1)] [] sh pt h4 K) (n := σ.2.2.2.2 (σ.2.1 hd)) D0 ?_ ?_ h1 ⟨by rw [e1]; exact f0.up (by unfold PMP; omega), ?_, by rw [e1, qup_at], fun j a b => absurd a (by omega)⟩
      · intro i h4 i0 i1 ⟨f4, m4, g1, g2⟩ kk
        have c := chn_ok B hl i.toNat (by omega)
        have b := bi_b0 g B c.1.1 c.1.2 c.2.1
        have ne : chn σ.2.2.2.1 i.toNat (σ.2.1 hd) ≠ b0 := fun e => by
          have := b.2.1.mpr e
          omega
        refine b_X11_path_436 hst ⟨fun q => absurd q ne, fun _ => ⟨⟨by omega, by omega⟩, c.1, ⟨by omega, by omega⟩, fun h5 e5 => ⟨c.1, ?_⟩⟩⟩
        have m5 : MX h5 b0 σ := by
          refine ⟨fun i a b => ?_, fun t a b => ?_⟩
          · rw [e5, qup_of (by omega)]; exact m4.1 i a b
          · rw [e5, qup_of (by omega), qup_of (by omega)]; exact m4.2 t a b
        rw [(m5.2 _ c.1.1 c.1.2).2.1 c.2.1]
        have y := kk h5 ⟨by rw [e5]; exact f4.up (by unfold PMP; omega), m5, by rw [e5, qup_of (by omega)]; exact g1, fun j a b => ?_⟩
        · try dsimp only at y
          rw [show (i + 1).toNat = i.toNat + 1 by omega, show σ.2.2.2.2 (σ.2.1 hd) - (i + 1) = σ.2.2.2.2 (σ.2.1 hd) - i + -1 by omega] at y
          exact y
        · by_cases e : j = σ.2.2.2.2 (σ.2.1 hd) - 1 - i
          · rw [e5, show σ.2.2.2.2 (σ.2.1 hd) - i + -1 = j by omega, qup_at, (m4.2 _ c.1.1 c.1.2).2.2 c.2.1 ne]
            unfold mvs
            rw [show (σ.2.2.2.2 (σ.2.1 hd) - 1 - j).toNat = i.toNat by omega]
          · rw [e5, qup_of (by omega)]
            exact g2 j (by omega) b
      · intro h4 ⟨f4, m4, g1, g2⟩
        refine b_X11_path_436 hst ⟨fun _ => ?_, fun q => absurd e q⟩
        rw [g1]
        exact k h4 f4 g1 (fun j a b => g2 j (by omega) b)
      · refine ⟨fun i a b => ?_, fun t a b => ?_⟩
        · rw [e1, qup_of (by omega)]; exact mx.1 i a b
        · rw [e1, qup_of (by omega), qup_of (by omega)]; exact mx.2 t a b
    rw [show σ.2.2.2.2 (σ.2.1 hd) - 0 = σ.2.2.2.2 (σ.2.1 hd) by omega] at z
    exact z
theorem m_path_l {K : Int → qM → Prop} {x y f b0 : Int} {h0 : qM} (hst : St sh pt) (hM : h0 78 7 = M) (M0 : 0 ≤ M) (M1 : M ≤ 20) (m0 : 0 ≤ m) (m1 : m < M) (hb : ∀ k, 0 ≤ k → k < M → h0 82 k = bE k ∧ h0 83 k = bN k) (hp : ∀ e n, 0 ≤ e → e < 60 → 0 ≤ n → n < 40 → h0 86 (40 * e + n) = p e n) (nf : NT (fun w => ¬ flP (fre p bE bN M m) w) 1200 ≤ 49) : ∀ (k : Nat) (hd : Int) (σ : bq) (h1 : qM), hd + k = 19201 → BI (fre p bE bN M m) b0 σ hd → MX h1 b0 σ → Fr PQ h0 h1 → ((bfs (fre p bE bN M m) (gl x y f) k hd σ).1 < 0 → ∀ h2, Fr PQ h0 h2 → RunI X (d + 2) mX11_refuse [(2, 78), (0, 8)] sh pt h2 K) → (0 ≤ (bfs (fre p bE bN M m) (gl x y f) k hd σ).1 → ∀ h2, Fr PMP h0 h2 → h2 78 84 = (bfs (fre p bE bN M m) (gl x y f) k hd σ).2.2.2.2.2 (bfs (fre p bE bN M m) (gl x y f) k hd σ).1 → (∀ j, 0 ≤ j → j < (bfs (fre p bE bN M m) (gl x y f) k hd σ).2.2.2.2.2 (bfs (fre p bE bN M m) (gl x y f) k hd σ).1 → h2 123 j = mvs (bfs (fre p bE bN M m) (gl x y f) k hd σ).2 (bfs (fre p bE bN M m) (gl x y f) k hd σ).1 j) → K ((bfs (fre p bE bN M m) (gl x y f) k hd σ).2.2.2.2.2 (bfs (fre p bE bN M m) (gl x y f) k hd σ).1) h2) → EvI X (d + 3) mX11_path 136 [(2, 78), (0, m), (0, x), (0, y), (0, f), (0, b0), (0, σ.1), (0, -1), (0, hd), (8, -1), (8, -1), (8, -1), (8, -1), (8, -1), (8, -1), (8, -1), (8, -1)] [] sh pt h1 K := by
  intro k
  induction k with
  | zero =>
    intro hd σ h1 e B
    have := bi_tail B
    have := B.2.2.2.2.2.2.2.1
    omega
  | succ k ih =>
    intro hd σ h1 e B mx f1 k0 k1
    have tl := bi_tail B
    have hh := B.1.2.2
    rw [bfs] at k0 k1
    by_cases c : σ.1 ≤ hd
    · rw [if_pos c] at k0
      exact b_X11_path_136 hst ⟨fun _ => ⟨fun q => absurd q (by decide), fun _ => k0 (show (-1 : Int) < 0 by decide) h1 f1⟩, fun q => absurd q (by omega)⟩
    · have hl : hd < σ.1 := by omega
      have gv := B.2.1 hd hh hl
      have eq : h1 122 hd = σ.2.1 hd := mx.1 hd hh hl
      rw [if_neg c] at k0 k1
      refine b_X11_path_136 hst ⟨fun q => absurd q (by omega), fun _ => ⟨fun q => absurd q (by decide), fun _ => ⟨⟨hh, by omega⟩, ?_⟩⟩⟩
      rw [eq]
      refine ⟨gv.1.1, by omega, gv.1.1, by omega, ?_⟩
      have more : ¬ gl x y f (σ.2.1 hd) → EvI X (d + 3) mX11_path 212 [(2, 78), (0, m), (0, x), (0, y), (0, f), (0, b0), (0, σ.1), (0, -1), (0, hd), (0, σ.2.1 hd), (0, σ.2.1 hd / 8 / 40), (0, σ.2.1 hd / 8 % 40), (0, 0), (8, -1), (8, -1), (8, -1), (8, -1)] [] sh pt h1 K := fun ng => by
        rw [cif_f ng] at k0 k1
        have s0 := bi_vis (k := 0) fre_g B hl (by decide) (by decide)
        refine m_try (h := h1) (k := 0) hst hM M0 M1 m0 m1 hb hp B hl f1 mx (by decide) (by decide) (fun h2 f2 x2 => ?_)
        generalize e0 : vis (nx (fre p bE bN M m) (σ.2.1 hd) 0) 0 (σ.2.1 hd) σ = σ0 at s0 x2 ⊢
        have hl0 : hd < σ0.1 := by have := s0.2.2.1; omega
        have q0 : σ0.2.1 hd = σ.2.1 hd := s0.2.1 hd hh hl
        have s1 := bi_vis (k := 1) fre_g s0.1 hl0 (by decide) (by decide)
        have t1 := m_try (X := X) (d := d) (h := h2) (k := 1) (K := K) (x := x) (y := y) (f := f) hst hM M0 M1 m0 m1 hb hp s0.1 hl0 f2 x2 (by decide) (by decide)
        rw [q0] at s1 t1
        refine t1 (fun h3 f3 x3 => ?_)
        generalize e1 : vis (nx (fre p bE bN M m) (σ.2.1 hd) 1) 1 (σ.2.1 hd) σ0 = σ1 at s1 x3 ⊢
        have hl1 : hd < σ1.1 := by have := s1.2.2.1; omega
        have q1 : σ1.2.1 hd = σ.2.1 hd := by rw [s1.2.1 hd hh hl0, q0]
        have t2 := m_try (X := X) (d := d) (h := h3) (k := 2) (K := K) (x := x) (y := y) (f := f) hst hM M0 M1 m0 m1 hb hp s1.1 hl1 f3 x3 (by decide) (by decide)
        rw [q1] at t2
        refine t2 (fun h4 f4 x4 => ?_)
        have ee : exS (fre p bE bN M m) (σ.2.1 hd) σ = vis (nx (fre p bE bN M m) (σ.2.1 hd) 2) 2 (σ.2.1 hd) σ1 := by unfold exS; rw [e0, e1]
        rw [← ee] at x4 ⊢
        refine b_X11_path_212 hst ⟨fun _ => ⟨⟨by omega, by omega⟩, ?_⟩, fun q => absurd q (by decide)⟩
        exact ih (hd + 1) _ h4 (by omega) (bi_ex fre_g B hl) x4 f4 k0 k1
      have found : gl x y f (σ.2.1 hd) → EvI X (d + 3) mX11_path 212 [(2, 78), (0, m), (0, x), (0, y), (0, f), (0, b0), (0, σ.1), (0, σ.2.1 hd), (0, hd), (0, σ.2.1 hd), (0, σ.2.1 hd / 8 / 40), (0, σ.2.1 hd / 8 % 40), (0, 0), (8, -1), (8, -1), (8, -1), (8, -1)] [] sh pt h1 K := fun yg => by
        rw [cif_t yg] at k0 k1
        have fin := m_back (X := X) (d := d + 2) (sh := sh) (pt := pt) (h := h1) (K := K) (h0 := h0) hst fre_g B hl (path_bd fre_g B hl nf) (f1.wk (fun a i q => by unfold PQ at q; unfold PMP; omega)) mx (fun h2 f2 g2 g3 => k1 gv.1.1 h2 f2 g2 g3)
        refine b_X11_path_212 hst ⟨fun q => absurd q (by decide), fun _ => ⟨fun _ => ⟨⟨by omega, by omega⟩, ?_⟩, fun q => absurd q (by omega)⟩⟩
        exact b_X11_path_136 hst ⟨fun _ => ⟨fun _ => fin, fun q => absurd q (by omega)⟩, fun _ => ⟨fun _ => ⟨fun _ => fin, fun q => absurd q (by omega)⟩, fun q => absurd q (by omega)⟩⟩
      refine ⟨fun q => more (fun z => q z.1), fun q => ⟨fun q2 => more (fun z => q2 z.2.1), fun q2 => ⟨fun q3 => found ⟨q, q2, Or.inl q3⟩, fun q3 => ⟨gv.1.1, fun q4 => more (fun z => ?_), fun q4 => found ⟨q, q2, Or.inr q4⟩⟩⟩⟩⟩
      rcases z.2.2 with z | z
      · exact q3 z
      · exact q4 z
theorem m_path {K : Int → qM → Prop} {x y f b0 : Int} {bF : Int → Int} (hst : St sh pt) (hM : h 78 7 = M) (M0 : 0 ≤ M) (M1 : M ≤ 20) (hb : ∀ k, 0 ≤ k → k < M → h 82 k = bE k ∧ h 83 k = bN k ∧ h 84 k = bF k ∧ (0 ≤ bE k ∧ bE k < 60 ∧ 0 ≤ bN k ∧ bN k < 40 ∧ 0 ≤ bF k ∧ bF k < 8)) (hp : ∀ e n, 0 ≤ e → e < 60 → 0 ≤ n → n < 40 → h 86 (40 * e + n) = p e n) (nf : 0 ≤ m → m < M → NT (fun w => ¬ flP (fre p bE bN M m) w) 1200 ≤ 49) (eb : b0 = 8 * (40 * bE m + bN m) + bF m)
    (k : ∀ r s, (r, s) = pathF (fre p bE bN M m) b0 M m x y f → ∀ h1, Fr PMP (ms h s) h1 → (s = 0 → h1 78 84 = r ∧ ∀ j, 0 ≤ j → j < r → h1 123 j = mvs (pth (fre p bE bN M m) b0 x y f).2 (pth (fre p bE bN M m) b0 x y f).1 j) → (s ≠ 0 → h1 78 84 = h 78 84 ∧ ∀ j, h1 123 j = h 123 j) → K r h1) : RunI X (d + 3) mX11_path [(2, 78), (0, m), (0, x), (0, y), (0, f)] sh pt h K := by
  have un : ∀ s, ms h s 78 84 = h 78 84 ∧ ∀ j, ms h s 123 j = h 123 j := fun s => ⟨ms_of2 (by decide), fun j => ms_of (by decide)⟩
  have ref : ∀ s, (-1, s) = pathF (fre p bE bN M m) b0 M m x y f → s ≠ 0 → RunI X (d + 2) mX11_refuse [(2, 78), (0, s)] sh pt (ms h 0) K := fun s e ne => m_refuse hst (k _ _ e _ Fr.rf (fun z => absurd z ne) (fun _ => un s))
  refine b_X11_path hst (fun h1 e1 h2 e2 => ?_)
  have e3 : h2 = ms h 0 := by rw [e2, e1]; rfl
  subst e3
  have hM2 : ms h 0 78 7 = M := by rw [ms_of2 (by decide)]; exact hM
  have r5 : ¬ ((0 ≤ x ∧ x < 60 ∧ 0 ≤ y ∧ y < 40) ∧ (f = -1 ∨ (0 ≤ f ∧ f < 8))) → 0 ≤ m → m < M → RunI X (d + 2) mX11_refuse [(2, 78), (0, 5)] sh pt (ms h 0) K := fun q a b => ref 5 (by rw [pathF, if_neg (by omega), if_pos q]) (by decide)
  have go : 0 ≤ m → m < M → (0 ≤ x ∧ x < 60 ∧ 0 ≤ y ∧ y < 40) → (f = -1 ∨ (0 ≤ f ∧ f < 8)) → EvI X (d + 3) mX11_path 60 [(2, 78), (0, m), (0, x), (0, y), (0, f), (0, 0), (8, -1), (8, -1), (8, -1), (8, -1), (8, -1), (8, -1), (8, -1), (8, -1), (8, -1), (8, -1), (8, -1)] [] sh pt (ms h 0) K := fun m0 m1 gx gf => by
    have ePF : pathF (fre p bE bN M m) b0 M m x y f = if (pth (fre p bE bN M m) b0 x y f).1 < 0 then (-1, 8) else ((pth (fre p bE bN M m) b0 x y f).2.2.2.2.2 (pth (fre p bE bN M m) b0 x y f).1, 0) := by rw [pathF, if_neg (by omega), if_neg (by omega)]
    rw [ePF] at k
    have zm := hb m m0 m1
    refine lp (σ := qM) (J := fun i h2 => Fr PQ (ms h 0) h2 ∧ ∀ t, 0 ≤ t → t < i → h2 120 t = -1) (C := fun i h2 => EvI X (d + 3) mX11_path 60 [(2, 78), (0, m), (0, x), (0, y), (0, f), (0, i), (8, -1), (8, -1), (8, -1), (8, -1), (8, -1), (8, -1), (8, -1), (8, -1), (8, -1), (8, -1), (8, -1)] [] sh pt h2 K) (n := 19200) (by decide) ?_ ?_ (ms h 0) ⟨Fr.rf, fun t a b => absurd a (by omega)⟩
    · intro i h2 i0 i1 ⟨f2, j2⟩ kk
      refine b_X11_path_60 hst ⟨fun q => absurd q (by omega), fun _ => ⟨⟨i0, i1⟩, fun h3 e3 => ⟨⟨by omega, by omega⟩, kk h3 ⟨by rw [e3]; exact f2.up (Or.inl rfl), fun t a b => ?_⟩⟩⟩⟩
      by_cases e : t = i
      · rw [e, e3, qup_at]
      · rw [e3, qup_of (by omega)]; exact j2 t a (by omega)
    · intro h2 ⟨f2, j2⟩
      have a1 : h2 82 m = bE m := by rw [f2 _ _ (by unfold PQ; omega), ms_of (by decide)]; exact zm.1
      have a2 : h2 83 m = bN m := by rw [f2 _ _ (by unfold PQ; omega), ms_of (by decide)]; exact zm.2.1
      have a3 : h2 84 m = bF m := by rw [f2 _ _ (by unfold PQ; omega), ms_of (by decide)]; exact zm.2.2.1
      refine b_X11_path_60 hst ⟨fun _ => ?_, fun q => absurd q (by decide)⟩
      rw [a1, a2, a3]
      refine ⟨by omega, ⟨by omega, by omega⟩, by omega, ⟨by omega, by omega⟩, ⟨by omega, by omega⟩, by omega, ⟨by omega, by omega⟩, fun v ev => ?_⟩
      have ev2 : v = b0 := by omega
      rw [ev2]
      refine ⟨by omega, fun h6 e6 h7 e7 => ?_⟩
      have fs : frs (fre p bE bN M m) b0 := by
        unfold frs
        rw [show b0 / 8 / 40 = bE m by omega, show b0 / 8 % 40 = bN m by omega]
        exact ⟨by omega, Or.inl ⟨rfl, rfl⟩⟩
      have mx : MX h7 b0 (sg0 b0) := by
        unfold sg0
        refine ⟨fun i a b => ?_, fun t a b => ?_⟩
        · dsimp only at b ⊢
          rw [show i = 0 by omega, e7, qup_at, rup_at]
        · dsimp only
          by_cases e : t = b0
          · rw [e, rup_at, rup_at, e7, e6, qup_of (by omega), qup_at]
            exact ⟨fun q => absurd q (by decide), fun _ => rfl, fun _ q => absurd rfl q⟩
          · rw [rup_of e, rup_of e, e7, e6, qup_of (by omega), qup_of (by omega)]
            exact ⟨fun _ => j2 t a b, fun q => absurd rfl q, fun q => absurd rfl q⟩
      have f7 : Fr PQ (ms h 0) h7 := by rw [e7, e6]; exact (f2.up (Or.inl rfl)).up (Or.inr (Or.inr rfl))
      refine m_path_l hst hM2 M0 M1 m0 m1 (fun k a b => by rw [ms_of (by decide), ms_of (by decide)]; have := hb k a b; exact ⟨this.1, this.2.1⟩) (fun e n a b c q => by rw [ms_of (by decide)]; exact hp e n a b c q) (nf m0 m1) 19201 0 (sg0 b0) h7 (by decide) (bi_0 (by omega) (by omega) fs) mx f7 (fun q h8 f8 => b_X11_refuse hst (fun h9 e9 => ?_)) (fun q h8 f8 g8 g9 => ?_)
      · rw [e9]
        refine k _ _ (by rw [show (pth (fre p bE bN M m) b0 x y f).1 = (bfs (fre p bE bN M m) (gl x y f) 19201 0 (sg0 b0)).1 from rfl, if_pos q]) _ (ms_fr (f8.wk (fun a i q => by unfold PQ at q; unfold PMP; omega))) (fun z => absurd z (by decide)) (fun _ => ⟨?_, fun j => ?_⟩)
        · rw [qup_of (by omega), f8 _ _ (by unfold PQ; omega), ms_of2 (by decide)]
        · rw [qup_of (by omega), f8 _ _ (by unfold PQ; omega), ms_of (by decide)]
      · exact k _ _ (by rw [show (pth (fre p bE bN M m) b0 x y f).1 = (bfs (fre p bE bN M m) (gl x y f) 19201 0 (sg0 b0)).1 from rfl, if_neg (by omega)]; rfl) _ f8 (fun _ => ⟨g8, g9⟩) (fun z => absurd rfl z)
  refine b_X11_isMarcher hst ?_
  rw [hM2]
  refine ⟨⟨by omega, by omega⟩, b_X11_isIn hst ⟨fun a => ⟨by decide, fun z => absurd rfl z, fun _ => ref 2 (by rw [pathF, if_pos (by omega)]) (by decide)⟩, fun a => ⟨fun b => ⟨by decide, fun z => absurd rfl z, fun _ => ref 2 (by rw [pathF, if_pos (by omega)]) (by decide)⟩, fun b => ⟨by decide, fun _ => b_X11_isSpot hst (b_X11_isIn hst ⟨fun c1 => ⟨fun _ => ⟨fun _ => r5 (by omega) a (by omega), fun z => absurd rfl z⟩, fun z => absurd rfl z⟩, fun c1 => ⟨fun c2 => ⟨fun _ => ⟨fun _ => r5 (by omega) a (by omega), fun z => absurd rfl z⟩, fun z => absurd rfl z⟩, fun c2 => ⟨fun z => absurd z (by decide), fun _ => b_X11_isIn hst ⟨fun c3 => ⟨fun _ => ⟨fun _ => r5 (by omega) a (by omega), fun z => absurd rfl z⟩, fun z => absurd rfl z⟩, fun c3 => ⟨fun c4 => ⟨fun _ => ⟨fun _ => r5 (by omega) a (by omega), fun z => absurd rfl z⟩, fun z => absurd rfl z⟩, fun c4 => ⟨fun z => absurd z (by decide), fun _ => ⟨fun z => absurd z (by decide), fun _ => ⟨fun c5 => go a (by omega) (by omega) (Or.inl c5), fun c5 => b_X11_isIn hst ⟨fun c6 => ⟨fun z => absurd rfl z, fun _ => r5 (by omega) a (by omega)⟩, fun c6 => ⟨fun c7 => ⟨fun z => absurd rfl z, fun _ => r5 (by omega) a (by omega)⟩, fun c7 => ⟨fun _ => go a (by omega) (by omega) (Or.inr (by omega)), fun z => absurd z (by decide)⟩⟩⟩⟩⟩⟩⟩⟩⟩⟩⟩), fun z => absurd z (by decide)⟩⟩⟩⟩
def moveF (pm : Int) (f : Int → Int) (v : Int) : Int × Int := if 0 ≤ v ∧ v < pm then (f v, 0) else (-1, 8)
theorem m_move {K : Int → qM → Prop} {v pm : Int} {f : Int → Int} (hst : St sh pt) (hm : h 78 84 = pm) (p0 : -1 ≤ pm) (p1 : pm ≤ 2400) (hf : ∀ j, 0 ≤ j → j < pm → h 123 j = f j) (k : ∀ r s, (r, s) = moveF pm f v → K r (ms h s)) : RunI X (d + 1) mX11_move [(2, 78), (0, v)] sh pt h K := by
  refine b_X11_move hst (fun h1 e1 h2 e2 => ?_)
  have e3 : h2 = ms h 0 := by rw [e2, e1]; rfl
  subst e3
  rw [show ms h 0 78 84 = pm by rw [ms_of2 (by decide)]; exact hm]
  refine ⟨⟨by omega, by omega⟩, b_X11_isIn hst ⟨fun a => ⟨fun _ => m_refuse hst (k _ _ (by rw [moveF, if_neg (by omega)])), fun z => absurd rfl z⟩, fun a => ⟨fun b => ⟨fun _ => m_refuse hst (k _ _ (by rw [moveF, if_neg (by omega)])), fun z => absurd rfl z⟩, fun b => ⟨fun z => absurd z (by decide), fun _ => ⟨by omega, ?_⟩⟩⟩⟩⟩
  rw [ms_of (by decide), hf v a (by omega)]
  exact k _ _ (by rw [moveF, if_pos (by omega)])
theorem x_move0 {K : Int → qM → Prop} {v : Int} {f : Int → Int} (hst : St sh pt) (hn : pt 28 1 = -1) (k : ∀ r s, (r, s) = moveF (-1) f v → K r (qup h 0 12 s)) : RunI X (d + 1) mX10_move [(2, 0), (0, v)] sh pt h K := by
  refine b_X10_move hst (b_X9_moveAt hst ⟨fun _ => ⟨fun z => absurd rfl z, fun _ => b_X10_none hst (fun h1 e1 => ?_)⟩, fun q => absurd hn q⟩)
  rw [e1]
  exact k _ _ (by rw [moveF, if_neg (by omega)])
theorem x_move1 {K : Int → qM → Prop} {v pm : Int} {f : Int → Int} (hst : St sh pt) (hsw : Sw sh pt) (hm : h 28 0 = pm) (p1 : pm ≤ 2400) (hf : ∀ j, 0 ≤ j → j < pm → h 138 j = f j ∧ 0 ≤ f j) (k : ∀ r s, (r, s) = moveF pm f v → K r (qup h 0 12 s)) : RunI X (d + 1) mX10_move [(2, 0), (0, v)] sh pt h K := by
  have no : ¬ (0 ≤ v ∧ v < pm) → ((¬ (-1 : Int) = -1 → RunI X d mX10_answer [(2, 0), (0, -1)] sh pt h (fun r4 h3 => K r4 h3)) ∧ ((-1 : Int) = -1 → RunI X d mX10_none [(2, 0), (0, 8)] sh pt h (fun r6 h5 => K r6 h5))) := fun q => ⟨fun z => absurd rfl z, fun _ => b_X10_none hst (fun h1 e1 => by rw [e1]; exact k _ _ (by rw [moveF, if_neg q]))⟩
  have e9 := pw_1 hsw
  refine b_X10_move hst (b_X9_moveAt hst ?_)
  rw [e9]
  refine ⟨fun q => absurd q (by decide), fun _ => ⟨fun a => no (by omega), fun a => ⟨fun b => ⟨19200, sw_138 hsw, ⟨a, by omega⟩, ?_⟩, fun b => no (by omega)⟩⟩⟩
  have z := hf v a (by omega)
  rw [z.1]
  refine ⟨fun _ => b_X10_answer hst (fun h1 e1 => ?_), fun q => absurd q (by omega)⟩
  rw [e1]
  exact k _ _ (by rw [moveF, if_pos (by omega)])
end
