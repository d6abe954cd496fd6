/-! PATHS: the reference -/
section
variable {X : qX} {d : Nat} {sh : qS} {pt h : qM} {p : Int → Int → Int} {bE bN : Int → Int} {M m : Int}
theorem m_isFree {K : Int → qM → Prop} {e n : Int} (hst : St sh pt) (hM : h 78 7 = M) (M0 : 0 ≤ M) (M1 : M ≤ 20) (m0 : 0 ≤ m) (m1 : m < M) (hb : ∀ k, 0 ≤ k → k < M → h 82 k = bE k ∧ h 83 k = bN k) (hp : ∀ e n, 0 ≤ e → e < 60 → 0 ≤ n → n < 40 → h 86 (40 * e + n) = p e n) (k1 : fre p bE bN M m e n → K 1 h) (k0 : ¬ fre p bE bN M m e n → K 0 h) : RunI X (d + 2) mX11_isFree [(2, 78), (0, m), (0, e), (0, n)] sh pt h K := by
  have zb := hb m m0 m1
  have og : ¬ (0 ≤ e ∧ e < 60 ∧ 0 ≤ n ∧ n < 40) → ((¬ (0 : Int) = 0 → (0 ≤ m ∧ m < 20) ∧ ((¬ e = (h 82 m) → (qI (40 * e)) ∧ (qI ((40 * e) + n)) ∧ (0 ≤ ((40 * e) + n) ∧ ((40 * e) + n) < 2400) ∧ (((h 86 ((40 * e) + n)) = 0 → EvI X (d + 1 + 1) mX11_isFree 51 [(2, 78), (0, m), (0, e), (0, n), (0, 0)] [] sh pt h K) ∧ (¬ (h 86 ((40 * e) + n)) = 0 → K 0 h))) ∧ (e = (h 82 m) → (0 ≤ m ∧ m < 20) ∧ ((¬ n = (h 83 m) → (qI (40 * e)) ∧ (qI ((40 * e) + n)) ∧ (0 ≤ ((40 * e) + n) ∧ ((40 * e) + n) < 2400) ∧ (((h 86 ((40 * e) + n)) = 0 → EvI X (d + 1 + 1) mX11_isFree 51 [(2, 78), (0, m), (0, e), (0, n), (0, 0)] [] sh pt h K) ∧ (¬ (h 86 ((40 * e) + n)) = 0 → K 0 h))) ∧ (n = (h 83 m) → K 1 h))))) ∧ ((0 : Int) = 0 → K 0 h)) := fun q => ⟨fun z => absurd rfl z, fun _ => k0 (fun w => q w.1)⟩
  have loop : 0 ≤ e ∧ e < 60 ∧ 0 ≤ n ∧ n < 40 → ¬ (e = bE m ∧ n = bN m) → p e n = 0 → EvI X (d + 1 + 1) mX11_isFree 51 [(2, 78), (0, m), (0, e), (0, n), (0, 0)] [] sh pt h K := fun gr ne np => by
    refine lp (σ := Unit) (J := fun i _ => ∀ j, 0 ≤ j → j < i → j ≠ m → ¬ (bE j = e ∧ bN j = n)) (C := fun i _ => EvI X (d + 2) mX11_isFree 51 [(2, 78), (0, m), (0, e), (0, n), (0, i)] [] sh pt h K) (n := M) M0 ?_ ?_ () (fun j a b => absurd a (by omega))
    · intro i _ i0 i1 jj kk
      have zi := hb i i0 i1
      have nxt : (i ≠ m → ¬ (bE i = e ∧ bN i = n)) → EvI X (d + 2) mX11_isFree 51 [(2, 78), (0, m), (0, e), (0, n), (0, i + 1)] [] sh pt h K := fun q => kk () (fun j a b c => by
        by_cases w : j = i
        · rw [w] at c ⊢; exact q c
        · exact jj j a (by omega) c)
      refine b_X11_isFree_51 hst ⟨fun q => absurd q (by omega), fun _ => ⟨fun q => ⟨⟨by omega, by omega⟩, nxt (fun z => absurd q z)⟩, fun q => ⟨by omega, ?_⟩⟩⟩
      rw [zi.1, zi.2]
      exact ⟨fun q2 => ⟨⟨by omega, by omega⟩, nxt (fun _ z => q2 z.1)⟩, fun q2 => ⟨by omega, fun q3 => ⟨⟨by omega, by omega⟩, nxt (fun _ z => q3 z.2)⟩, fun q3 => k0 (fun w => by
        rcases w.2 with w | w
        · exact ne w
        · exact w.2 i i0 i1 q ⟨q2, q3⟩)⟩⟩
    · intro _ jj
      exact b_X11_isFree_51 hst ⟨fun _ => k1 ⟨gr, Or.inr ⟨np, jj⟩⟩, fun q => absurd q (by omega)⟩
  refine b_X11_isFree hst (b_X11_isSpot hst (b_X11_isIn hst ⟨fun a => ⟨fun _ => og (by omega), fun z => absurd rfl z⟩, fun a => ⟨fun b => ⟨fun _ => og (by omega), fun z => absurd rfl z⟩, fun b => ⟨fun z => absurd z (by decide), fun _ => b_X11_isIn hst ⟨fun c => ⟨fun _ => og (by omega), fun z => absurd rfl z⟩, fun c => ⟨fun f => ⟨fun _ => og (by omega), fun z => absurd rfl z⟩, fun f => ⟨fun z => absurd z (by decide), fun _ => ⟨fun _ => ?_, fun z => absurd z (by decide)⟩⟩⟩⟩⟩⟩⟩))
  have gr : 0 ≤ e ∧ e < 60 ∧ 0 ≤ n ∧ n < 40 := by omega
  rw [zb.1, zb.2, hp e n gr.1 gr.2.1 gr.2.2.1 gr.2.2.2]
  have last : ¬ (e = bE m ∧ n = bN m) → (qI (40 * e)) ∧ (qI ((40 * e) + n)) ∧ (0 ≤ ((40 * e) + n) ∧ ((40 * e) + n) < 2400) ∧ ((p e n = 0 → EvI X (d + 1 + 1) mX11_isFree 51 [(2, 78), (0, m), (0, e), (0, n), (0, 0)] [] sh pt h K) ∧ (¬ p e n = 0 → K 0 h)) := fun ne => ⟨⟨by omega, by omega⟩, ⟨by omega, by omega⟩, by omega, fun np => loop gr ne np, fun np => k0 (fun w => by
    rcases w.2 with w | w
    · exact ne w
    · exact np w.1)⟩
  exact ⟨by omega, fun q => last (fun z => q z.1), fun q => ⟨by omega, fun q2 => last (fun z => q2 z.2), fun q2 => k1 ⟨gr, Or.inl ⟨q, q2⟩⟩⟩⟩
def PQ (a _ : Int) : Prop := a = 120 ∨ a = 121 ∨ a = 122
def MX (h : qM) (b0 : Int) (σ : bq) : Prop := (∀ i, 0 ≤ i → i < σ.1 → h 122 i = σ.2.1 i) ∧ ∀ t, 0 ≤ t → t < 19200 → (σ.2.2.1 t = 0 → h 120 t = -1) ∧ (σ.2.2.1 t ≠ 0 → h 120 t = σ.2.2.2.1 t) ∧ (σ.2.2.1 t ≠ 0 → t ≠ b0 → h 121 t = σ.2.2.1 t - 1)
theorem mx_vis {b0 t k s : Int} {σ : bq} (mx : MX h b0 σ) (t0 : 0 ≤ t) (t1 : t < 19200) (c0 : σ.2.2.1 t = 0) (ta : 0 ≤ σ.1) (k0 : 0 ≤ k) : MX (qup (qup (qup h 120 t s) 121 t k) 122 σ.1 t) b0 (vis t k s σ) := by
  rw [vis_y t0 c0]
  refine ⟨fun i i0 i1 => ?_, fun u u0 u1 => ?_⟩
  · dsimp only at i1 ⊢
    by_cases e : i = σ.1
    · rw [e, qup_at, rup_at]
    · rw [qup_of (by omega), qup_of (by omega), qup_of (by omega), rup_of e]
      exact mx.1 i i0 (by omega)
  · dsimp only
    by_cases e : u = t
    · rw [e, rup_at, rup_at, qup_of (by omega), qup_of (by omega), qup_at, qup_of (by omega), qup_at]
      exact ⟨fun q => absurd q (by omega), fun _ => rfl, fun _ _ => by omega⟩
    · rw [rup_of e, rup_of e, qup_of (by omega), qup_of (by omega), qup_of (by omega), qup_of (by omega), qup_of (by omega), qup_of (by omega)]
      exact mx.2 u u0 u1

def pbk (h : qM) (K : Int → qM → Prop) (X : qX) (d : Nat) (sh : qS) (pt : qM) (m x y f b0 tl hd s k : Int) : Prop := EvI X d mX11_path 212 [(2, 78), (0, m), (0, x), (0, y), (0, f), (0, b0), (0, tl), (0, -1), (0, hd), (0, s), (0, s / 8 / 40), (0, s / 8 % 40), (0, k), (8, -1), (8, -1), (8, -1), (8, -1)] [] sh pt h K
theorem m_try {K : Int → qM → Prop} {x y f b0 hd k : Int} {σ : bq} {h0 : qM} (hst : St sh pt) (hM : h0 78 7 = M) (M0 : 0 ≤ M) (M1 : M ≤ 20) (m0 : 0 ≤ m) (m1 : m < M) (hb : ∀ k, 0 ≤ k → k < M → h0 82 k = bE k ∧ h0 83 k = bN k) (hp : ∀ e n, 0 ≤ e → e < 60 → 0 ≤ n → n < 40 → h0 86 (40 * e + n) = p e n) (B : BI (fre p bE bN M m) b0 σ hd) (hl : hd < σ.1) (f0 : Fr PQ h0 h) (mx : MX h b0 σ) (k0 : 0 ≤ k) (k1 : k < 3) (kk : ∀ h1, Fr PQ h0 h1 → MX h1 b0 (vis (nx (fre p bE bN M m) (σ.2.1 hd) k) k (σ.2.1 hd) σ) → pbk h1 K X (d + 3) sh pt m x y f b0 (vis (nx (fre p bE bN M m) (σ.2.1 hd) k) k (σ.2.1 hd) σ).1 hd (σ.2.1 hd) (k + 1)) : pbk h K X (d + 3) sh pt m x y f b0 σ.1 hd (σ.2.1 hd) k := by
  have gv := B.2.1 hd B.1.2.2 hl
  have fs := (B.2.2.1 _ gv.1.1 gv.1.2 gv.2).1.1
  have tl := B.1.2.1
  have tm := bi_tail B
  generalize es : σ.2.1 hd = s at *
  have hM2 : h 78 7 = M := by rw [f0 _ _ (by unfold PQ; omega)]; exact hM
  have hb2 : ∀ k, 0 ≤ k → k < M → h 82 k = bE k ∧ h 83 k = bN k := fun k a b => by rw [f0 _ _ (by unfold PQ; omega), f0 _ _ (by unfold PQ; omega)]; exact hb k a b
  have hp2 : ∀ e n, 0 ≤ e → e < 60 → 0 ≤ n → n < 40 → h 86 (40 * e + n) = p e n := fun e n a b c q => by rw [f0 _ _ (by unfold PQ; omega)]; exact hp e n a b c q
  have st := qst_bd (f := s % 8) (by omega) (by omega)
  have fin : ∀ e n u0 u1 : Int, qI (u1 + u0) → (¬ fre p bE bN M m e n → nx (fre p bE bN M m) s k = -1) → (fre p bE bN M m e n → u1 + u0 = nx (fre p bE bN M m) s k ∧ 0 ≤ nx (fre p bE bN M m) s k) → EvI X (d + 3) mX11_path 315 [(2, 78), (0, m), (0, x), (0, y), (0, f), (0, b0), (0, σ.1), (0, -1), (0, hd), (0, s), (0, s / 8 / 40), (0, s / 8 % 40), (0, k), (8, -1), (0, e), (0, n), (8, -1)] [(0, u0), (0, u1)] sh pt h K := fun e n u0 u1 qi nf yf => by
    refine b_X11_path_315 hst ⟨qi, m_isFree hst hM2 M0 M1 m0 m1 hb2 hp2 (fun fe => ⟨fun z => absurd z (by decide), fun _ => ?_⟩) (fun fe => ⟨fun _ => ⟨⟨by omega, by omega⟩, ?_⟩, fun z => absurd rfl z⟩)⟩
    · have en := yf fe
      rw [en.1]
      have ok : 0 ≤ nx (fre p bE bN M m) s k ∧ nx (fre p bE bN M m) s k < 19200 := (nx_ok fre_g gv.1.1 gv.1.2 fs k0 k1 en.2).1
      generalize et : nx (fre p bE bN M m) s k = t at *
      have mt := mx.2 t ok.1 ok.2
      refine ⟨ok, fun q => ⟨ok, fun h5 e5 => ⟨ok, fun h7 e7 => ?_⟩⟩, fun q => ⟨⟨by omega, by omega⟩, ?_⟩⟩
      · have c0 : σ.2.2.1 t = 0 := by
          by_cases c : σ.2.2.1 t = 0
          · exact c
          · have w := (B.2.2.1 t ok.1 ok.2 c).1.2.2
            have w2 := mt.2.1 c
            omega
        have rm := bi_room B ok.1 ok.2 c0
        refine ⟨⟨by omega, rm⟩, fun h9 e9 => ⟨⟨by omega, by omega⟩, ⟨by omega, by omega⟩, ?_⟩⟩
        have z := kk h9 (by rw [e9, e7, e5]; exact ((f0.up (Or.inl rfl)).up (Or.inr (Or.inl rfl))).up (Or.inr (Or.inr rfl))) (by rw [e9, e7, e5]; exact mx_vis mx ok.1 ok.2 c0 (by omega) k0)
        rw [vis_y ok.1 c0] at z
        exact z
      · have c0 : ¬ σ.2.2.1 t = 0 := fun c => by
          have := mt.1 c
          omega
        rw [vis_o ok.1 c0] at kk
        exact kk h f0 mx
    · rw [nf fe, vis_n (by decide)] at kk
      exact kk h f0 mx
  have fe0 : fre p bE bN M m (s / 8 / 40) (s / 8 % 40) := fs
  refine b_X11_path_212 hst ⟨fun q => absurd q (by omega), fun _ => ⟨fun q => absurd q (by decide), fun _ => ⟨gv.1.1, ?_⟩⟩⟩
  rcases k3 k0 k1 with w | w | w
  · subst w
    refine ⟨fun q => absurd rfl q, fun _ => ?_⟩
    have eE : ∀ K2 : Int → qM → Prop, K2 (qstE (s % 8)) h → RunI X (d + 2) mX11_eastOf [(0, s % 8)] sh pt h K2 := fun K2 k2 => by
      have f8 : 0 ≤ s % 8 ∧ s % 8 < 8 := by omega
      generalize s % 8 = g at *
      rcases w8 f8.1 f8.2 with rfl | rfl | rfl | rfl | rfl | rfl | rfl | rfl
      all_goals exact b_X11_eastOf hst ⟨fun q => by first | exact k2 | exact absurd q (by decide), fun q => ⟨fun q2 => ⟨fun q3 => by first | exact k2 | exact absurd q3 (by decide) | exact absurd rfl q2 | exact absurd rfl q, fun q3 => by first | exact k2 | exact absurd q3 (by decide) | exact absurd rfl q2 | exact absurd rfl q⟩, fun q2 => by first | exact k2 | exact absurd q2 (by decide)⟩⟩
    have eN : ∀ K2 : Int → qM → Prop, K2 (qstN (s % 8)) h → RunI X (d + 2) mX11_northOf [(0, s % 8)] sh pt h K2 := fun K2 k2 => by
      have f8 : 0 ≤ s % 8 ∧ s % 8 < 8 := by omega
      generalize s % 8 = g at *
      rcases w8 f8.1 f8.2 with rfl | rfl | rfl | rfl | rfl | rfl | rfl | rfl
      all_goals exact b_X11_northOf hst ⟨fun q => by first | exact k2 | exact absurd q (by decide), fun q => ⟨fun q2 => ⟨fun q3 => by first | exact k2 | exact absurd q3 (by decide) | exact absurd rfl q2 | exact absurd rfl q, fun q3 => ⟨fun q4 => by first | exact k2 | exact absurd q4 (by decide) | exact absurd rfl q2, fun q4 => by first | exact k2 | exact absurd q4 (by decide) | exact absurd q3 (by decide) | exact absurd rfl q2⟩⟩, fun q2 => by first | exact k2 | exact absurd q2 (by decide)⟩⟩
    refine eE _ ⟨⟨by omega, by omega⟩, fun q => absurd rfl q, fun _ => eN _ ⟨⟨by omega, by omega⟩, b_X11_path_268 hst ⟨⟨by omega, by omega⟩, ⟨by omega, by omega⟩, ⟨by omega, by omega⟩, fun q => absurd rfl q, fun _ => ?_⟩⟩⟩
    exact fin _ _ _ _ ⟨by omega, by omega⟩ (fun q => nx_n q) (fun q => ⟨(nx_f q).symm, by rw [nx_f q]; have := fre_g _ _ q; omega⟩)
  · subst w
    refine ⟨fun _ => ⟨fun _ => b_X11_path_268 hst ⟨⟨by omega, by omega⟩, ⟨by omega, by omega⟩, ⟨by omega, by omega⟩, fun _ => ⟨fun q => absurd rfl q, fun _ => ⟨⟨by omega, by omega⟩, by omega, ?_⟩⟩, fun q => absurd q (by decide)⟩, fun q => absurd q (by decide)⟩, fun q => absurd q (by decide)⟩
    exact fin _ _ _ _ ⟨by omega, by omega⟩ (fun q => absurd fe0 q) (fun _ => ⟨by rw [nx_1]; omega, by rw [nx_1]; omega⟩)
  · subst w
    refine ⟨fun _ => ⟨fun _ => b_X11_path_268 hst ⟨⟨by omega, by omega⟩, ⟨by omega, by omega⟩, ⟨by omega, by omega⟩, fun _ => ⟨fun q => ⟨⟨by omega, by omega⟩, by omega, ?_⟩, fun q => absurd q (by decide)⟩, fun q => absurd q (by decide)⟩, fun q => absurd q (by decide)⟩, fun q => absurd q (by decide)⟩
    exact fin _ _ _ _ ⟨by omega, by omega⟩ (fun q => absurd fe0 q) (fun _ => ⟨by rw [nx_2]; omega, by rw [nx_2]; omega⟩)
end
