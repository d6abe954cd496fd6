def same (E N : Int → Int → Int) (M t w u : Int) : Prop := ∀ j, 0 ≤ j → j < M → fig E N M t w j = fig E N M u 0 j
noncomputable def smB (E N : Int → Int → Int) (M t w u : Int) : Int := @ite _ (same E N M t w u) (Classical.propDecidable _) 1 0
theorem smB_t {E N : Int → Int → Int} {M t w u : Int} (h : same E N M t w u) : smB E N M t w u = 1 := if_pos h
theorem smB_f {E N : Int → Int → Int} {M t w u : Int} (h : ¬ same E N M t w u) : smB E N M t w u = 0 := if_neg h
noncomputable def lkO (E N : Int → Int → Int) (M t u : Int) : Int := fo (fun w a => if 0 ≤ a ∨ smB E N M t w u = 0 then a else w) 0 8 (-1)
theorem lkO_bd {E N : Int → Int → Int} {M t u : Int} : -1 ≤ lkO E N M t u ∧ lkO E N M t u < 8 := by
  refine fo_inv (fun _ a => -1 ≤ a ∧ a < 8) (fun w a w0 w1 q => ?_) (by decide) (by decide)
  by_cases e : 0 ≤ a ∨ smB E N M t w u = 0
  · rw [if_pos e]; exact q
  · rw [if_neg e]; omega
abbrev hid (E N : Int → Int → Int) (t x b m k : Int) : Prop := (E t m - x) * (N t k + b) = (N t m + b) * (E t k - x) ∧ N t k + b < N t m + b
def seI (E N : Int → Int → Int) (M t x b m : Int) : Int := fo (fun k a => if a = 0 ∨ hid E N t x b m k then 0 else 1) 0 M 1
def seO (E N : Int → Int → Int) (M t x b : Int) : Int := fo (fun m a => a + seI E N M t x b m) 0 M 0
theorem seI_01 {E N : Int → Int → Int} {M t x b m : Int} (M0 : 0 ≤ M) : seI E N M t x b m = 0 ∨ seI E N M t x b m = 1 := by
  refine fo_inv (fun _ a => a = 0 ∨ a = 1) (fun k a k0 k1 q => ?_) M0 (Or.inr rfl)
  by_cases e : a = 0 ∨ hid E N t x b m k
  · rw [if_pos e]; exact Or.inl rfl
  · rw [if_neg e]; exact Or.inr rfl
section
variable {X : qX} {d : Nat} {sh : qS} {pt h : qM} {c : Int} {E N F : Int → Int → Int} {T M : Int}
theorem x_layFigure {K : qM → Prop} {t w a : Int} (hst : St sh pt) (hc : isC c) (ha : a = c + 2 ∨ a = c + 3) (cr : crel h c E N F T M) (hM : h c 4 = M) (M0 : 0 ≤ M) (t0 : 0 ≤ t) (t1 : t ≤ T) (w0 : 0 ≤ w) (w1 : w < 8) (k : K (qrow h a (fo (fun m r => ins m.toNat r (ps (key E N M t w m))) 0 M (h a)))) : RunV X (d + 3) mX0_layFigure [(2, c), (2, a), (0, t), (0, w)] sh pt h K := by
  have b := cr.1
  have sa : qsh sh a = some (0, 20) := by
    rcases ha with e | e
    · rw [e]; exact sC1 hst hc
    · rw [e]; exact sC2 hst hc
  refine b_X0_layFigure hst hc sa ?_
  refine fo_loop (σ := Int × Int) (f := fun m s => (min s.1 (kX E N t w m), min s.2 (kY E N t w m))) (n := M) (a := (60, 60)) (fun m s => s.1 = fo (fun m a => min a (kX E N t w m)) 0 m 60 ∧ s.2 = fo (fun m a => min a (kY E N t w m)) 0 m 60) (fun m s => EvV X (d + 3) mX0_layFigure 11 [(2, c), (2, a), (0, t), (0, w), (0, s.1), (0, s.2), (0, m), (8, -1), (8, -1)] [] sh pt h K) ?_ M0 ⟨rfl, rfl⟩ ?_
  · intro m s m0 m1 j
    try dsimp only at j ⊢
    refine ⟨⟨?_, ?_⟩, fun kk => b_X0_layFigure_11 hst hc sa ⟨fun q => absurd q (by omega), fun _ => x_movedEast hst hc cr t0 t1 m0 m1 w0 w1 (x_min hst (x_movedNorth hst hc cr t0 t1 m0 m1 w0 w1 (x_min hst ⟨⟨by omega, by omega⟩, kk⟩)))⟩⟩
    · rw [j.1]
      exact (fo_snoc (f := fun m a => min a (kX E N t w m)) m0).symm
    · rw [j.2]
      exact (fo_snoc (f := fun m a => min a (kY E N t w m)) m0).symm
  · intro j
    try dsimp only at j ⊢
    rw [j.1, j.2]
    refine b_X0_layFigure_11 hst hc sa ⟨fun _ => ?_, fun q => absurd q (by omega)⟩
    have e0 : h = qrow h a (h a) := qrow_id.symm
    suffices z : EvV X (d + 3) mX0_layFigure 59 [(2, c), (2, a), (0, t), (0, w), (0, lo (kX E N t w) M), (0, lo (kY E N t w) M), (0, 0), (8, -1), (8, -1)] [] sh pt (qrow h a (h a)) K by
      rw [← e0] at z
      exact z
    refine fo_loop (f := fun m r => ins m.toNat r (ps (key E N M t w m))) (n := M) (fun m r => True) (fun m r => EvV X (d + 3) mX0_layFigure 59 [(2, c), (2, a), (0, t), (0, w), (0, lo (kX E N t w) M), (0, lo (kY E N t w) M), (0, m), (8, -1), (8, -1)] [] sh pt (qrow h a r) K) ?_ M0 trivial ?_
    · intro m r m0 m1 _
      have z1 := key_ok (t := t) (w := w) (m := m) M0 (cr_en cr t0 t1) w0 w1 m0 m1
      have z2 := key_vk (t := t) (w := w) (m := m) M0 (cr_en cr t0 t1) w0 w1 m0 m1
      have cr2 : crel (qrow h a r) c E N F T M := cr_row cr (by omega)
      refine ⟨trivial, fun kk => b_X0_layFigure_59 hst hc sa ⟨fun q => absurd q (by rw [qrow_of (by omega)]; omega), fun _ => x_movedEast hst hc cr2 t0 t1 m0 m1 w0 w1 ⟨⟨by omega, by omega⟩, x_movedNorth hst hc cr2 t0 t1 m0 m1 w0 w1 ⟨⟨by omega, by omega⟩, ⟨by omega, by omega⟩, ⟨by omega, by omega⟩, b_X0_insert hst sa ?_⟩⟩⟩⟩
      rw [← z2.2, show m = ((m.toNat : Nat) : Int) by omega]
      refine x_insert hst sa m.toNat r (by omega) (by decide) ⟨⟨by omega, by omega⟩, ?_⟩
      rw [show ((m.toNat : Nat) : Int) = m by omega]
      exact kk
    · intro _
      exact b_X0_layFigure_59 hst hc sa ⟨fun _ => k, fun q => absurd q (by rw [qrow_of (by omega)]; omega)⟩
theorem x_sameFigure {K : Int → qM → Prop} (hst : St sh pt) (hc : isC c) (hM : h c 4 = M) (M0 : 0 ≤ M) (M1 : M ≤ 20) (k1 : (∀ j, 0 ≤ j → j < M → h (c + 2) j = h (c + 3) j) → K 1 h) (k0 : ¬ (∀ j, 0 ≤ j → j < M → h (c + 2) j = h (c + 3) j) → K 0 h) : RunI X d mX0_sameFigure [(2, c)] sh pt h K := by
  refine b_X0_sameFigure hst hc ?_
  have z : ∀ (k : Nat) (i : Int), 0 ≤ i → i + k = M → (∀ j, 0 ≤ j → j < i → h (c + 2) j = h (c + 3) j) → EvI X d mX0_sameFigure 2 [(2, c), (0, i)] [] sh pt h K := by
    intro k
    induction k with
    | zero =>
      intro i i0 e q
      exact b_X0_sameFigure_2 hst hc ⟨fun _ => k1 (fun j a b => q j a (by omega)), fun q => absurd q (by omega)⟩
    | succ k ih =>
      intro i i0 e q
      refine b_X0_sameFigure_2 hst hc ⟨fun q => absurd q (by omega), fun _ => ⟨⟨by omega, by omega⟩, ⟨by omega, by omega⟩, fun q2 => ⟨⟨by omega, by omega⟩, ih (i + 1) (by omega) (by omega) (fun j a b => ?_)⟩, fun q2 => k0 (fun z => q2 (z i i0 (by omega)))⟩⟩
      by_cases e2 : j = i
      · rw [e2]; exact q2
      · exact q j a (by omega)
  exact z M.toNat 0 (by decide) (by omega) (fun j a b => absurd a (by omega))
theorem x_likeness {K : Int → qM → Prop} {t u : Int} (hst : St sh pt) (hc : isC c) (cr : crel h c E N F T M) (hM : h c 4 = M) (M0 : 0 ≤ M) (t0 : 0 ≤ t) (t1 : t ≤ T) (u0 : 0 ≤ u) (u1 : u ≤ T) (k : ∀ r1 r2 : Int → Int, K (lkO E N M t u) (qrow (qrow h (c + 3) r2) (c + 2) r1)) : RunI X (d + 4) mX0_likeness [(2, c), (0, t), (0, u)] sh pt h K := by
  have b := cr.1
  refine b_X0_likeness hst hc (x_layFigure hst hc (Or.inr rfl) cr hM M0 u0 u1 (by decide) (by decide) ?_)
  generalize er2 : fo (fun m r => ins m.toNat r (ps (key E N M u 0 m))) 0 M (h (c + 3)) = r2
  have f2 := fig_rel (E := E) (N := N) (t := u) (w := 0) (φ := ps) (r0 := h (c + 3)) ps_mono M0 (cr_en cr u0 u1) (by decide) (by decide)
  rw [er2] at f2
  have cr2 : crel (qrow h (c + 3) r2) c E N F T M := cr_row cr (by omega)
  have hM2 : qrow h (c + 3) r2 c 4 = M := by rw [qrow_of (by omega)]; exact hM
  have z : ∀ (k : Nat) (w : Int) (r1 : Int → Int), 0 ≤ w → w + k = 8 → (∀ r1 : Int → Int, K (fo (fun w a => if 0 ≤ a ∨ smB E N M t w u = 0 then a else w) w 8 (-1)) (qrow (qrow h (c + 3) r2) (c + 2) r1)) → EvI X (d + 4) mX0_likeness 12 [(2, c), (0, t), (8, -1), (0, w)] [] sh pt (qrow (qrow h (c + 3) r2) (c + 2) r1) K := by
    intro k
    induction k with
    | zero =>
      intro w r1 w0 e kk
      rw [fo_end (by omega)] at kk
      exact b_X0_likeness_12 hst hc ⟨fun _ => kk r1, fun q => absurd q (by omega)⟩
    | succ k ih =>
      intro w r1 w0 e kk
      have cr3 : crel (qrow (qrow h (c + 3) r2) (c + 2) r1) c E N F T M := cr_row cr2 (by omega)
      have hM3 : qrow (qrow h (c + 3) r2) (c + 2) r1 c 4 = M := by rw [qrow_of (by omega)]; exact hM2
      have f1 := fig_rel (E := E) (N := N) (t := t) (w := w) (φ := ps) (r0 := r1) ps_mono M0 (cr_en cr t0 t1) w0 (by omega)
      refine b_X0_likeness_12 hst hc ⟨fun q => absurd q (by omega), fun _ => x_layFigure hst hc (Or.inl rfl) cr3 hM3 M0 t0 t1 w0 (by omega) ?_⟩
      rw [qrow_qrow, qrow_rw]
      generalize fo (fun m r => ins m.toNat r (ps (key E N M t w m))) 0 M r1 = r3 at f1
      have g1 : ∀ j, qrow (qrow h (c + 3) r2) (c + 2) r3 (c + 2) j = r3 j := fun j => qrow_at
      have g2 : ∀ j, qrow (qrow h (c + 3) r2) (c + 2) r3 (c + 3) j = r2 j := fun j => by rw [qrow_of (by omega), qrow_at]
      rw [fo_step (by omega)] at kk
      try dsimp only at kk
      refine x_sameFigure hst hc (M := M) (by rw [qrow_of (by omega)]; exact hM2) M0 b.2 (fun sm => ⟨fun q => absurd q (by decide), fun _ => ?_⟩) (fun sm => ⟨fun _ => ⟨⟨by omega, by omega⟩, ?_⟩, fun q => absurd rfl q⟩)
      · have s : same E N M t w u := fun j a b => by
          have := sm j a b
          rw [g1, g2, (f1 j a b).2, (f2 j a b).2] at this
          exact (ps_inj (f1 j a b).1 (f2 j a b).1).mpr this
        rw [smB_t s, if_neg (by omega)] at kk
        have e9 : fo (fun w a => if 0 ≤ a ∨ smB E N M t w u = 0 then a else w) (w + 1) 8 w = w := by
          refine fo_inv (fun _ a => a = w) (fun j a _ _ q => ?_) (by omega) rfl
          try dsimp only at q ⊢
          rw [if_pos (by omega)]
          exact q
        rw [e9] at kk
        exact kk r3
      · have s : ¬ same E N M t w u := fun s => sm (fun j a b => by
          rw [g1, g2, (f1 j a b).2, (f2 j a b).2, s j a b])
        rw [smB_f s, if_pos (by omega)] at kk
        exact ih (w + 1) r3 (by omega) (by omega) kk
  have e0 : qrow h (c + 3) r2 = qrow (qrow h (c + 3) r2) (c + 2) (qrow h (c + 3) r2 (c + 2)) := qrow_id.symm
  have z0 := z 8 0 (qrow h (c + 3) r2 (c + 2)) (by decide) (by decide) (fun r1 => k r1 r2)
  rw [← e0] at z0
  exact z0
theorem x_isSeen {K : Int → qM → Prop} {t m x b : Int} (hst : St sh pt) (hc : isC c) (cr : crel h c E N F T M) (hM : h c 4 = M) (M0 : 0 ≤ M) (t0 : 0 ≤ t) (t1 : t ≤ T) (m0 : 0 ≤ m) (m1 : m < M) (x0 : 0 ≤ x ∧ x < 60) (b0 : 1 ≤ b ∧ b ≤ 40) (k : K (seI E N M t x b m) h) : RunI X (d + 1) mX0_isSeen [(2, c), (0, t), (0, m), (0, x), (0, b)] sh pt h K := by
  have bb := cr.1
  have zm := cr.2 t m t0 t1 m0 m1
  refine b_X0_isSeen hst hc (x_eastOf hst hc cr t0 t1 m0 m1 ⟨⟨by omega, by omega⟩, x_northOf hst hc cr t0 t1 m0 m1 ⟨⟨by omega, by omega⟩, ?_⟩⟩)
  refine (fo_loop (σ := Int) (f := fun k a => if a = 0 ∨ hid E N t x b m k then 0 else 1) (n := M) (a := 1) (fun j a => a = 0 ∨ a = 1) (fun j a => (a = 0 → K 0 h) ∧ (a = 1 → EvI X (d + 1) mX0_isSeen 24 [(2, c), (0, t), (8, -1), (0, x), (0, b), (0, E t m - x), (0, N t m + b), (0, j), (8, -1), (8, -1)] [] sh pt h K)) ?_ M0 (Or.inr rfl) ?_).2 rfl
  · intro j a j0 j1 q
    try dsimp only at q ⊢
    have zk := cr.2 t j t0 t1 j0 j1
    have p1 := mul_bd (x := E t j - x) (y := N t m + b) (a := 60) (b := 80) (by omega) (by omega) (by omega) (by omega)
    have p2 := mul_bd (x := E t m - x) (y := N t j + b) (a := 60) (b := 80) (by omega) (by omega) (by omega) (by omega)
    by_cases e : a = 0 ∨ hid E N t x b m j
    · rw [if_pos e]
      refine ⟨Or.inl rfl, fun kk => ⟨fun _ => kk.1 rfl, fun a1 => ?_⟩⟩
      have hh : hid E N t x b m j := by
        rcases e with e | e
        · omega
        · exact e
      refine b_X0_isSeen_24 hst hc ⟨fun q => absurd q (by omega), fun _ => x_eastOf hst hc cr t0 t1 j0 j1 ⟨⟨by omega, by omega⟩, x_northOf hst hc cr t0 t1 j0 j1 ⟨⟨by omega, by omega⟩, fun q => absurd q (by have := hh.2; omega), fun q => ⟨⟨by omega, by omega⟩, ⟨by omega, by omega⟩, fun q2 => absurd ?_ q2, fun _ => kk.1 rfl⟩⟩⟩⟩
      rw [hh.1, Int.mul_comm]
    · rw [if_neg e]
      refine ⟨Or.inr rfl, fun kk => ⟨fun z => absurd (Or.inl z) e, fun a1 => ?_⟩⟩
      refine b_X0_isSeen_24 hst hc ⟨fun q => absurd q (by omega), fun _ => x_eastOf hst hc cr t0 t1 j0 j1 ⟨⟨by omega, by omega⟩, x_northOf hst hc cr t0 t1 j0 j1 ⟨⟨by omega, by omega⟩, fun q => ⟨⟨by omega, by omega⟩, kk.2 rfl⟩, fun q => ⟨⟨by omega, by omega⟩, ⟨by omega, by omega⟩, fun q2 => ⟨⟨by omega, by omega⟩, kk.2 rfl⟩, fun q2 => absurd (Or.inr ⟨?_, q⟩) e⟩⟩⟩⟩
      rw [← q2, Int.mul_comm]
  · intro q
    try dsimp only at q ⊢
    refine ⟨fun z => ?_, fun z => ?_⟩
    · have e : seI E N M t x b m = 0 := z
      rw [e] at k
      exact k
    · have e : seI E N M t x b m = 1 := z
      rw [e] at k
      exact b_X0_isSeen_24 hst hc ⟨fun _ => k, fun q => absurd q (by omega)⟩
theorem x_seenFrom {K : Int → qM → Prop} {t x b : Int} (hst : St sh pt) (hc : isC c) (cr : crel h c E N F T M) (hM : h c 4 = M) (M0 : 0 ≤ M) (t0 : 0 ≤ t) (t1 : t ≤ T) (x0 : 0 ≤ x ∧ x < 60) (b0 : 1 ≤ b ∧ b ≤ 40) (k : K (seO E N M t x b) h) : RunI X (d + 2) mX0_seenFrom [(2, c), (0, t), (0, x), (0, b)] sh pt h K := by
  have bb := cr.1
  refine b_X0_seenFrom hst hc ?_
  refine fo_loop (f := fun m a => a + seI E N M t x b m) (n := M) (fun m a => 0 ≤ a ∧ a ≤ m) (fun m a => EvI X (d + 2) mX0_seenFrom 6 [(2, c), (0, t), (0, x), (0, b), (0, a), (0, m)] [] sh pt h K) ?_ M0 (by omega) (fun _ => b_X0_seenFrom_6 hst hc ⟨fun _ => k, fun q => absurd q (by omega)⟩)
  intro m a m0 m1 j
  try dsimp only at j ⊢
  have s := seI_01 (E := E) (N := N) (M := M) (t := t) (x := x) (b := b) (m := m) M0
  refine ⟨by omega, fun kk => b_X0_seenFrom_6 hst hc ⟨fun q => absurd q (by omega), fun _ => x_isSeen hst hc cr hM M0 t0 t1 m0 m1 x0 b0 ⟨fun q => ?_, fun q => ?_⟩⟩⟩
  · rw [q] at kk
    exact ⟨⟨by omega, by omega⟩, ⟨by omega, by omega⟩, kk⟩
  · rw [show seI E N M t x b m = 1 by omega] at kk
    exact ⟨⟨by omega, by omega⟩, ⟨by omega, by omega⟩, kk⟩
end
