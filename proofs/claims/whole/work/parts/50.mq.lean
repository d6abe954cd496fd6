/-! what is asked of a RUN: dressed of the class; the reference -/
theorem fo_pair {f g : Int → Int → Int} {i n : Int} {a : Int × Int} : fo (fun i s => (f i s.1, g i s.2)) i n a = (fo f i n a.1, fo g i n a.2) := by
  have e : ∀ (k : Nat) (i : Int) (a : Int × Int), it (fun i (s : Int × Int) => (f i s.1, g i s.2)) k i a = (it f k i a.1, it g k i a.2) := by
    intro k
    induction k with
    | zero => intro i a; rfl
    | succ k ih => intro i a; exact ih _ _
  exact e _ _ _
theorem fo_id {σ : Type} {i n : Int} {a : σ} : fo (fun _ s => s) i n a = a := by
  have e : ∀ (k : Nat) (i : Int), it (fun _ (s : σ) => s) k i a = a := by
    intro k
    induction k with
    | zero => intro i; rfl
    | succ k ih => intro i; exact ih _
  exact e _ _
def drs (S : Int → Bool) (E N : Int → Int → Int) (t : Int) : Nat → Int → Int → Int → Int → Int → Int
  | 0, _, _, _, _, _ => 1
  | k + 1, m, c, b, x, y => if S m = false then drs S E N t k (m + 1) c b x y else if c = 0 then drs S E N t k (m + 1) 1 m x y else if c = 1 then drs S E N t k (m + 1) 2 m (E t m - E t b) (N t m - N t b) else if E t m - E t b = x ∧ N t m - N t b = y then drs S E N t k (m + 1) (c + 1) m x y else 0
theorem drs_1 {S : Int → Bool} {E N : Int → Int → Int} {t : Int} {k : Nat} {m c b x y : Int} (h : S m = false) : drs S E N t (k + 1) m c b x y = drs S E N t k (m + 1) c b x y := by
  rw [drs, if_pos h]
theorem drs_2 {S : Int → Bool} {E N : Int → Int → Int} {t : Int} {k : Nat} {m c b x y : Int} (h : S m = true) (h0 : c = 0) : drs S E N t (k + 1) m c b x y = drs S E N t k (m + 1) 1 m x y := by
  rw [drs, if_neg (by rw [h]; decide), if_pos h0]
theorem drs_3 {S : Int → Bool} {E N : Int → Int → Int} {t : Int} {k : Nat} {m c b x y : Int} (h : S m = true) (h0 : c = 1) : drs S E N t (k + 1) m c b x y = drs S E N t k (m + 1) 2 m (E t m - E t b) (N t m - N t b) := by
  rw [drs, if_neg (by rw [h]; decide), if_neg (by omega), if_pos h0]
theorem drs_4 {S : Int → Bool} {E N : Int → Int → Int} {t : Int} {k : Nat} {m c b x y : Int} (h : S m = true) (h0 : 1 < c) (q : E t m - E t b = x ∧ N t m - N t b = y) : drs S E N t (k + 1) m c b x y = drs S E N t k (m + 1) (c + 1) m x y := by
  rw [drs, if_neg (by rw [h]; decide), if_neg (by omega), if_neg (by omega), if_pos q]
theorem drs_5 {S : Int → Bool} {E N : Int → Int → Int} {t : Int} {k : Nat} {m c b x y : Int} (h : S m = true) (h0 : 1 < c) (q : ¬ (E t m - E t b = x ∧ N t m - N t b = y)) : drs S E N t (k + 1) m c b x y = 0 := by
  rw [drs, if_neg (by rw [h]; decide), if_neg (by omega), if_neg (by omega), if_neg q]
section
variable {X : qX} {d : Nat} {sh : qS} {pt h : qM} {c : Int} {E N F : Int → Int → Int} {T M : Int}
theorem x_isDressed_l {K : Int → qM → Prop} {s t : Int} (hst : St sh pt) (hc : isC c) (cr : crel h c E N F T M) (hM : h c 4 = M) (t0 : 0 ≤ t) (t1 : t ≤ T) (s0 : 0 ≤ s) (s1 : s ≤ 2147483647) : ∀ (k : Nat) (m n b x y : Int), 0 ≤ m → m + k = M → 0 ≤ n → n ≤ m → (b = 0 ∨ b < m) → 0 ≤ b → K (drs (tb s) E N t k m n b x y) h → EvI X (d + 1) mX0_isDressed 14 [(2, c), (0, s), (0, t), (0, n), (0, b), (0, x), (0, y), (0, m), (8, -1), (8, -1)] [] sh pt h K := by
  have bb := cr.1
  intro k
  induction k with
  | zero =>
    intro m n b x y m0 e n0 n1 b1 b0 kk
    exact b_X0_isDressed_14 hst hc ⟨fun _ => kk, fun q => absurd q (by omega)⟩
  | succ k ih =>
    intro m n b x y m0 e n0 n1 b1 b0 kk
    have z := cr.2 t m t0 t1 m0 (by omega)
    have z2 := cr.2 t b t0 t1 b0 (by omega)
    have bit := q_bitU (s := s) (m := m) s0 s1 m0 (by omega)
    refine b_X0_isDressed_14 hst hc ⟨fun q => absurd q (by omega), fun _ => ⟨fun q => ⟨⟨by omega, by omega⟩, ?_⟩, fun q => ?_⟩⟩
    · have w : tb s m = false := by
        by_cases w : tb s m = true
        · rw [bit, if_pos w] at q; omega
        · simpa using w
      rw [drs_1 w] at kk
      exact ih _ _ _ _ _ (by omega) (by omega) n0 (by omega) (by omega) b0 kk
    · have w : tb s m = true := by
        by_cases w : tb s m = true
        · exact w
        · rw [bit, if_neg w] at q; omega
      refine x_eastOf hst hc cr t0 t1 m0 (by omega) (x_eastOf hst hc cr t0 t1 b0 (by omega) ⟨⟨by omega, by omega⟩, x_northOf hst hc cr t0 t1 m0 (by omega) (x_northOf hst hc cr t0 t1 b0 (by omega) ⟨⟨by omega, by omega⟩, ⟨fun q1 => ⟨fun q2 => ?_, fun q2 => ⟨fun q3 => ?_, fun q3 => ⟨fun q4 => ?_, fun q4 => ?_⟩⟩⟩, fun q1 => ?_⟩⟩)⟩)
      · have e0 : n = 0 := by omega
        rw [drs_2 w e0] at kk
        refine ⟨⟨by omega, by omega⟩, ⟨by omega, by omega⟩, ?_⟩
        rw [e0]
        exact ih _ _ _ _ _ (by omega) (by omega) (by omega) (by omega) (by omega) m0 kk
      · rw [drs_5 w q2 (fun z => q3 z.1)] at kk
        exact kk
      · rw [drs_4 w q2 ⟨q3, q4⟩] at kk
        exact ⟨⟨by omega, by omega⟩, ⟨by omega, by omega⟩, ih _ _ _ _ _ (by omega) (by omega) (by omega) (by omega) (by omega) m0 kk⟩
      · rw [drs_5 w q2 (fun z => q4 z.2)] at kk
        exact kk
      · rw [drs_3 w q1] at kk
        refine ⟨⟨by omega, by omega⟩, ⟨by omega, by omega⟩, ?_⟩
        rw [show n + 1 = 2 by omega]
        exact ih _ _ _ _ _ (by omega) (by omega) (by omega) (by omega) (by omega) m0 kk
theorem x_isDressed {K : Int → qM → Prop} {s t : Int} (hst : St sh pt) (hc : isC c) (cr : crel h c E N F T M) (hM : h c 4 = M) (M0 : 0 ≤ M) (t0 : 0 ≤ t) (t1 : t ≤ T) (s0 : 0 ≤ s) (s1 : s ≤ 2147483647) (k : K (drs (tb s) E N t M.toNat 0 0 0 0 0) h) : RunI X (d + 1) mX0_isDressed [(2, c), (0, s), (0, t)] sh pt h K :=
  b_X0_isDressed hst hc (x_isDressed_l hst hc cr hM t0 t1 s0 s1 M.toNat 0 0 0 0 0 (by decide) (by omega) (by decide) (by decide) (Or.inl rfl) (by decide) k)
/-! the reference -/
def mrel (h : qM) (E N F : Int → Int → Int) (T M : Int) : Prop := (0 ≤ T ∧ T ≤ 150 ∧ 0 ≤ M ∧ M ≤ 20) ∧ ∀ t m : Int, 0 ≤ t → t ≤ T → 0 ≤ m → m < M → h 106 (20 * t + m) = E t m ∧ h 107 (20 * t + m) = N t m ∧ h 108 (20 * t + m) = F t m ∧ 0 ≤ E t m ∧ E t m < 60 ∧ 0 ≤ N t m ∧ N t m < 40 ∧ 0 ≤ F t m ∧ F t m < 8
def mhd (h : qM) (T M : Int) : Prop := h 78 51 = T ∧ h 78 50 = M
theorem m_areOn {K : Int → qM → Prop} {t m u n : Int} (hst : St sh pt) (mr : mrel h E N F T M) (t0 : 0 ≤ t) (t1 : t ≤ T) (m0 : 0 ≤ m) (m1 : m < M) (u0 : 0 ≤ u) (u1 : u ≤ T) (n0 : 0 ≤ n) (n1 : n < M) (k1 : E t m = E u n → N t m = N u n → K 1 h) (k0 : ¬ (E t m = E u n ∧ N t m = N u n) → K 0 h) : RunI X (d + 1) mX11_areOn [(2, 78), (0, t), (0, m), (0, u), (0, n)] sh pt h K := by
  have b := mr.1
  have z1 := mr.2 t m t0 t1 m0 m1
  have z2 := mr.2 u n u0 u1 n0 n1
  refine b_X11_areOn hst (b_X11_cell hst ⟨⟨by omega, by omega⟩, ⟨by omega, by omega⟩, by omega, b_X11_cell hst ⟨⟨by omega, by omega⟩, ⟨by omega, by omega⟩, by omega, ?_⟩⟩)
  rw [z1.1, z2.1]
  refine ⟨fun q => k0 (fun z => q z.1), fun q => b_X11_cell hst ⟨⟨by omega, by omega⟩, ⟨by omega, by omega⟩, by omega, b_X11_cell hst ⟨⟨by omega, by omega⟩, ⟨by omega, by omega⟩, by omega, ?_⟩⟩⟩
  rw [z1.2.1, z2.2.1]
  exact ⟨fun q2 => k0 (fun z => q2 z.2), fun q2 => k1 q q2⟩
theorem m_clashes {K : Int → qM → Prop} {t m n : Int} (hst : St sh pt) (mr : mrel h E N F T M) (t0 : 0 ≤ t) (t1 : t ≤ T) (m0 : 0 ≤ m) (m1 : m < M) (n0 : 0 ≤ n) (n1 : n < M) (k : K (clB E N t m n) h) : RunI X (d + 2) mX11_clashes [(2, 78), (0, t), (0, m), (0, n)] sh pt h K := by
  have b := mr.1
  refine b_X11_clashes hst (m_areOn hst mr t0 t1 m0 m1 t0 t1 n0 n1 (fun q1 q2 => ?_) (fun q => ?_))
  · rw [clB_t (Or.inl ⟨q1, q2⟩)] at k
    exact ⟨fun z => absurd z (by decide), fun _ => k⟩
  · refine ⟨fun _ => ⟨fun q1 => ?_, fun q1 => ⟨⟨by omega, by omega⟩, m_areOn hst mr t0 t1 m0 m1 (by omega) (by omega) n0 n1 (fun r1 r2 => ?_) (fun r => ?_)⟩⟩, fun z => absurd rfl z⟩
    · rw [clB_f (by unfold isCl; omega)] at k
      exact k
    · refine ⟨fun z => absurd z (by decide), fun _ => ⟨⟨by omega, by omega⟩, m_areOn hst mr t0 t1 n0 n1 (by omega) (by omega) m0 m1 (fun s1 s2 => ?_) (fun s => ?_)⟩⟩
      · rw [clB_t (Or.inr ⟨q1, ⟨r1, r2⟩, ⟨s1, s2⟩⟩)] at k
        exact ⟨fun z => absurd z (by decide), fun _ => k⟩
      · rw [clB_f (by unfold isCl; omega)] at k
        exact ⟨fun _ => k, fun z => absurd rfl z⟩
    · rw [clB_f (by unfold isCl; omega)] at k
      exact ⟨fun _ => k, fun z => absurd rfl z⟩
theorem m_squareOf {K : Int → qM → Prop} {t m : Int} (hst : St sh pt) (mr : mrel h E N F T M) (t0 : 1 ≤ t) (t1 : t ≤ T) (m0 : 0 ≤ m) (m1 : m < M) (k : K (sqr E N t m) h) : RunI X (d + 1) mX11_squareOf [(2, 78), (0, t), (0, m)] sh pt h K := by
  have b := mr.1
  have z1 := mr.2 t m (by omega) t1 m0 m1
  have z2 := mr.2 (t - 1) m (by omega) (by omega) m0 m1
  have s1 := sq_bd (x := E t m - E (t - 1) m) (by omega) (by omega)
  have s2 := sq_bd (x := N t m - N (t - 1) m) (by omega) (by omega)
  refine b_X11_squareOf hst (b_X11_cell hst ⟨⟨by omega, by omega⟩, ⟨by omega, by omega⟩, by omega, ⟨by omega, by omega⟩, b_X11_cell hst ⟨⟨by omega, by omega⟩, ⟨by omega, by omega⟩, by omega, ?_⟩⟩)
  rw [z1.1, z2.1]
  refine ⟨⟨by omega, by omega⟩, fun x ex => b_X11_cell hst ⟨⟨by omega, by omega⟩, ⟨by omega, by omega⟩, by omega, ⟨by omega, by omega⟩, b_X11_cell hst ⟨⟨by omega, by omega⟩, ⟨by omega, by omega⟩, by omega, ?_⟩⟩⟩
  rw [z1.2.1, z2.2.1]
  refine ⟨⟨by omega, by omega⟩, fun y ey => ?_⟩
  rw [ex, ey]
  exact ⟨⟨by omega, by omega⟩, ⟨by omega, by omega⟩, ⟨by omega, by omega⟩, k⟩
theorem m_told0 {K : Int → qM → Prop} {g : Int} (hst : St sh pt) (mr : mrel h E N F T M) (hh : mhd h T M) (k : K (clO E N T M) h) : EvI X (d + 3) mX11_told 59 [(2, 78), (0, 0), (0, 0), (0, g), (0, 0), (8, -1), (8, -1)] [] sh pt h K := by
  have b := mr.1
  have h1 := hh.1
  have h2 := hh.2
  refine fo_loop (f := fun t a => clM E N M t a) (n := T + 1) (fun t a => 0 ≤ a ∧ a ≤ 400 * t) (fun t a => EvI X (d + 3) mX11_told 59 [(2, 78), (0, 0), (0, a), (0, g), (0, t), (8, -1), (8, -1)] [] sh pt h K) ?_ (by omega) (by omega) (fun _ => b_X11_told_59 hst ⟨fun _ => ⟨fun _ => k, fun q => absurd q (by decide)⟩, fun q => absurd q (by omega)⟩)
  intro t a t0 t1 j
  try dsimp only at j ⊢
  have cb := clM_bd (E := E) (N := N) (M := M) (t := t) (a := a) b.2.2
  refine ⟨by omega, fun kk => b_X11_told_59 hst ⟨fun q => absurd q (by omega), fun _ => ?_⟩⟩
  refine fo_loop (f := fun m a => clI E N M t m a) (n := M) (fun m e => 0 ≤ e ∧ e ≤ a + 20 * m) (fun m e => EvI X (d + 3) mX11_told 71 [(2, 78), (0, 0), (0, e), (0, g), (0, t), (0, m), (8, -1)] [] sh pt h K) ?_ (by omega) (by omega) (fun _ => b_X11_told_71 hst ⟨fun _ => ⟨⟨by omega, by omega⟩, kk⟩, fun q => absurd q (by omega)⟩)
  intro m e m0 m1 j2
  try dsimp only at j2 ⊢
  have cb2 := clI_bd (E := E) (N := N) (M := M) (t := t) (m := m) (a := e) b.2.2.2 m0 m1
  refine ⟨by omega, fun kk => b_X11_told_71 hst ⟨fun q => absurd q (by omega), fun _ => ⟨fun q => absurd rfl q, fun _ => ⟨⟨by omega, by omega⟩, ?_⟩⟩⟩⟩
  refine fo_loop (f := fun n a => a + clB E N t m n) (n := M) (fun n s => 0 ≤ s ∧ s ≤ e + n) (fun n s => EvI X (d + 3) mX11_told 90 [(2, 78), (0, 0), (0, s), (0, g), (0, t), (0, m), (0, n)] [] sh pt h K) ?_ (by omega) (by omega) (fun _ => b_X11_told_90 hst ⟨fun _ => b_X11_told_126 hst ⟨fun _ => b_X11_told_175 hst ⟨fun _ => ⟨⟨by omega, by omega⟩, kk⟩, fun q => absurd q (by decide)⟩, fun q => absurd q (by decide)⟩, fun q => absurd q (by omega)⟩)
  intro n s n0 n1 j3
  try dsimp only at j3 ⊢
  have cb3 := clB_01 (E := E) (N := N) (t := t) (m := m) (n := n)
  refine ⟨by omega, fun kk => b_X11_told_90 hst ⟨fun q => absurd q (by omega), fun _ => m_clashes hst mr t0 (by omega) m0 m1 (by omega) (by omega) ⟨fun q => ⟨⟨by omega, by omega⟩, ⟨by omega, by omega⟩, ?_⟩, fun q => ⟨⟨by omega, by omega⟩, ⟨by omega, by omega⟩, ?_⟩⟩⟩⟩
  · rw [q] at kk
    exact kk
  · rw [show clB E N t m n = 1 by omega] at kk
    exact kk
theorem m_told1 {K : Int → qM → Prop} {g : Int} {p : Int → Int → Int} (hst : St sh pt) (mr : mrel h E N F T M) (hh : mhd h T M) (hp : ∀ e n : Int, 0 ≤ e → e < 60 → 0 ≤ n → n < 40 → h 86 (40 * e + n) = p e n) (k : K (hiO p E N T M) h) : EvI X (d + 3) mX11_told 59 [(2, 78), (0, 1), (0, 0), (0, g), (0, 0), (8, -1), (8, -1)] [] sh pt h K := by
  have b := mr.1
  have h1 := hh.1
  have h2 := hh.2
  refine fo_loop (f := fun t a => hiM p E N M t a) (n := T + 1) (fun t a => 0 ≤ a ∧ a ≤ 20 * t) (fun t a => EvI X (d + 3) mX11_told 59 [(2, 78), (0, 1), (0, a), (0, g), (0, t), (8, -1), (8, -1)] [] sh pt h K) ?_ (by omega) (by omega) (fun _ => b_X11_told_59 hst ⟨fun _ => ⟨fun _ => k, fun q => absurd q (by decide)⟩, fun q => absurd q (by omega)⟩)
  intro t a t0 t1 j
  try dsimp only at j ⊢
  have cb := hiM_bd (p := p) (E := E) (N := N) (M := M) (t := t) (a := a) b.2.2
  refine ⟨by omega, fun kk => b_X11_told_59 hst ⟨fun q => absurd q (by omega), fun _ => ?_⟩⟩
  refine fo_loop (f := fun m a => a + qB (p (E t m) (N t m) ≠ 0)) (n := M) (fun m e => 0 ≤ e ∧ e ≤ a + m) (fun m e => EvI X (d + 3) mX11_told 71 [(2, 78), (0, 1), (0, e), (0, g), (0, t), (0, m), (8, -1)] [] sh pt h K) ?_ (by omega) (by omega) (fun _ => b_X11_told_71 hst ⟨fun _ => ⟨⟨by omega, by omega⟩, kk⟩, fun q => absurd q (by omega)⟩)
  intro m e m0 m1 j2
  try dsimp only at j2 ⊢
  have cb2 := qB01 (p := p (E t m) (N t m) ≠ 0)
  have z := mr.2 t m t0 (by omega) m0 m1
  have zp := hp (E t m) (N t m) (by omega) (by omega) (by omega) (by omega)
  refine ⟨by omega, fun kk => b_X11_told_71 hst ⟨fun q => absurd q (by omega), fun _ => ⟨fun _ => b_X11_told_126 hst ⟨fun q => absurd rfl q, fun _ => b_X11_cell hst ⟨⟨by omega, by omega⟩, ⟨by omega, by omega⟩, by omega, ⟨by omega, by omega⟩, b_X11_cell hst ⟨⟨by omega, by omega⟩, ⟨by omega, by omega⟩, by omega, ⟨by omega, by omega⟩, ⟨by omega, by omega⟩, ?_⟩⟩⟩, fun q => absurd q (by decide)⟩⟩⟩
  rw [z.1, z.2.1, zp]
  refine ⟨fun q => ⟨⟨by omega, by omega⟩, b_X11_told_175 hst ⟨fun _ => ⟨⟨by omega, by omega⟩, ?_⟩, fun q => absurd q (by decide)⟩⟩, fun q => ⟨⟨by omega, by omega⟩, b_X11_told_175 hst ⟨fun _ => ⟨⟨by omega, by omega⟩, ?_⟩, fun q => absurd q (by decide)⟩⟩⟩
  · rw [qB_f (fun z => z q)] at kk
    exact kk
  · rw [qB_t q] at kk
    exact kk
theorem m_told2 {K : Int → qM → Prop} {v l : Int} (hst : St sh pt) (mr : mrel h E N F T M) (hh : mhd h T M) (hl : h 78 10 = l) (hv : v = 2 ∨ v = 4) (k2 : v = 2 → K (saO E N T M l) h) (k4 : v = 4 → K (gsO E N T M) h) : EvI X (d + 3) mX11_told 59 [(2, 78), (0, v), (0, 0), (0, 0), (0, 0), (8, -1), (8, -1)] [] sh pt h K := by
  have b := mr.1
  have h1 := hh.1
  have h2 := hh.2
  have z0 : EvI X (d + 3) mX11_told 59 [(2, 78), (0, v), (0, 0), (0, 0), (0, 1), (8, -1), (8, -1)] [] sh pt h K → EvI X (d + 3) mX11_told 59 [(2, 78), (0, v), (0, 0), (0, 0), (0, 0), (8, -1), (8, -1)] [] sh pt h K := fun k => by
    refine b_X11_told_59 hst ⟨fun q => absurd q (by omega), fun _ => ?_⟩
    refine fo_loop (σ := Int) (f := fun m a => a) (a := 0) (n := M) (fun m e => e = 0) (fun m e => EvI X (d + 3) mX11_told 71 [(2, 78), (0, v), (0, 0), (0, 0), (0, 0), (0, m), (8, -1)] [] sh pt h K) ?_ (by omega) rfl (fun _ => b_X11_told_71 hst ⟨fun _ => ⟨⟨by omega, by omega⟩, k⟩, fun q => absurd q (by omega)⟩)
    intro m e m0 m1 j2
    exact ⟨j2, fun kk => b_X11_told_71 hst ⟨fun q => absurd q (by omega), fun _ => ⟨fun _ => b_X11_told_126 hst ⟨fun _ => b_X11_told_175 hst ⟨fun q => absurd q (by omega), fun _ => ⟨fun q => absurd rfl q, fun _ => ⟨⟨by omega, by omega⟩, kk⟩⟩⟩, fun q => absurd q (by omega)⟩, fun q => absurd q (by omega)⟩⟩⟩
  refine z0 ?_
  refine fo_loop (σ := Int × Int) (f := fun t s => (saM E N M l t s.1, gsM E N M t s.2)) (a := (0, 0)) (n := T + 1) (fun t s => 0 ≤ s.1 ∧ s.1 ≤ 20 * t) (fun t s => EvI X (d + 3) mX11_told 59 [(2, 78), (0, v), (0, s.1), (0, s.2), (0, t), (8, -1), (8, -1)] [] sh pt h K) ?_ (by omega) (by dsimp only; omega) (fun _ => ?_)
  · intro t a t0 t1 j
    try dsimp only at j ⊢
    have cb := saM_bd (E := E) (N := N) (M := M) (t := t) (l := l) (a := a.1) b.2.2
    refine ⟨by omega, fun kk => b_X11_told_59 hst ⟨fun q => absurd q (by omega), fun _ => ?_⟩⟩
    have e3 : (saM E N M l t a.1, gsM E N M t a.2) = fo (fun m (s : Int × Int) => (s.1 + qB (l < sqr E N t m), max s.2 (sqr E N t m))) 0 M a := (fo_pair (f := fun m a => a + qB (l < sqr E N t m)) (g := fun m a => max a (sqr E N t m))).symm
    refine fo_loop (σ := Int × Int) (f := fun m s => (s.1 + qB (l < sqr E N t m), max s.2 (sqr E N t m))) (n := M) (fun m s => 0 ≤ s.1 ∧ s.1 ≤ a.1 + m) (fun m s => EvI X (d + 3) mX11_told 71 [(2, 78), (0, v), (0, s.1), (0, s.2), (0, t), (0, m), (8, -1)] [] sh pt h K) ?_ (by omega) (by omega) (fun _ => b_X11_told_71 hst ⟨fun _ => ⟨⟨by omega, by omega⟩, ?_⟩, fun q => absurd q (by omega)⟩)
    · intro m e m0 m1 j2
      try dsimp only at j2 ⊢
      have cb2 := qB01 (p := l < sqr E N t m)
      refine ⟨by omega, fun kk => b_X11_told_71 hst ⟨fun q => absurd q (by omega), fun _ => ⟨fun _ => b_X11_told_126 hst ⟨fun _ => b_X11_told_175 hst ⟨fun q => absurd q (by omega), fun _ => ⟨fun _ => m_squareOf hst mr t0 (by omega) m0 m1 ⟨fun q => ⟨⟨by omega, by omega⟩, x_max hst ⟨⟨by omega, by omega⟩, ?_⟩⟩, fun q => ⟨⟨by omega, by omega⟩, x_max hst ⟨⟨by omega, by omega⟩, ?_⟩⟩⟩, fun q => absurd q (by omega)⟩⟩, fun q => absurd q (by omega)⟩, fun q => absurd q (by omega)⟩⟩⟩
      · rw [qB_f (by omega)] at kk
        exact kk
      · rw [qB_t (by omega)] at kk
        exact kk
    · rw [← e3]
      exact kk
  · rw [fo_pair]
    refine b_X11_told_59 hst ⟨fun _ => ⟨fun q => k2 (by omega), fun q => k4 q⟩, fun q => absurd q (by omega)⟩
theorem mrel_up {i v : Int} (mr : mrel h E N F T M) : mrel (qup h 78 i v) E N F T M := by
  refine ⟨mr.1, fun t m a b c e => ?_⟩
  rw [qup_of (by omega), qup_of (by omega), qup_of (by omega)]
  exact mr.2 t m a b c e
theorem m_told {K : Int → qM → Prop} {v l : Int} {p : Int → Int → Int} (hst : St sh pt) (k5 : ¬ (0 ≤ v ∧ v ≤ 4) → K (-1) (qup (qup (qup h 78 1 0) 78 0 0) 78 0 5)) (k8 : 0 ≤ v → v ≤ 4 → h 78 50 < 0 → K (-1) (qup (qup (qup h 78 1 0) 78 0 0) 78 0 8))
    (mr : 0 ≤ h 78 50 → mrel h E N F T M ∧ mhd h T M) (hp : ∀ e n : Int, 0 ≤ e → e < 60 → 0 ≤ n → n < 40 → h 86 (40 * e + n) = p e n) (hl : h 78 10 = l)
    (k3 : 0 ≤ h 78 50 → v = 3 → K (h 78 52) (qup (qup h 78 1 0) 78 0 0))
    (k0 : 0 ≤ h 78 50 → v = 0 → K (clO E N T M) (qup (qup h 78 1 0) 78 0 0)) (k1 : 0 ≤ h 78 50 → v = 1 → K (hiO p E N T M) (qup (qup h 78 1 0) 78 0 0)) (k2 : 0 ≤ h 78 50 → v = 2 → K (saO E N T M l) (qup (qup h 78 1 0) 78 0 0)) (k4 : 0 ≤ h 78 50 → v = 4 → K (gsO E N T M) (qup (qup h 78 1 0) 78 0 0)) : RunI X (d + 3) mX11_told [(2, 78), (0, v)] sh pt h K := by
  refine b_X11_told hst (fun h1 e1 h2 e2 => b_X11_isIn hst ⟨fun q => ⟨fun z => absurd rfl z, fun _ => b_X11_refuse hst (fun h3 e3 => ?_)⟩, fun q => ⟨fun q2 => ⟨fun z => absurd rfl z, fun _ => b_X11_refuse hst (fun h3 e3 => ?_)⟩, fun q2 => ⟨fun _ => ?_, fun z => absurd z (by decide)⟩⟩⟩)
  · rw [e3, e2, e1]; exact k5 (by omega)
  · rw [e3, e2, e1]; exact k5 (by omega)
  · have e4 : h2 78 50 = h 78 50 := by rw [e2, e1, qup_of (by omega), qup_of (by omega)]
    have e5 : h2 78 52 = h 78 52 := by rw [e2, e1, qup_of (by omega), qup_of (by omega)]
    have e6 : h2 78 10 = l := by rw [e2, e1, qup_of (by omega), qup_of (by omega), hl]
    have e7 : h2 78 51 = h 78 51 := by rw [e2, e1, qup_of (by omega), qup_of (by omega)]
    refine ⟨fun q3 => ?_, fun q3 => b_X11_refuse hst (fun h3 e3 => ?_)⟩
    · rw [e4] at q3
      have mr2 : mrel h2 E N F T M := by rw [e2, e1]; exact mrel_up (mrel_up (mr q3).1)
      have hh2 : mhd h2 T M := ⟨by rw [e7]; exact (mr q3).2.1, by rw [e4]; exact (mr q3).2.2⟩
      have hp2 : ∀ e n : Int, 0 ≤ e → e < 60 → 0 ≤ n → n < 40 → h2 86 (40 * e + n) = p e n := fun e n a b c f => by
        rw [e2, e1, qup_of (by omega), qup_of (by omega)]
        exact hp e n a b c f
      rw [← e1, ← e2] at k0 k1 k2 k3 k4
      refine ⟨fun q4 => ?_, fun q4 => ?_⟩
      · have v4 : v = 0 ∨ v = 1 ∨ v = 2 ∨ v = 4 := by omega
        rcases v4 with rfl | rfl | rfl | rfl
        · exact m_told0 hst mr2 hh2 (k0 q3 rfl)
        · exact m_told1 hst mr2 hh2 hp2 (k1 q3 rfl)
        · exact m_told2 hst mr2 hh2 e6 (Or.inl rfl) (k2 q3) (k4 q3)
        · exact m_told2 hst mr2 hh2 e6 (Or.inr rfl) (k2 q3) (k4 q3)
      · rw [e5]
        exact k3 q3 q4
    · rw [e4] at q3
      rw [e3, e2, e1]
      exact k8 q q2 q3
end
