/-! clash, dressed, figure, like, seen, at of the reference; the class's own face -/
theorem qup_qup {h : qM} {a i v w : Int} : qup (qup h a i v) a i w = qup h a i w := by
  funext x j
  unfold qup
  by_cases e : x = a ∧ j = i
  · rw [if_pos e, if_pos e]
  · rw [if_neg e, if_neg e, if_neg e]
def ms (h : qM) (s : Int) : qM := qup (qup h 78 1 0) 78 0 s
theorem ms_up {h : qM} {s w : Int} : qup (ms h s) 78 0 w = ms h w := qup_qup
theorem ms_of {h : qM} {s a i : Int} (e : ¬ a = 78) : ms h s a i = h a i := by
  unfold ms
  rw [qup_of (fun z => e z.1), qup_of (fun z => e z.1)]
theorem ms_of2 {h : qM} {s i : Int} (e : 1 < i) : ms h s 78 i = h 78 i := by
  unfold ms
  rw [qup_of (by omega), qup_of (by omega)]
section
variable {X : qX} {d : Nat} {sh : qS} {pt h : qM} {c : Int} {E N F : Int → Int → Int} {T M : Int}
theorem mrel_ms {s : Int} (mr : mrel h E N F T M) : mrel (ms h s) E N F T M := mrel_up (mrel_up mr)
theorem mhd_ms {s : Int} (mr : mhd h T M) : mhd (ms h s) T M := by
  unfold mhd at mr ⊢
  rw [ms_of2 (by decide), ms_of2 (by decide)]
  exact mr
theorem m_refuse {K : Int → qM → Prop} {s w : Int} (hst : St sh pt) (k : K (-1) (ms h w)) : RunI X d mX11_refuse [(2, 78), (0, w)] sh pt (ms h s) K := b_X11_refuse hst (fun h1 e1 => by rw [e1, ms_up]; exact k)
theorem m_no {K : Int → qM → Prop} {s w : Int} (hst : St sh pt) (k : K 0 (ms h w)) : RunI X d mX11_no [(2, 78), (0, w)] sh pt (ms h s) K := b_X11_no hst (fun h1 e1 => by rw [e1, ms_up]; exact k)
def deC (w z : Int) : Int := if w = 0 then z / 400 else if w = 1 then z / 20 % 20 else z % 20
theorem deC_at {t m n w : Int} (hM : M ≤ 20) (t0 : 0 ≤ t) (m0 : 0 ≤ m) (m1 : m < M) (n0 : 0 ≤ n) (n1 : n < M) : deC w (-1 - (-1 - ((t * 20 + m) * 20 + n))) = if w = 0 then t else if w = 1 then m else n := by
  unfold deC
  by_cases q : w = 0
  · rw [if_pos q, if_pos q]; omega
  · rw [if_neg q, if_neg q]
    by_cases q2 : w = 1
    · rw [if_pos q2, if_pos q2]; omega
    · rw [if_neg q2, if_neg q2]; omega
theorem m_clash_n {K : Int → qM → Prop} {k w : Int} (hst : St sh pt) (mr : mrel h E N F T M) (hh : mhd h T M) (k0 : k < 0) (kk : RunI X (d + 2) mX11_refuse [(2, 78), (0, 8)] sh pt h K) : EvI X (d + 3) mX11_clash 47 [(2, 78), (0, k), (0, w), (0, 0), (0, 0), (8, -1), (8, -1)] [] sh pt h K := by
  have b := mr.1
  have h1 := hh.1
  have h2 := hh.2
  refine fo_loop (f := fun t a => clM E N M t a) (n := T + 1) (fun t a => 0 ≤ a ∧ a ≤ 400 * t) (fun t a => EvI X (d + 3) mX11_clash 47 [(2, 78), (0, k), (0, w), (0, a), (0, t), (8, -1), (8, -1)] [] sh pt h K) ?_ (by omega) (by omega) (fun _ => b_X11_clash_47 hst ⟨fun _ => kk, fun q => absurd q (by omega)⟩)
  intro t a t0 t1 j
  try dsimp only at j ⊢
  have cb := clM_bd (E := E) (N := N) (M := M) (t := t) (a := a) b.2.2
  refine ⟨by omega, fun kk => b_X11_clash_47 hst ⟨fun q => absurd q (by omega), fun _ => ?_⟩⟩
  refine fo_loop (f := fun m a => clI E N M t m a) (n := M) (fun m e => 0 ≤ e ∧ e ≤ a + 20 * m) (fun m e => EvI X (d + 3) mX11_clash 59 [(2, 78), (0, k), (0, w), (0, e), (0, t), (0, m), (8, -1)] [] sh pt h K) ?_ (by omega) (by omega) (fun _ => b_X11_clash_59 hst ⟨fun _ => ⟨⟨by omega, by omega⟩, kk⟩, fun q => absurd q (by omega)⟩)
  intro m e m0 m1 j2
  try dsimp only at j2 ⊢
  have cb2 := clI_bd (E := E) (N := N) (M := M) (t := t) (m := m) (a := e) b.2.2.2 m0 m1
  refine ⟨by omega, fun kk => b_X11_clash_59 hst ⟨fun q => absurd q (by omega), fun _ => ⟨⟨by omega, by omega⟩, ?_⟩⟩⟩
  refine fo_loop (f := fun n a => a + clB E N t m n) (n := M) (fun n s => 0 ≤ s ∧ s ≤ e + n) (fun n s => EvI X (d + 3) mX11_clash 74 [(2, 78), (0, k), (0, w), (0, s), (0, t), (0, m), (0, n)] [] sh pt h K) ?_ (by omega) (by omega) (fun _ => b_X11_clash_74 hst ⟨fun _ => ⟨⟨by omega, by omega⟩, kk⟩, fun q => absurd q (by omega)⟩)
  intro n s n0 n1 j3
  try dsimp only at j3 ⊢
  have cb3 := clB_01 (E := E) (N := N) (t := t) (m := m) (n := n)
  refine ⟨by omega, fun kk => b_X11_clash_74 hst ⟨fun q => absurd q (by omega), fun _ => m_clashes hst mr t0 (by omega) m0 m1 (by omega) (by omega) ⟨fun q => ⟨fun _ => ⟨⟨by omega, by omega⟩, ⟨by omega, by omega⟩, ?_⟩, fun q => absurd q (by omega)⟩, fun q => ⟨⟨by omega, by omega⟩, ?_⟩⟩⟩⟩
  · rw [show clB E N t m n = 1 by omega] at kk
    exact kk
  · rw [q, Int.add_zero] at kk
    exact kk
theorem m_clash_p {K : Int → qM → Prop} {k w : Int} (hst : St sh pt) (mr : mrel h E N F T M) (hh : mhd h T M) (k0 : 0 ≤ k) (qk : qI k) (k2 : 0 ≤ fcO E N T M k → RunI X (d + 2) mX11_refuse [(2, 78), (0, 8)] sh pt h K) (k3 : fcO E N T M k < 0 → K (deC w (-1 - fcO E N T M k)) h) : EvI X (d + 3) mX11_clash 47 [(2, 78), (0, k), (0, w), (0, 0), (0, 0), (8, -1), (8, -1)] [] sh pt h K := by
  have b := mr.1
  have h1 := hh.1
  have h2 := hh.2
  have qk2 := qk.2
  have e0 : ∀ s : Int, k - s = k - s := fun _ => rfl
  have z0 : (k < 0 → K (deC w (-1 - k)) h) ∧ (0 ≤ k → EvI X (d + 3) mX11_clash 47 [(2, 78), (0, k), (0, w), (0, k - k), (0, 0), (8, -1), (8, -1)] [] sh pt h K) := by
    refine fo_loop (f := fun t s => fcM E N M t s) (n := T + 1) (fun t s => fcJ k s) (fun t s => (s < 0 → K (deC w (-1 - s)) h) ∧ (0 ≤ s → EvI X (d + 3) mX11_clash 47 [(2, 78), (0, k), (0, w), (0, k - s), (0, t), (8, -1), (8, -1)] [] sh pt h K)) ?_ (by omega) (Or.inl ⟨k0, Int.le_refl _⟩) (fun _ => ⟨k3, fun s0 => b_X11_clash_47 hst ⟨fun _ => k2 s0, fun q => absurd q (by omega)⟩⟩)
    intro t s t0 t1 j
    try dsimp only at j ⊢
    refine ⟨fcM_J b.2.2.2 b.2.2.1 t0 (by omega) j, fun kk => ?_⟩
    suffices z : (s < 0 → K (deC w (-1 - s)) h) ∧ (0 ≤ s → EvI X (d + 3) mX11_clash 59 [(2, 78), (0, k), (0, w), (0, k - s), (0, t), (0, 0), (8, -1)] [] sh pt h K) from ⟨z.1, fun s0 => b_X11_clash_47 hst ⟨fun q => absurd q (by omega), fun _ => z.2 s0⟩⟩
    refine fo_loop (f := fun m s => fcI E N M t m s) (n := M) (fun m s => fcJ k s) (fun m s => (s < 0 → K (deC w (-1 - s)) h) ∧ (0 ≤ s → EvI X (d + 3) mX11_clash 59 [(2, 78), (0, k), (0, w), (0, k - s), (0, t), (0, m), (8, -1)] [] sh pt h K)) ?_ (by omega) j (fun _ => ⟨kk.1, fun s0 => b_X11_clash_59 hst ⟨fun _ => ⟨⟨by omega, by omega⟩, kk.2 s0⟩, fun q => absurd q (by omega)⟩⟩)
    intro m s m0 m1 j
    try dsimp only at j ⊢
    refine ⟨fcI_J b.2.2.2 t0 (by omega) m0 m1 j, fun kk => ?_⟩
    suffices z : (s < 0 → K (deC w (-1 - s)) h) ∧ (0 ≤ s → EvI X (d + 3) mX11_clash 74 [(2, 78), (0, k), (0, w), (0, k - s), (0, t), (0, m), (0, m + 1)] [] sh pt h K) from ⟨z.1, fun s0 => b_X11_clash_59 hst ⟨fun q => absurd q (by omega), fun _ => ⟨⟨by omega, by omega⟩, z.2 s0⟩⟩⟩
    refine fo_loop (f := fun n s => if s < 0 ∨ clB E N t m n = 0 then s else if s = 0 then -1 - ((t * 20 + m) * 20 + n) else s + (-1)) (n := M) (fun n s => fcJ k s) (fun n s => (s < 0 → K (deC w (-1 - s)) h) ∧ (0 ≤ s → EvI X (d + 3) mX11_clash 74 [(2, 78), (0, k), (0, w), (0, k - s), (0, t), (0, m), (0, n)] [] sh pt h K)) ?_ (by omega) j (fun _ => ⟨kk.1, fun s0 => b_X11_clash_74 hst ⟨fun _ => ⟨⟨by omega, by omega⟩, kk.2 s0⟩, fun q => absurd q (by omega)⟩⟩)
    intro n s n0 n1 j
    try dsimp only at j ⊢
    have cb := clB_01 (E := E) (N := N) (t := t) (m := m) (n := n)
    by_cases q1 : s < 0 ∨ clB E N t m n = 0
    · rw [if_pos q1]
      exact ⟨j, fun kk => ⟨kk.1, fun s0 => b_X11_clash_74 hst ⟨fun q => absurd q (by omega), fun _ => m_clashes hst mr t0 (by omega) m0 m1 (by omega) (by omega) ⟨fun q => absurd q (by omega), fun q => ⟨⟨by omega, by omega⟩, kk.2 s0⟩⟩⟩⟩⟩
    · rw [if_neg q1]
      by_cases q2 : s = 0
      · rw [if_pos q2]
        refine ⟨by unfold fcJ; omega, fun kk => ⟨fun q => absurd q (by omega), fun s0 => b_X11_clash_74 hst ⟨fun q => absurd q (by omega), fun _ => m_clashes hst mr t0 (by omega) m0 m1 (by omega) (by omega) ⟨fun q => ⟨fun q => absurd q (by omega), fun _ => ?_⟩, fun q => absurd q (by omega)⟩⟩⟩⟩
        have z := kk.1 (by omega)
        rw [deC_at b.2.2.2 t0 m0 m1 (by omega) n1] at z
        refine ⟨fun r => ⟨fun r2 => ?_, fun r2 => ?_⟩, fun r => ?_⟩
        · rw [if_neg r, if_neg r2] at z; exact z
        · rw [if_neg r, if_pos r2] at z; exact z
        · rw [if_pos r] at z; exact z
      · rw [if_neg q2]
        have j' := j
        unfold fcJ at j'
        refine ⟨by unfold fcJ at j ⊢; omega, fun kk => ⟨fun q => absurd q (by omega), fun s0 => b_X11_clash_74 hst ⟨fun q => absurd q (by omega), fun _ => m_clashes hst mr t0 (by omega) m0 m1 (by omega) (by omega) ⟨fun q => ⟨fun _ => ⟨⟨by omega, by omega⟩, ⟨by omega, by omega⟩, ?_⟩, fun q => absurd q (by omega)⟩, fun q => absurd q (by omega)⟩⟩⟩⟩
        have z := kk.2 (by omega)
        rw [show k - (s + -1) = k - s + 1 by omega] at z
        exact z
  have z1 := z0.2 k0
  rw [show k - k = 0 by omega] at z1
  exact z1
theorem m_dressed_l {K : Int → qM → Prop} {g t s : Int} (hst : St sh pt) (mr : mrel h E N F T M) (hh : mhd h T M) (g0 : 0 ≤ g ∧ g < 8) (hs : h 85 g = s) (t0 : 0 ≤ t) (t1 : t ≤ T) (s0 : 0 ≤ s) (s1 : s ≤ 2147483647) : ∀ (k : Nat) (m n b b' x y : Int), 0 ≤ m → m + k = M → 0 ≤ n → n ≤ m → (n = 0 ∧ b' = -1 ∨ 0 < n ∧ b' = b ∧ 0 ≤ b ∧ b < m) → K (drs (tb s) E N t k m n b x y) h → EvI X (d + 1) mX11_dressed 83 [(2, 78), (0, g), (0, t), (0, b'), (0, n), (0, x), (0, y), (0, m), (8, -1), (8, -1)] [] sh pt h K := by
  have bb := mr.1
  have h1 := hh.1
  have h2 := hh.2
  intro k
  induction k with
  | zero =>
    intro m n b b' x y m0 e n0 n1 hb kk
    exact b_X11_dressed_83 hst ⟨fun _ => kk, fun q => absurd q (by omega)⟩
  | succ k ih =>
    intro m n b b' x y m0 e n0 n1 hb kk
    have z := mr.2 t m t0 t1 m0 (by omega)
    have bit := q_bitS (s := s) (m := m) s0 s1 m0 (by omega)
    refine b_X11_dressed_83 hst ⟨fun q => absurd q (by omega), fun _ => ⟨g0, ?_⟩⟩
    rw [hs]
    refine ⟨fun q => ?_, fun q => ⟨⟨by omega, by omega⟩, ?_⟩⟩
    · have w : tb s m = true := by
        by_cases w : tb s m = true
        · exact w
        · rw [bit, if_neg w] at q; omega
      refine ⟨fun q1 => ?_, fun q1 => ?_⟩
      · have e0 : n = 0 := by omega
        rw [drs_2 w e0] at kk
        refine ⟨⟨by omega, by omega⟩, ⟨by omega, by omega⟩, ?_⟩
        rw [e0]
        exact ih _ _ _ _ _ _ (by omega) (by omega) (by omega) (by omega) (by omega) kk
      · have eb : b' = b := by omega
        subst eb
        have z2 := mr.2 t b' t0 t1 q1 (by omega)
        refine b_X11_cell hst ⟨⟨by omega, by omega⟩, ⟨by omega, by omega⟩, by omega, b_X11_cell hst ⟨⟨by omega, by omega⟩, ⟨by omega, by omega⟩, by omega, ?_⟩⟩
        rw [z.1, z2.1]
        refine ⟨⟨by omega, by omega⟩, fun p ep => b_X11_cell hst ⟨⟨by omega, by omega⟩, ⟨by omega, by omega⟩, by omega, b_X11_cell hst ⟨⟨by omega, by omega⟩, ⟨by omega, by omega⟩, by omega, ?_⟩⟩⟩
        rw [z.2.1, z2.2.1]
        refine ⟨⟨by omega, by omega⟩, fun r er => ⟨fun q2 => ?_, fun q2 => ⟨fun q3 => ?_, fun q3 => ⟨fun q4 => ?_, fun q4 => ?_⟩⟩⟩⟩
        · have e1 : n = 1 := by omega
          rw [drs_3 w e1] at kk
          refine ⟨⟨by omega, by omega⟩, ⟨by omega, by omega⟩, ?_⟩
          rw [ep, er, e1]
          exact ih _ _ _ _ _ _ (by omega) (by omega) (by omega) (by omega) (by omega) kk
        · rw [drs_5 w q2 (fun z => q3 (by rw [ep]; exact z.1))] at kk
          exact kk
        · rw [drs_4 w q2 ⟨by rw [← ep]; exact q3, by rw [← er]; exact q4⟩] at kk
          rw [q3, q4]
          exact ⟨⟨by omega, by omega⟩, ⟨by omega, by omega⟩, ih _ _ _ _ _ _ (by omega) (by omega) (by omega) (by omega) (by omega) kk⟩
        · rw [drs_5 w q2 (fun z => q4 (by rw [er]; exact z.2))] at kk
          exact kk
    · have w : tb s m = false := by
        by_cases w : tb s m = true
        · rw [bit, if_pos w] at q; omega
        · simpa using w
      rw [drs_1 w] at kk
      exact ih _ _ _ _ _ _ (by omega) (by omega) n0 (by omega) (by omega) kk
/-! figures -/
theorem lo_100 {x : Int → Int} (M0 : 0 ≤ M) (hx : ∀ m, 0 ≤ m → m < M → x m ≤ 59) : 0 < M → fo (fun m a => min a (x m + 100)) 0 M 1000 = lo x M + 100 := by
  have z : ∀ (k : Nat) (m : Int) (a b : Int), 0 ≤ m → m + k = M → (m = 0 ∧ a = 1000 ∧ b = 60 ∨ 0 < m ∧ a = b + 100) → 0 < M → fo (fun m a => min a (x m + 100)) m M a = fo (fun m a => min a (x m)) m M b + 100 := by
    intro k
    induction k with
    | zero =>
      intro m a b m0 e q q2
      rw [fo_end (by omega), fo_end (by omega)]
      omega
    | succ k ih =>
      intro m a b m0 e q q2
      have := hx m m0 (by omega)
      rw [fo_step (by omega), fo_step (f := fun m a => min a (x m)) (by omega)]
      exact ih (m + 1) _ _ (by omega) (by omega) (by omega) q2
  exact z M.toNat 0 1000 60 (by decide) (by omega) (by omega)
theorem m_turn {K : qM → Prop} {t w a lE lN m e n : Int} (hst : St sh pt) (ha : qsh sh a = some (0, 20)) (w0 : 0 ≤ w) (w1 : w < 8) (en : 0 ≤ e ∧ e < 60 ∧ 0 ≤ n ∧ n < 40) (k : EvV X (d + 1) mX11_figure 73 [(2, 78), (0, t), (0, w), (2, a), (0, lE), (0, lN), (0, m), (0, xE w e n), (0, yN w e n), (0, 0), (8, -1)] [] sh pt h K) : EvV X (d + 1) mX11_figure 73 [(2, 78), (0, t), (0, w), (2, a), (0, lE), (0, lN), (0, m), (0, if 3 < w then -e else e), (0, n), (0, w % 4), (8, -1)] [] sh pt h K := by
  unfold xE yN at k
  rcases w8 w0 w1 with rfl | rfl | rfl | rfl | rfl | rfl | rfl | rfl
  all_goals simp only [Int.reduceEq, Int.reduceLT, Int.reduceMod, reduceIte] at k ⊢
  · exact k
  · exact b_X11_figure_73 hst ha ⟨fun q => absurd q (by decide), fun _ => ⟨⟨by omega, by omega⟩, ⟨by decide, by decide⟩, k⟩⟩
  · refine b_X11_figure_73 hst ha ⟨fun q => absurd q (by decide), fun _ => ⟨⟨by omega, by omega⟩, ⟨by decide, by decide⟩, ?_⟩⟩
    exact b_X11_figure_73 hst ha ⟨fun q => absurd q (by decide), fun _ => ⟨⟨by omega, by omega⟩, ⟨by decide, by decide⟩, k⟩⟩
  · refine b_X11_figure_73 hst ha ⟨fun q => absurd q (by decide), fun _ => ⟨⟨by omega, by omega⟩, ⟨by decide, by decide⟩, ?_⟩⟩
    refine b_X11_figure_73 hst ha ⟨fun q => absurd q (by decide), fun _ => ⟨⟨by omega, by omega⟩, ⟨by decide, by decide⟩, ?_⟩⟩
    refine b_X11_figure_73 hst ha ⟨fun q => absurd q (by decide), fun _ => ⟨⟨by omega, by omega⟩, ⟨by decide, by decide⟩, ?_⟩⟩
    rw [Int.neg_neg]
    exact k
  · exact k
  · refine b_X11_figure_73 hst ha ⟨fun q => absurd q (by decide), fun _ => ⟨⟨by omega, by omega⟩, ⟨by decide, by decide⟩, ?_⟩⟩
    rw [Int.neg_neg]
    exact k
  · refine b_X11_figure_73 hst ha ⟨fun q => absurd q (by decide), fun _ => ⟨⟨by omega, by omega⟩, ⟨by decide, by decide⟩, ?_⟩⟩
    refine b_X11_figure_73 hst ha ⟨fun q => absurd q (by decide), fun _ => ⟨⟨by omega, by omega⟩, ⟨by decide, by decide⟩, ?_⟩⟩
    rw [Int.neg_neg]
    exact k
  · refine b_X11_figure_73 hst ha ⟨fun q => absurd q (by decide), fun _ => ⟨⟨by omega, by omega⟩, ⟨by decide, by decide⟩, ?_⟩⟩
    refine b_X11_figure_73 hst ha ⟨fun q => absurd q (by decide), fun _ => ⟨⟨by omega, by omega⟩, ⟨by decide, by decide⟩, ?_⟩⟩
    refine b_X11_figure_73 hst ha ⟨fun q => absurd q (by decide), fun _ => ⟨⟨by omega, by omega⟩, ⟨by decide, by decide⟩, ?_⟩⟩
    rw [Int.neg_neg]
    exact k
theorem m_insert {K : qM → Prop} {a v lE lN m : Int} (hst : St sh pt) (ha : qsh sh a = some (0, 20)) (m0 : m < 20) : ∀ (k : Nat) (r : Int → Int), (k : Int) ≤ m → EvV X (d + 1) mX11_figure 149 [(2, 78), (8, -1), (8, -1), (2, a), (0, lE), (0, lN), (0, m + 1), (8, -1), (8, -1), (8, -1), (8, -1)] [] sh pt (qrow h a (ins k r v)) K → EvV X (d + 1) mX11_figure 178 [(2, 78), (8, -1), (8, -1), (2, a), (0, lE), (0, lN), (0, m), (0, v), (0, (k : Int)), (8, -1), (8, -1)] [] sh pt (qrow h a r) K := by
  intro k
  induction k with
  | zero =>
    intro r k1 kk
    exact b_X11_figure_178 hst ha ⟨fun _ => ⟨⟨by omega, by omega⟩, fun h2 e2 => ⟨⟨by omega, by omega⟩, by rw [e2, qrow_up]; exact kk⟩⟩, fun q => absurd q (by decide)⟩
  | succ k ih =>
    intro r k1 kk
    have e1 : ((k + 1 : Nat) : Int) - 1 = k := by omega
    have e2 : ((k + 1 : Nat) : Int) + (-1) = k := by omega
    have e3 : ((k + 1 : Nat) : Int) = (k : Int) + 1 := by omega
    refine b_X11_figure_178 hst ha ?_
    rw [e1, e2, e3, qrow_at]
    refine ⟨fun q => absurd q (by omega), fun _ => ⟨⟨by omega, by omega⟩, ⟨by omega, by omega⟩, fun q => ⟨⟨by omega, by omega⟩, fun h2 e2 => ⟨⟨by omega, by omega⟩, ?_⟩⟩, fun q => ⟨⟨by omega, by omega⟩, ⟨by omega, by omega⟩, ⟨by omega, by omega⟩, fun h2 e2 => ⟨⟨by omega, by omega⟩, ?_⟩⟩⟩⟩
    · rw [e2, qrow_up]
      unfold ins at kk
      rw [if_neg (by omega)] at kk
      exact kk
    · rw [e2, qrow_up]
      unfold ins at kk
      rw [if_pos q] at kk
      exact ih _ (by omega) kk
theorem mrel_row {a : Int} {r : Int → Int} (mr : mrel h E N F T M) (e : a = 113 ∨ a = 114) : mrel (qrow h a r) E N F T M := by
  refine ⟨mr.1, fun t m a b u v => ?_⟩
  rw [qrow_of (by omega), qrow_of (by omega), qrow_of (by omega)]
  exact mr.2 t m a b u v
theorem mr_en {t : Int} (mr : mrel h E N F T M) (t0 : 0 ≤ t) (t1 : t ≤ T) : enOk E N M t := fun m a b => by
  have := mr.2 t m t0 t1 a b
  omega
def raw (E N : Int → Int → Int) (t w m : Int) : Int := 1000 * (kX E N t w m + 100) + kY E N t w m + 100
theorem m_figure {K : qM → Prop} {t w a : Int} (hst : St sh pt) (ha : a = 113 ∨ a = 114) (mr : mrel h E N F T M) (hh : mhd h T M) (t0 : 0 ≤ t) (t1 : t ≤ T) (w0 : 0 ≤ w) (w1 : w < 8) (k : ∀ r : Int → Int, (∀ j, 0 ≤ j → j < M → r j = fig E N M t w j) → K (qrow h a r)) : RunV X (d + 1) mX11_figure [(2, 78), (0, t), (0, w), (2, a)] sh pt h K := by
  have b := mr.1
  have h1 := hh.1
  have h2 := hh.2
  have en := mr_en mr t0 t1
  obtain ⟨A, B, hA, hxy⟩ := xy_rng w0 w1
  have bx : ∀ m, 0 ≤ m → m < M → A ≤ kX E N t w m ∧ kX E N t w m ≤ A + 59 ∧ B ≤ kY E N t w m ∧ kY E N t w m ≤ B + 59 := fun m m0 m1 => hxy _ _ (en m m0 m1).1 (en m m0 m1).2.1 (en m m0 m1).2.2.1 (en m m0 m1).2.2.2
  have sa : qsh sh a = some (0, 20) := by
    rcases ha with e | e
    · rw [e]; exact s_113 hst
    · rw [e]; exact s_114 hst
  refine b_X11_figure hst sa ?_
  have e0 : h = qrow h a (h a) := qrow_id.symm
  suffices z : EvV X (d + 1) mX11_figure 13 [(2, 78), (0, t), (0, w), (2, a), (0, 1000), (0, 1000), (0, 0), (8, -1), (8, -1), (8, -1), (8, -1)] [] sh pt (qrow h a (h a)) K by
    rw [← e0] at z
    exact z
  refine fo_loop (σ := (Int × Int) × (Int → Int)) (f := fun m s => ((min s.1.1 (kX E N t w m + 100), min s.1.2 (kY E N t w m + 100)), rup s.2 m (raw E N t w m))) (n := M) (a := ((1000, 1000), h a)) (fun m s => s.1.1 = fo (fun m a => min a (kX E N t w m + 100)) 0 m 1000 ∧ s.1.2 = fo (fun m a => min a (kY E N t w m + 100)) 0 m 1000 ∧ ∀ j, 0 ≤ j → j < m → s.2 j = raw E N t w j) (fun m s => EvV X (d + 1) mX11_figure 13 [(2, 78), (0, t), (0, w), (2, a), (0, s.1.1), (0, s.1.2), (0, m), (8, -1), (8, -1), (8, -1), (8, -1)] [] sh pt (qrow h a s.2) K) ?_ b.2.2.1 ⟨rfl, rfl, fun j a b => absurd a (by omega)⟩ ?_
  · intro m s m0 m1 j
    try dsimp only at j ⊢
    have z := mr.2 t m t0 t1 m0 m1
    have bm := bx m m0 m1
    have q6 : qrow h a s.2 106 (20 * t + m) = E t m ∧ qrow h a s.2 107 (20 * t + m) = N t m := by
      rw [qrow_of (by omega), qrow_of (by omega)]
      exact ⟨z.1, z.2.1⟩
    have q7 : qrow h a s.2 78 50 = M := by rw [qrow_of (by omega)]; exact h2
    refine ⟨⟨?_, ?_, fun i i0 i1 => ?_⟩, fun kk => ?_⟩
    · rw [j.1]
      exact (fo_snoc (f := fun m a => min a (kX E N t w m + 100)) m0).symm
    · rw [j.2.1]
      exact (fo_snoc (f := fun m a => min a (kY E N t w m + 100)) m0).symm
    · by_cases e : i = m
      · rw [e, rup_at]
      · rw [rup_of e]; exact j.2.2 i i0 (by omega)
    · have go : EvV X (d + 1) mX11_figure 53 [(2, 78), (0, t), (0, w), (2, a), (0, s.1.1), (0, s.1.2), (0, m), (8, -1), (8, -1), (8, -1), (8, -1)] [(0, if 3 < w then -E t m else E t m)] sh pt (qrow h a s.2) K := by
        refine b_X11_figure_53 hst sa (b_X11_cell hst ⟨⟨by omega, by omega⟩, ⟨by omega, by omega⟩, by omega, w0, ?_⟩)
        rw [q6.2]
        refine m_turn hst sa w0 w1 (by omega) ?_
        have ex : xE w (E t m) (N t m) = kX E N t w m := rfl
        have ey : yN w (E t m) (N t m) = kY E N t w m := rfl
        rw [ex, ey]
        refine b_X11_figure_73 hst sa ⟨fun _ => ⟨⟨by omega, by omega⟩, ⟨by omega, by omega⟩, ⟨by omega, by omega⟩, ⟨by omega, by omega⟩, ⟨by omega, by omega⟩, fun h3 e3 => ⟨⟨by omega, by omega⟩, x_min hst ⟨⟨by omega, by omega⟩, x_min hst ⟨⟨by omega, by omega⟩, ?_⟩⟩⟩⟩, fun q => absurd q (by decide)⟩
        rw [e3, qrow_up]
        exact kk
      refine b_X11_figure_13 hst sa ⟨fun q => absurd q (by omega), fun _ => ⟨fun q => b_X11_cell hst ⟨⟨by omega, by omega⟩, ⟨by omega, by omega⟩, by omega, ?_⟩, fun q => b_X11_cell hst ⟨⟨by omega, by omega⟩, ⟨by omega, by omega⟩, by omega, ?_⟩⟩⟩
      · rw [q6.1]
        rw [if_neg (by omega)] at go
        exact go
      · rw [q6.1]
        rw [if_pos q] at go
        exact ⟨⟨by omega, by omega⟩, go⟩
  · intro j
    try dsimp only at j ⊢
    generalize fo (fun m (s : (Int × Int) × (Int → Int)) => ((min s.1.1 (kX E N t w m + 100), min s.1.2 (kY E N t w m + 100)), rup s.2 m (raw E N t w m))) 0 M ((1000, 1000), h a) = s at j ⊢
    obtain ⟨j1, j2, j3⟩ := j
    have q7 : ∀ r, qrow h a r 78 50 = M := fun r => by rw [qrow_of (by omega)]; exact h2
    refine b_X11_figure_13 hst sa ⟨fun _ => ?_, fun q => absurd q (by rw [q7]; omega)⟩
    have e5 : 0 < M → s.1.1 = lo (kX E N t w) M + 100 ∧ s.1.2 = lo (kY E N t w) M + 100 := fun q => by
      rw [j1, j2]
      exact ⟨lo_100 b.2.2.1 (fun m m0 m1 => by have := bx m m0 m1; omega) q, lo_100 b.2.2.1 (fun m m0 m1 => by have := bx m m0 m1; omega) q⟩
    have e6 : ∀ m, 0 ≤ m → m < M → raw E N t w m - 1000 * s.1.1 - s.1.2 = key E N M t w m := fun m m0 m1 => by
      have := e5 (by omega)
      unfold raw key
      omega
    refine fo_loop (f := fun m r => ins m.toNat r (key E N M t w m)) (n := M) (a := s.2) (fun m r => ∀ j, m ≤ j → j < M → r j = raw E N t w j) (fun m r => EvV X (d + 1) mX11_figure 149 [(2, 78), (8, -1), (8, -1), (2, a), (0, s.1.1), (0, s.1.2), (0, m), (8, -1), (8, -1), (8, -1), (8, -1)] [] sh pt (qrow h a r) K) ?_ b.2.2.1 (fun j a b => j3 j a b) ?_
    · intro m r m0 m1 j4
      have em : ((m.toNat : Nat) : Int) = m := by omega
      have rm := j4 m (by omega) m1
      have bm := bx m m0 m1
      have kb := key_ok (E := E) (N := N) (t := t) (w := w) (m := m) b.2.2.1 en w0 w1 m0 m1
      have e7 := e6 m m0 m1
      have e8 := e5 (by omega)
      have lb := lo_bd (x := kX E N t w) (A := A) b.2.2.1 (by omega) (fun j a b => (bx j a b).1)
      have lb1 := lb.2 m m0 m1
      refine ⟨fun j a b => ?_, fun kk => b_X11_figure_149 hst sa ⟨fun q => absurd q (by rw [q7]; omega), fun _ => ⟨⟨by omega, by omega⟩, ⟨by omega, by omega⟩, ?_⟩⟩⟩
      · rw [ins_hi _ _ _ _ (by omega)]
        exact j4 j (by omega) b
      · rw [qrow_at, rm]
        have ek : key E N M t w m = 1000 * (kX E N t w m - lo (kX E N t w) M) + (kY E N t w m - lo (kY E N t w) M) := rfl
        have er : raw E N t w m = 1000 * (kX E N t w m + 100) + kY E N t w m + 100 := rfl
        refine ⟨⟨by omega, by omega⟩, ⟨by omega, by omega⟩, fun x ex => ?_⟩
        rw [e7] at ex
        rw [ex]
        have z := m_insert (X := X) (d := d) (h := h) (K := K) (a := a) (v := key E N M t w m) (lE := s.1.1) (lN := s.1.2) (m := m) hst sa (by omega) m.toNat r (by omega)
        rw [em] at z
        exact z kk
    · intro _
      refine b_X11_figure_149 hst sa ⟨fun _ => k _ (fun j a b => ?_), fun q => absurd q (by rw [q7]; omega)⟩
      exact (fig_rel (φ := fun x => x) (r0 := s.2) (fun _ _ _ _ => Iff.rfl) mr.1.2.2.1 en w0 w1 j a b).2
end
