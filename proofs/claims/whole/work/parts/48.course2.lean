theorem sq_bd {x : Int} (a : -60 ≤ x) (b : x ≤ 60) : 0 ≤ x * x ∧ x * x ≤ 3600 := by
  have h1 : 0 ≤ (60 - x) * (60 + x) := Int.mul_nonneg (by omega) (by omega)
  have h2 : 0 ≤ x * x := by
    rcases Int.le_total 0 x with h | h
    · exact Int.mul_nonneg h h
    · have := Int.mul_nonneg (show 0 ≤ -x by omega) (show 0 ≤ -x by omega)
      rw [Int.neg_mul_neg] at this
      exact this
  have e : (60 - x) * (60 + x) = 3600 - x * x := by
    rw [Int.sub_mul, Int.mul_add, Int.mul_add, Int.mul_comm x 60]
    omega
  omega
theorem mul_bd {x y a b : Int} (x0 : -a ≤ x) (x1 : x ≤ a) (y0 : -b ≤ y) (y1 : y ≤ b) : -(a * b) ≤ x * y ∧ x * y ≤ a * b := by
  have h1 : 0 ≤ (a - x) * (b - y) := Int.mul_nonneg (by omega) (by omega)
  have h2 : 0 ≤ (a - x) * (b + y) := Int.mul_nonneg (by omega) (by omega)
  have h3 : 0 ≤ (a + x) * (b - y) := Int.mul_nonneg (by omega) (by omega)
  have h4 : 0 ≤ (a + x) * (b + y) := Int.mul_nonneg (by omega) (by omega)
  rw [Int.sub_mul, Int.mul_sub, Int.mul_sub] at h1
  rw [Int.sub_mul, Int.mul_add, Int.mul_add] at h2
  rw [Int.add_mul, Int.mul_sub, Int.mul_sub] at h3
  rw [Int.add_mul, Int.mul_add, Int.mul_add] at h4
  omega
def sqr (E N : Int → Int → Int) (t m : Int) : Int := (E t m - E (t - 1) m) * (E t m - E (t - 1) m) + (N t m - N (t - 1) m) * (N t m - N (t - 1) m)
def hiM (p : Int → Int → Int) (E N : Int → Int → Int) (M t a : Int) : Int := fo (fun m a => a + qB (p (E t m) (N t m) ≠ 0)) 0 M a
def hiO (p : Int → Int → Int) (E N : Int → Int → Int) (T M : Int) : Int := fo (fun t a => hiM p E N M t a) 0 (T + 1) 0
def saM (E N : Int → Int → Int) (M l t a : Int) : Int := fo (fun m a => a + qB (l < sqr E N t m)) 0 M a
def saO (E N : Int → Int → Int) (T M l : Int) : Int := fo (fun t a => saM E N M l t a) 1 (T + 1) 0
def gsM (E N : Int → Int → Int) (M t a : Int) : Int := fo (fun m a => max a (sqr E N t m)) 0 M a
def gsO (E N : Int → Int → Int) (T M : Int) : Int := fo (fun t a => gsM E N M t a) 1 (T + 1) 0
theorem hiM_bd {p E N : Int → Int → Int} {M t a : Int} (hM : 0 ≤ M ∧ M ≤ 20) : a ≤ hiM p E N M t a ∧ hiM p E N M t a ≤ a + 20 := by
  have h := fo_bd (f := fun m a => a + qB (p (E t m) (N t m) ≠ 0)) (i := 0) (n := M) (a := a) (w := 1) (fun j b _ _ => by have := qB01 (p := p (E t j) (N t j) ≠ 0); omega) hM.1
  unfold hiM
  omega
theorem saM_bd {E N : Int → Int → Int} {M t l a : Int} (hM : 0 ≤ M ∧ M ≤ 20) : a ≤ saM E N M l t a ∧ saM E N M l t a ≤ a + 20 := by
  have h := fo_bd (f := fun m a => a + qB (l < sqr E N t m)) (i := 0) (n := M) (a := a) (w := 1) (fun j b _ _ => by have := qB01 (p := l < sqr E N t j); omega) hM.1
  unfold saM
  omega
section
variable {X : qX} {d : Nat} {sh : qS} {pt h : qM} {c : Int} {E N F : Int → Int → Int} {T M : Int}
theorem x_stepSquare {K : Int → qM → Prop} {t m : Int} (hst : St sh pt) (hc : isC c) (cr : crel h c E N F T M) (t0 : 1 ≤ t) (t1 : t ≤ T) (m0 : 0 ≤ m) (m1 : m < M) (k : K (sqr E N t m) h) : RunI X (d + 1) mX0_stepSquare [(2, c), (0, t), (0, m)] sh pt h K := by
  have b := cr.1
  have z1 := cr.2 t m (by omega) t1 m0 m1
  have z2 := cr.2 (t - 1) m (by omega) (by omega) m0 m1
  have s1 := sq_bd (x := E t m - E (t - 1) m) (by omega) (by omega)
  have s2 := sq_bd (x := N t m - N (t - 1) m) (by omega) (by omega)
  refine b_X0_stepSquare hst hc (x_eastOf hst hc cr (by omega) (by omega) m0 m1 ⟨⟨by omega, by omega⟩, x_eastOf hst hc cr (by omega) (by omega) m0 m1 ⟨⟨by omega, by omega⟩, x_northOf hst hc cr (by omega) (by omega) m0 m1 ⟨⟨by omega, by omega⟩, x_northOf hst hc cr (by omega) (by omega) m0 m1 ⟨⟨by omega, by omega⟩, ⟨by omega, by omega⟩, ⟨by omega, by omega⟩, ⟨by omega, by omega⟩, k⟩⟩⟩⟩)
theorem sqr_bd {t m : Int} (cr : crel h c E N F T M) (t0 : 1 ≤ t) (t1 : t ≤ T) (m0 : 0 ≤ m) (m1 : m < M) : 0 ≤ sqr E N t m ∧ sqr E N t m ≤ 7200 := by
  have z1 := cr.2 t m (by omega) t1 m0 m1
  have z2 := cr.2 (t - 1) m (by omega) (by omega) m0 m1
  have s1 := sq_bd (x := E t m - E (t - 1) m) (by omega) (by omega)
  have s2 := sq_bd (x := N t m - N (t - 1) m) (by omega) (by omega)
  unfold sqr
  omega
theorem x_stepsAbove {K : Int → qM → Prop} {l : Int} (hst : St sh pt) (hc : isC c) (cr : crel h c E N F T M) (hM : h c 4 = M) (hT : h c 5 = T) (M0 : 0 ≤ M) (T0 : 0 ≤ T) (k : K (saO E N T M l) h) : RunI X (d + 2) mX0_stepsAbove [(2, c), (0, l)] sh pt h K := by
  have b := cr.1
  refine b_X0_stepsAbove hst hc ?_
  refine fo_loop (f := fun t a => saM E N M l t a) (n := T + 1) (fun t a => 0 ≤ a ∧ a ≤ 20 * t) (fun t a => EvI X (d + 2) mX0_stepsAbove 4 [(2, c), (0, l), (0, a), (0, t), (8, -1)] [] sh pt h K) ?_ (by omega) (by omega) (fun _ => b_X0_stepsAbove_4 hst hc ⟨fun _ => k, fun q => absurd q (by omega)⟩)
  intro t a t0 t1 j
  try dsimp only at j ⊢
  have cb := saM_bd (E := E) (N := N) (M := M) (t := t) (l := l) (a := a) ⟨M0, b.2⟩
  refine ⟨by omega, fun kk => b_X0_stepsAbove_4 hst hc ⟨fun q => absurd q (by omega), fun _ => ?_⟩⟩
  refine fo_loop (f := fun m a => a + qB (l < sqr E N t m)) (n := M) (fun m e => 0 ≤ e ∧ e ≤ a + m) (fun m e => EvI X (d + 2) mX0_stepsAbove 15 [(2, c), (0, l), (0, e), (0, t), (0, m)] [] sh pt h K) ?_ (by omega) (by omega) (fun _ => b_X0_stepsAbove_15 hst hc ⟨fun _ => ⟨⟨by omega, by omega⟩, kk⟩, fun q => absurd q (by omega)⟩)
  intro m e m0 m1 j2
  try dsimp only at j2 ⊢
  have cb2 := qB01 (p := l < sqr E N t m)
  refine ⟨by omega, fun kk => b_X0_stepsAbove_15 hst hc ⟨fun q => absurd q (by omega), fun _ => x_stepSquare hst hc cr (by omega) (by omega) m0 m1 ⟨fun q => ⟨⟨by omega, by omega⟩, ⟨by omega, by omega⟩, ?_⟩, fun q => ⟨⟨by omega, by omega⟩, ⟨by omega, by omega⟩, ?_⟩⟩⟩⟩
  · rw [qB_f (by omega)] at kk
    exact kk
  · rw [qB_t q] at kk
    exact kk
theorem x_greatestStep {K : Int → qM → Prop} (hst : St sh pt) (hc : isC c) (cr : crel h c E N F T M) (hM : h c 4 = M) (hT : h c 5 = T) (M0 : 0 ≤ M) (T0 : 0 ≤ T) (k : K (gsO E N T M) h) : RunI X (d + 2) mX0_greatestStep [(2, c)] sh pt h K := by
  have b := cr.1
  refine b_X0_greatestStep hst hc ?_
  refine fo_loop (f := fun t a => gsM E N M t a) (n := T + 1) (fun t a => True) (fun t a => EvI X (d + 2) mX0_greatestStep 4 [(2, c), (0, a), (0, t), (8, -1)] [] sh pt h K) ?_ (by omega) trivial (fun _ => b_X0_greatestStep_4 hst hc ⟨fun _ => k, fun q => absurd q (by omega)⟩)
  intro t a t0 t1 j
  refine ⟨trivial, fun kk => b_X0_greatestStep_4 hst hc ⟨fun q => absurd q (by omega), fun _ => ?_⟩⟩
  refine fo_loop (f := fun m a => max a (sqr E N t m)) (n := M) (fun m e => True) (fun m e => EvI X (d + 2) mX0_greatestStep 14 [(2, c), (0, e), (0, t), (0, m)] [] sh pt h K) ?_ (by omega) trivial (fun _ => b_X0_greatestStep_14 hst hc ⟨fun _ => ⟨⟨by omega, by omega⟩, kk⟩, fun q => absurd q (by omega)⟩)
  intro m e m0 m1 j2
  refine ⟨trivial, fun kk => b_X0_greatestStep_14 hst hc ⟨fun q => absurd q (by omega), fun _ => x_stepSquare hst hc cr (by omega) (by omega) m0 m1 (x_max hst ⟨⟨by omega, by omega⟩, kk⟩)⟩⟩
theorem x_hits {K : Int → qM → Prop} {p : Int → Int → Int} (hst : St sh pt) (hc : isC c) (cr : crel h c E N F T M) (hM : h c 4 = M) (hT : h c 5 = T) (M0 : 0 ≤ M) (T0 : 0 ≤ T) (hb : ∀ n, 0 ≤ n → n < 40 → 0 ≤ h 6 n ∧ h 6 n ≤ 1152921504606846975) (hp : ∀ e n, 0 ≤ e → e < 60 → 0 ≤ n → n < 40 → (tb (h 6 n) e = true ↔ p e n ≠ 0)) (k : K (hiO p E N T M) h) : RunI X (d + 2) mX0_hits [(2, c), (2, 2)] sh pt h K := by
  have b := cr.1
  refine b_X0_hits hst hc ?_
  refine fo_loop (f := fun t a => hiM p E N M t a) (n := T + 1) (fun t a => 0 ≤ a ∧ a ≤ 20 * t) (fun t a => EvI X (d + 2) mX0_hits 4 [(2, c), (2, 2), (0, a), (0, t), (8, -1)] [] sh pt h K) ?_ (by omega) (by omega) (fun _ => b_X0_hits_4 hst hc ⟨fun _ => k, fun q => absurd q (by omega)⟩)
  intro t a t0 t1 j
  try dsimp only at j ⊢
  have cb := hiM_bd (p := p) (E := E) (N := N) (M := M) (t := t) (a := a) ⟨M0, b.2⟩
  refine ⟨by omega, fun kk => b_X0_hits_4 hst hc ⟨fun q => absurd q (by omega), fun _ => ?_⟩⟩
  refine fo_loop (f := fun m a => a + qB (p (E t m) (N t m) ≠ 0)) (n := M) (fun m e => 0 ≤ e ∧ e ≤ a + m) (fun m e => EvI X (d + 2) mX0_hits 15 [(2, c), (2, 2), (0, e), (0, t), (0, m)] [] sh pt h K) ?_ (by omega) (by omega) (fun _ => b_X0_hits_15 hst hc ⟨fun _ => ⟨⟨by omega, by omega⟩, kk⟩, fun q => absurd q (by omega)⟩)
  intro m e m0 m1 j2
  try dsimp only at j2 ⊢
  have cb2 := qB01 (p := p (E t m) (N t m) ≠ 0)
  have z := cr.2 t m t0 (by omega) m0 m1
  have zb := hb (N t m) (by omega) (by omega)
  have bit := ql_bit (s := h 6 (N t m)) (m := E t m) zb.1 (by omega) (by omega) (by omega)
  have zp := hp (E t m) (N t m) (by omega) (by omega) (by omega) (by omega)
  refine ⟨by omega, fun kk => b_X0_hits_15 hst hc ⟨fun q => absurd q (by omega), fun _ => x_eastOf hst hc cr t0 (by omega) m0 m1 (x_northOf hst hc cr t0 (by omega) m0 m1 (b_X2_hasProp hst ⟨by omega, ?_⟩))⟩⟩
  rw [bit]
  by_cases q : tb (h 6 (N t m)) (E t m) = true
  · rw [if_pos q]
    rw [qB_t (zp.mp q)] at kk
    exact ⟨fun q => absurd q (by decide), fun _ => ⟨fun q => absurd q (by decide), fun _ => ⟨⟨by omega, by omega⟩, ⟨by omega, by omega⟩, kk⟩⟩⟩
  · rw [if_neg q]
    rw [qB_f (fun z => q (zp.mpr z))] at kk
    exact ⟨fun _ => ⟨fun _ => ⟨⟨by omega, by omega⟩, ⟨by omega, by omega⟩, kk⟩, fun q => absurd rfl q⟩, fun q => absurd rfl q⟩
end
