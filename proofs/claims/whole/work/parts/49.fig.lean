/-! figures: the class -/
def rup (r : Int → Int) (i v : Int) : Int → Int := fun j => if j = i then v else r j
def qrow (h : qM) (a : Int) (r : Int → Int) : qM := fun x i => if x = a then r i else h x i
theorem qrow_at {h : qM} {a i : Int} {r : Int → Int} : qrow h a r a i = r i := if_pos rfl
theorem qrow_of {h : qM} {a x i : Int} {r : Int → Int} (e : ¬ x = a) : qrow h a r x i = h x i := if_neg e
theorem qrow_id {h : qM} {a : Int} : qrow h a (h a) = h := by
  funext x i
  by_cases e : x = a
  · rw [e, qrow_at]
  · rw [qrow_of e]
theorem qrow_rw {h : qM} {a : Int} {r : Int → Int} : qrow h a r a = r := by
  funext i
  exact qrow_at
theorem qrow_qrow {h : qM} {a : Int} {r r2 : Int → Int} : qrow (qrow h a r) a r2 = qrow h a r2 := by
  funext x i
  by_cases e : x = a
  · rw [e, qrow_at, qrow_at]
  · rw [qrow_of e, qrow_of e, qrow_of e]
theorem qrow_up {h : qM} {a i v : Int} {r : Int → Int} : qup (qrow h a r) a i v = qrow h a (rup r i v) := by
  funext x j
  unfold qup qrow rup
  by_cases e : x = a
  · rw [if_pos e, if_pos e]
    by_cases e2 : j = i
    · rw [if_pos ⟨e, e2⟩, if_pos e2]
    · rw [if_neg (fun z => e2 z.2), if_neg e2]
  · rw [if_neg e, if_neg e, if_neg (fun z => e z.1)]
theorem rup_at {r : Int → Int} {i v : Int} : rup r i v i = v := if_pos rfl
theorem rup_of {r : Int → Int} {i v j : Int} (e : ¬ j = i) : rup r i v j = r j := if_neg e
theorem qup_qrow {h : qM} {a i v : Int} : qup h a i v = qrow h a (rup (h a) i v) := by
  rw [← qrow_up, qrow_id]
theorem Fr.row {P : Int → Int → Prop} {h h1 : qM} {a : Int} {r : Int → Int} (f : Fr P h h1) (w : ∀ i, P a i) : Fr P h (qrow h1 a r) := fun x i q => by
  have e : ¬ x = a := fun z => q (by rw [z]; exact w i)
  rw [qrow_of e]
  exact f x i q
/-- putting in, in rising order -/
def ins : Nat → (Int → Int) → Int → (Int → Int)
  | 0, r, v => rup r 0 v
  | k + 1, r, v => if v < r k then ins k (rup r (k + 1) (r k)) v else rup r (k + 1) v
theorem ins_hi : ∀ (k : Nat) (r : Int → Int) (v j : Int), (k : Int) < j → ins k r v j = r j
  | 0, r, v, j, h => by
    show rup r 0 v j = r j
    exact rup_of (by omega)
  | k + 1, r, v, j, h => by
    unfold ins
    by_cases e : v < r k
    · rw [if_pos e, ins_hi k _ v j (by omega), rup_of (by omega)]
    · rw [if_neg e, rup_of (by omega)]
theorem ins_rel {V : Int → Prop} {φ : Int → Int} (mono : ∀ x y, V x → V y → (x < y ↔ φ x < φ y)) : ∀ (k : Nat) (r r' : Int → Int) (v : Int), V v → (∀ j : Int, 0 ≤ j → j < k → V (r j) ∧ r' j = φ (r j)) → ∀ j : Int, 0 ≤ j → j ≤ k → V (ins k r v j) ∧ ins k r' (φ v) j = φ (ins k r v j)
  | 0, r, r', v, hv, hr, j, a, b => by
    have e : j = 0 := by omega
    subst e
    show V (rup r 0 v 0) ∧ rup r' 0 (φ v) 0 = φ (rup r 0 v 0)
    rw [rup_at, rup_at]
    exact ⟨hv, rfl⟩
  | k + 1, r, r', v, hv, hr, j, a, b => by
    have z := hr k (by omega) (by omega)
    have m := mono v (r k) hv z.1
    unfold ins
    rw [z.2]
    by_cases e : v < r k
    · rw [if_pos e, if_pos (m.mp e)]
      by_cases e2 : j ≤ k
      · refine ins_rel mono k _ _ v hv (fun i i0 i1 => ?_) j a e2
        rw [rup_of (by omega), rup_of (by omega)]
        exact hr i i0 (by omega)
      · have e3 : j = k + 1 := by omega
        rw [ins_hi k _ v j (by omega), ins_hi k _ _ j (by omega), e3, rup_at, rup_at]
        exact ⟨z.1, rfl⟩
    · rw [if_neg e, if_neg (fun q => e (m.mpr q))]
      by_cases e2 : j = k + 1
      · rw [e2, rup_at, rup_at]
        exact ⟨hv, rfl⟩
      · rw [rup_of e2, rup_of e2]
        exact hr j a (by omega)
/-- moved by a way -/
def xE (w e n : Int) : Int := if w = 0 then e else if w = 1 then n else if w = 2 then -e else if w = 3 then -n else if w = 4 then -e else if w = 5 then n else if w = 6 then e else -n
def yN (w e n : Int) : Int := if w = 0 then n else if w = 1 then -e else if w = 2 then -n else if w = 3 then e else if w = 4 then n else if w = 5 then e else if w = 6 then -n else -e
theorem w8 {w : Int} (h0 : 0 ≤ w) (h1 : w < 8) : w = 0 ∨ w = 1 ∨ w = 2 ∨ w = 3 ∨ w = 4 ∨ w = 5 ∨ w = 6 ∨ w = 7 := by omega
theorem xy_rng {w : Int} (h0 : 0 ≤ w) (h1 : w < 8) : ∃ A B : Int, (-59 ≤ A ∧ A ≤ 0 ∧ -59 ≤ B ∧ B ≤ 0) ∧ ∀ e n : Int, 0 ≤ e → e < 60 → 0 ≤ n → n < 40 → A ≤ xE w e n ∧ xE w e n ≤ A + 59 ∧ B ≤ yN w e n ∧ yN w e n ≤ B + 59 := by
  rcases w8 h0 h1 with rfl | rfl | rfl | rfl | rfl | rfl | rfl | rfl
  · exact ⟨0, 0, by decide, fun e n a b c d => by simp only [xE, yN, Int.reduceEq, reduceIte]; omega⟩
  · exact ⟨0, -59, by decide, fun e n a b c d => by simp only [xE, yN, Int.reduceEq, reduceIte]; omega⟩
  · exact ⟨-59, -59, by decide, fun e n a b c d => by simp only [xE, yN, Int.reduceEq, reduceIte]; omega⟩
  · exact ⟨-59, 0, by decide, fun e n a b c d => by simp only [xE, yN, Int.reduceEq, reduceIte]; omega⟩
  · exact ⟨-59, 0, by decide, fun e n a b c d => by simp only [xE, yN, Int.reduceEq, reduceIte]; omega⟩
  · exact ⟨0, 0, by decide, fun e n a b c d => by simp only [xE, yN, Int.reduceEq, reduceIte]; omega⟩
  · exact ⟨0, -59, by decide, fun e n a b c d => by simp only [xE, yN, Int.reduceEq, reduceIte]; omega⟩
  · exact ⟨-59, -59, by decide, fun e n a b c d => by simp only [xE, yN, Int.reduceEq, reduceIte]; omega⟩
def lo (x : Int → Int) (M : Int) : Int := fo (fun m a => min a (x m)) 0 M 60
theorem lo_bd {x : Int → Int} {M A : Int} (M0 : 0 ≤ M) (hA : A ≤ 60) (hx : ∀ m, 0 ≤ m → m < M → A ≤ x m) : A ≤ lo x M ∧ ∀ m, 0 ≤ m → m < M → lo x M ≤ x m := by
  have z := fo_inv (f := fun m a => min a (x m)) (i := 0) (n := M) (a := 60) (fun m a => A ≤ a ∧ ∀ j, 0 ≤ j → j < m → a ≤ x j) (fun m a m0 m1 q => ?_) M0 ⟨hA, fun j a b => absurd a (by omega)⟩
  · exact z
  · have z1 := hx m m0 m1
    refine ⟨by have := q.1; (try dsimp only); omega, fun j j0 j1 => ?_⟩
    by_cases e : j = m
    · rw [e]; exact Int.min_le_right _ _
    · have := q.2 j j0 (by omega)
      try dsimp only
      omega
def kX (E N : Int → Int → Int) (t w m : Int) : Int := xE w (E t m) (N t m)
def kY (E N : Int → Int → Int) (t w m : Int) : Int := yN w (E t m) (N t m)
def key (E N : Int → Int → Int) (M t w m : Int) : Int := 1000 * (kX E N t w m - lo (kX E N t w) M) + (kY E N t w m - lo (kY E N t w) M)
def fig (E N : Int → Int → Int) (M t w : Int) : Int → Int := fo (fun m r => ins m.toNat r (key E N M t w m)) 0 M (fun _ => 0)
def vk (x : Int) : Prop := 0 ≤ x ∧ x % 1000 ≤ 59 ∧ x / 1000 ≤ 59
def ps (x : Int) : Int := x / 1000 * 60 + x % 1000
theorem ps_mono (x y : Int) (hx : vk x) (hy : vk y) : x < y ↔ ps x < ps y := by
  unfold vk at hx hy
  unfold ps
  omega
theorem ps_inj {x y : Int} (hx : vk x) (hy : vk y) : x = y ↔ ps x = ps y := by
  unfold vk at hx hy
  unfold ps
  omega
section
variable {X : qX} {d : Nat} {sh : qS} {pt h : qM} {c : Int} {E N F : Int → Int → Int} {T M : Int}
def enOk (E N : Int → Int → Int) (M t : Int) : Prop := ∀ m, 0 ≤ m → m < M → 0 ≤ E t m ∧ E t m < 60 ∧ 0 ≤ N t m ∧ N t m < 40
theorem key_ok {t w m : Int} (M0 : 0 ≤ M) (en : enOk E N M t) (w0 : 0 ≤ w) (w1 : w < 8) (m0 : 0 ≤ m) (m1 : m < M) : (0 ≤ kX E N t w m - lo (kX E N t w) M ∧ kX E N t w m - lo (kX E N t w) M ≤ 59) ∧ (0 ≤ kY E N t w m - lo (kY E N t w) M ∧ kY E N t w m - lo (kY E N t w) M ≤ 59) := by
  obtain ⟨A, B, hA, hx⟩ := xy_rng w0 w1
  have z1 := lo_bd (x := kX E N t w) (A := A) M0 (by omega) (fun j a b => (hx _ _ (en j a b).1 (en j a b).2.1 (en j a b).2.2.1 (en j a b).2.2.2).1)
  have z2 := lo_bd (x := kY E N t w) (A := B) M0 (by omega) (fun j a b => (hx _ _ (en j a b).1 (en j a b).2.1 (en j a b).2.2.1 (en j a b).2.2.2).2.2.1)
  have z3 := z1.2 m m0 m1
  have z4 := z2.2 m m0 m1
  have z5 := hx _ _ (en m m0 m1).1 (en m m0 m1).2.1 (en m m0 m1).2.2.1 (en m m0 m1).2.2.2
  have e1 : kX E N t w m = xE w (E t m) (N t m) := rfl
  have e2 : kY E N t w m = yN w (E t m) (N t m) := rfl
  omega
theorem key_vk {t w m : Int} (M0 : 0 ≤ M) (en : enOk E N M t) (w0 : 0 ≤ w) (w1 : w < 8) (m0 : 0 ≤ m) (m1 : m < M) : vk (key E N M t w m) ∧ ps (key E N M t w m) = (kX E N t w m - lo (kX E N t w) M) * 60 + (kY E N t w m - lo (kY E N t w) M) := by
  have z := key_ok (t := t) (w := w) (m := m) M0 en w0 w1 m0 m1
  unfold vk ps key
  omega
/-- any row, filled so through a map of the keys, has the map of the figure -/
theorem fig_rel {t w : Int} {φ : Int → Int} {r0 : Int → Int} (mono : ∀ x y, vk x → vk y → (x < y ↔ φ x < φ y)) (M0 : 0 ≤ M) (en : enOk E N M t) (w0 : 0 ≤ w) (w1 : w < 8) : ∀ j : Int, 0 ≤ j → j < M → vk (fig E N M t w j) ∧ fo (fun m r => ins m.toNat r (φ (key E N M t w m))) 0 M r0 j = φ (fig E N M t w j) := by
  have z : ∀ (k : Nat) (m : Int) (r r' : Int → Int), 0 ≤ m → m + k = M → (∀ j : Int, 0 ≤ j → j < m → vk (r j) ∧ r' j = φ (r j)) → ∀ j : Int, 0 ≤ j → j < M → vk (fo (fun m r => ins m.toNat r (key E N M t w m)) m M r j) ∧ fo (fun m r => ins m.toNat r (φ (key E N M t w m))) m M r' j = φ (fo (fun m r => ins m.toNat r (key E N M t w m)) m M r j) := by
    intro k
    induction k with
    | zero =>
      intro m r r' m0 e hr
      rw [fo_end (by omega), fo_end (by omega), show M = m by omega]
      exact hr
    | succ k ih =>
      intro m r r' m0 e hr
      rw [fo_step (f := fun m r => ins m.toNat r (key E N M t w m)) (i := m) (n := M) (by omega), fo_step (f := fun m r => ins m.toNat r (φ (key E N M t w m))) (i := m) (n := M) (by omega)]
      refine ih (m + 1) _ _ (by omega) (by omega) (fun j j0 j1 => ?_)
      exact ins_rel mono m.toNat r r' _ (key_vk M0 en w0 w1 m0 (by omega)).1 (fun i i0 i1 => hr i i0 (by omega)) j j0 (by omega)
  exact z M.toNat 0 _ r0 (by decide) (by omega) (fun j a b => absurd a (by omega))
theorem cr_en {t : Int} (cr : crel h c E N F T M) (t0 : 0 ≤ t) (t1 : t ≤ T) : enOk E N M t := fun m a b => by
  have := cr.2 t m t0 t1 a b
  omega
theorem cr_row {a : Int} {r : Int → Int} (cr : crel h c E N F T M) (e : ¬ c + 1 = a) : crel (qrow h a r) c E N F T M := by
  refine ⟨cr.1, fun t m a b u v => ?_⟩
  rw [qrow_of e]
  exact cr.2 t m a b u v
theorem x_insert {K : qM → Prop} {a v n : Int} (hst : St sh pt) (ha : qsh sh a = some (0, n)) : ∀ (k : Nat) (r : Int → Int), (k : Int) < n → n ≤ 1000 → K (qrow h a (ins k r v)) → EvV X d mX0_insert 5 [(2, a), (8, -1), (0, v), (0, (k : Int)), (0, (k : Int))] [] sh pt (qrow h a r) K := by
  intro k
  induction k with
  | zero =>
    intro r k1 n1 kk
    exact b_X0_insert_5 hst ha ⟨fun _ => ⟨⟨by omega, by omega⟩, fun h2 e2 => by rw [e2, qrow_up]; exact kk⟩, fun q => absurd q (by decide)⟩
  | succ k ih =>
    intro r k1 n1 kk
    have e1 : ((k + 1 : Nat) : Int) - 1 = k := by omega
    have e2 : ((k + 1 : Nat) : Int) + (-1) = k := by omega
    have e3 : ((k + 1 : Nat) : Int) = (k : Int) + 1 := by omega
    refine b_X0_insert_5 hst ha ?_
    rw [e1, e2, e3, qrow_at]
    refine ⟨fun q => absurd q (by omega), fun _ => ⟨⟨by omega, by omega⟩, ⟨by omega, by omega⟩, fun q => ⟨⟨by omega, by omega⟩, fun h2 e2 => ?_⟩, fun q => ⟨⟨by omega, by omega⟩, ⟨by omega, by omega⟩, ⟨by omega, by omega⟩, fun h2 e2 => ⟨⟨by omega, by omega⟩, ⟨by omega, by omega⟩, ?_⟩⟩⟩⟩
    · rw [e2, qrow_up]
      unfold ins at kk
      rw [if_neg (by omega)] at kk
      exact kk
    · rw [e2, qrow_up]
      unfold ins at kk
      rw [if_pos q] at kk
      exact ih _ (by omega) n1 kk
theorem x_movedEast {K : Int → qM → Prop} {t m w : Int} (hst : St sh pt) (hc : isC c) (cr : crel h c E N F T M) (t0 : 0 ≤ t) (t1 : t ≤ T) (m0 : 0 ≤ m) (m1 : m < M) (w0 : 0 ≤ w) (w1 : w < 8) (k : K (kX E N t w m) h) : RunI X (d + 1) mX0_movedEast [(2, c), (0, t), (0, m), (0, w)] sh pt h K := by
  have z := cr.2 t m t0 t1 m0 m1
  unfold kX xE at k
  rcases w8 w0 w1 with rfl | rfl | rfl | rfl | rfl | rfl | rfl | rfl
  all_goals
    simp only [Int.reduceEq, reduceIte] at k
    refine b_X0_movedEast hst hc ⟨fun q => ?_, fun q => ?_⟩
    all_goals first
      | exact absurd q (by decide)
      | (refine x_eastOf hst hc cr t0 t1 m0 m1 ?_
         first
           | refine b_X0_movedEast_21 hst hc (x_northOf hst hc cr t0 t1 m0 m1 ?_)
           | refine ⟨⟨by omega, by omega⟩, b_X0_movedEast_21 hst hc (x_northOf hst hc cr t0 t1 m0 m1 ?_)⟩
         refine ⟨fun q => ?_, fun q => ?_, fun q => ?_, fun q => ?_⟩
         all_goals first
           | exact absurd q (by decide)
           | exact k
           | exact ⟨⟨by omega, by omega⟩, k⟩
           | (rw [Int.neg_neg]; exact ⟨⟨by omega, by omega⟩, k⟩))
theorem kY_kX {t w m : Int} (w0 : 0 ≤ w) (w1 : w < 8) : (0 ≤ qior (qiand w 4) (qiand (w + 1) 3) ∧ qior (qiand w 4) (qiand (w + 1) 3) < 8) ∧ kX E N t (qior (qiand w 4) (qiand (w + 1) 3)) m = kY E N t w m := by
  rcases w8 w0 w1 with rfl | rfl | rfl | rfl | rfl | rfl | rfl | rfl
  · exact ⟨by decide, by rw [show qior (qiand 0 4) (qiand (0 + 1) 3) = 1 by decide]; rfl⟩
  · exact ⟨by decide, by rw [show qior (qiand 1 4) (qiand (1 + 1) 3) = 2 by decide]; rfl⟩
  · exact ⟨by decide, by rw [show qior (qiand 2 4) (qiand (2 + 1) 3) = 3 by decide]; rfl⟩
  · exact ⟨by decide, by rw [show qior (qiand 3 4) (qiand (3 + 1) 3) = 0 by decide]; rfl⟩
  · exact ⟨by decide, by rw [show qior (qiand 4 4) (qiand (4 + 1) 3) = 5 by decide]; rfl⟩
  · exact ⟨by decide, by rw [show qior (qiand 5 4) (qiand (5 + 1) 3) = 6 by decide]; rfl⟩
  · exact ⟨by decide, by rw [show qior (qiand 6 4) (qiand (6 + 1) 3) = 7 by decide]; rfl⟩
  · exact ⟨by decide, by rw [show qior (qiand 7 4) (qiand (7 + 1) 3) = 4 by decide]; rfl⟩
theorem x_movedNorth {K : Int → qM → Prop} {t m w : Int} (hst : St sh pt) (hc : isC c) (cr : crel h c E N F T M) (t0 : 0 ≤ t) (t1 : t ≤ T) (m0 : 0 ≤ m) (m1 : m < M) (w0 : 0 ≤ w) (w1 : w < 8) (k : K (kY E N t w m) h) : RunI X (d + 2) mX0_movedNorth [(2, c), (0, t), (0, m), (0, w)] sh pt h K := by
  have z := kY_kX (E := E) (N := N) (t := t) (m := m) w0 w1
  refine b_X0_movedNorth hst hc ⟨⟨by omega, by omega⟩, x_movedEast hst hc cr t0 t1 m0 m1 z.1.1 z.1.2 ?_⟩
  rw [z.2]
  exact k
end
