/-! what is asked of a RUN: the class -/
/-- a loop over numbers -/
def it {σ : Type} (f : Int → σ → σ) : Nat → Int → σ → σ
  | 0, _, a => a
  | k + 1, i, a => it f k (i + 1) (f i a)
def fo {σ : Type} (f : Int → σ → σ) (i n : Int) (a : σ) : σ := it f (n - i).toNat i a
section
variable {σ : Type} {f g : Int → σ → σ} {n i : Int} {a : σ}
theorem fo_end (h : n ≤ i) : fo f i n a = a := by
  unfold fo
  rw [show (n - i).toNat = 0 by omega]
  rfl
theorem fo_step (h : i < n) : fo f i n a = fo f (i + 1) n (f i a) := by
  unfold fo
  rw [show (n - i).toNat = (n - (i + 1)).toNat + 1 by omega]
  rfl
theorem fo_ind (C : Int → σ → Prop) (b0 : ∀ b, C n b) (hs : ∀ j b, j < n → C (j + 1) (f j b) → C j b) (hi : i ≤ n) : C i a := by
  have e : ∀ (k : Nat) (j : Int) (b : σ), j + k = n → C j b := by
    intro k
    induction k with
    | zero => intro j b h; rw [show j = n by omega]; exact b0 b
    | succ k ih => intro j b h; exact hs j b (by omega) (ih _ _ (by omega))
  exact e (n - i).toNat i a (by omega)
theorem fo_loop (J : Int → σ → Prop) (C : Int → σ → Prop) (hs : ∀ j b, i ≤ j → j < n → J j b → J (j + 1) (f j b) ∧ (C (j + 1) (f j b) → C j b)) (hi : i ≤ n) (hj : J i a) (k : J n (fo f i n a) → C n (fo f i n a)) : C i a := by
  refine fo_ind (f := f) (n := n) (i := i) (a := a) (fun j b => i ≤ j → J j b → (J n (fo f j n b) → C n (fo f j n b)) → C j b) (fun b _ q r => ?_) (fun j b jn ih ij q r => ?_) hi (by omega) hj k
  · rw [fo_end (by omega)] at r
    exact r q
  · have z := hs j b ij jn q
    rw [fo_step jn] at r
    exact z.2 (ih (by omega) z.1 r)
theorem fo_inv (J : Int → σ → Prop) (hs : ∀ j b, i ≤ j → j < n → J j b → J (j + 1) (f j b)) (hi : i ≤ n) (hj : J i a) : J n (fo f i n a) := by
  refine fo_ind (f := f) (n := n) (i := i) (a := a) (fun j b => i ≤ j → J j b → J n (fo f j n b)) (fun b _ q => ?_) (fun j b jn ih ij q => ?_) hi (by omega) hj
  · rw [fo_end (by omega)]
    exact q
  · rw [fo_step jn]
    exact ih (by omega) (hs j b ij jn q)
theorem fo_eq (h : ∀ j b, i ≤ j → j < n → f j b = g j b) : fo f i n a = fo g i n a := by
  by_cases hi : i ≤ n
  · refine fo_ind (f := f) (n := n) (i := i) (a := a) (fun j b => i ≤ j → fo f j n b = fo g j n b) (fun b _ => ?_) (fun j b jn ih ij => ?_) hi (by omega)
    · rw [fo_end (by omega), fo_end (by omega)]
    · rw [fo_step jn, fo_step jn, ih (by omega), h j b ij jn]
  · rw [fo_end (by omega), fo_end (by omega)]
theorem fo_snoc (hi : i ≤ n) : fo f i (n + 1) a = f n (fo f i n a) := by
  refine fo_ind (f := f) (n := n) (i := i) (a := a) (fun j b => fo f j (n + 1) b = f n (fo f j n b)) (fun b => ?_) (fun j b jn ih => ?_) hi
  · rw [fo_end (n := n) (by omega), fo_step (by omega), fo_end (by omega)]
  · rw [fo_step (n := n) jn, fo_step (n := n + 1) (by omega), ih]
end
theorem fo_bd {f : Int → Int → Int} {i n a w : Int} (h : ∀ j b, i ≤ j → j < n → b ≤ f j b ∧ f j b ≤ b + w) (hi : i ≤ n) : a ≤ fo f i n a ∧ fo f i n a ≤ a + w * (n - i) := by
  have z := fo_inv (f := f) (n := n) (i := i) (a := a) (fun j b => a ≤ b ∧ b ≤ a + w * (j - i)) (fun j b ij jn q => ?_) hi (by rw [show i - i = 0 by omega]; omega)
  · exact z
  · have z := h j b ij jn
    have e : w * (j + 1 - i) = w * (j - i) + w := by
      rw [show j + 1 - i = (j - i) + 1 by omega, Int.mul_add, Int.mul_one]
    try dsimp only at q ⊢
    rw [e]
    omega
def crel (h : qM) (c : Int) (E N F : Int → Int → Int) (T M : Int) : Prop := (T ≤ 150 ∧ M ≤ 20) ∧ ∀ t m : Int, 0 ≤ t → t ≤ T → 0 ≤ m → m < M → h (c + 1) (t * 20 + m) = 8 * (40 * E t m + N t m) + F t m ∧ 0 ≤ E t m ∧ E t m < 60 ∧ 0 ≤ N t m ∧ N t m < 40 ∧ 0 ≤ F t m ∧ F t m < 8
def isCl (E N : Int → Int → Int) (t m n : Int) : Prop := (E t m = E t n ∧ N t m = N t n) ∨ (0 < t ∧ (E t m = E (t - 1) n ∧ N t m = N (t - 1) n) ∧ (E t n = E (t - 1) m ∧ N t n = N (t - 1) m))
noncomputable def clB (E N : Int → Int → Int) (t m n : Int) : Int := @ite _ (isCl E N t m n) (Classical.propDecidable _) 1 0
theorem clB_t {E N : Int → Int → Int} {t m n : Int} (h : isCl E N t m n) : clB E N t m n = 1 := if_pos h
theorem clB_f {E N : Int → Int → Int} {t m n : Int} (h : ¬ isCl E N t m n) : clB E N t m n = 0 := if_neg h
theorem clB_01 {E N : Int → Int → Int} {t m n : Int} : 0 ≤ clB E N t m n ∧ clB E N t m n ≤ 1 := by
  by_cases h : isCl E N t m n
  · rw [clB_t h]; decide
  · rw [clB_f h]; decide
section
variable {X : qX} {d : Nat} {sh : qS} {pt h : qM} {c : Int} {E N F : Int → Int → Int} {T M : Int}
theorem cst {t m : Int} (cr : crel h c E N F T M) (t0 : 0 ≤ t) (t1 : t ≤ T) (m0 : 0 ≤ m) (m1 : m < M) : qishr (h (c + 1) (t * 20 + m)) 3 = 40 * E t m + N t m := by
  have z := cr.2 t m t0 t1 m0 m1
  rw [z.1, qishr_3 ⟨by omega, by omega⟩]
  omega
theorem x_spotAt {K : Int → qM → Prop} {t m : Int} (hst : St sh pt) (hc : isC c) (cr : crel h c E N F T M) (t0 : 0 ≤ t) (t1 : t ≤ T) (m0 : 0 ≤ m) (m1 : m < M) (k : K (40 * E t m + N t m) h) : RunI X d mX0_spotAt [(2, c), (0, t), (0, m)] sh pt h K := by
  have b := cr.1
  refine b_X0_spotAt hst hc ⟨⟨by omega, by omega⟩, ⟨by omega, by omega⟩, by omega, ?_⟩
  rw [cst cr t0 t1 m0 m1]
  exact k
theorem x_eastOf {K : Int → qM → Prop} {t m : Int} (hst : St sh pt) (hc : isC c) (cr : crel h c E N F T M) (t0 : 0 ≤ t) (t1 : t ≤ T) (m0 : 0 ≤ m) (m1 : m < M) (k : K (E t m) h) : RunI X d mX0_eastOf [(2, c), (0, t), (0, m)] sh pt h K := by
  have b := cr.1
  have z := cr.2 t m t0 t1 m0 m1
  refine b_X0_eastOf hst hc ⟨⟨by omega, by omega⟩, ⟨by omega, by omega⟩, by omega, ?_⟩
  rw [cst cr t0 t1 m0 m1]
  have e : (40 * E t m + N t m) / 40 = E t m := by omega
  rw [e]
  exact ⟨by omega, k⟩
theorem x_northOf {K : Int → qM → Prop} {t m : Int} (hst : St sh pt) (hc : isC c) (cr : crel h c E N F T M) (t0 : 0 ≤ t) (t1 : t ≤ T) (m0 : 0 ≤ m) (m1 : m < M) (k : K (N t m) h) : RunI X d mX0_northOf [(2, c), (0, t), (0, m)] sh pt h K := by
  have b := cr.1
  have z := cr.2 t m t0 t1 m0 m1
  refine b_X0_northOf hst hc ⟨⟨by omega, by omega⟩, ⟨by omega, by omega⟩, by omega, ?_⟩
  rw [cst cr t0 t1 m0 m1]
  have e : (40 * E t m + N t m) % 40 = N t m := by omega
  rw [e]
  exact ⟨by omega, k⟩
theorem x_faceOf {K : Int → qM → Prop} {t m : Int} (hst : St sh pt) (hc : isC c) (cr : crel h c E N F T M) (t0 : 0 ≤ t) (t1 : t ≤ T) (m0 : 0 ≤ m) (m1 : m < M) (k : K (F t m) h) : RunI X d mX0_faceOf [(2, c), (0, t), (0, m)] sh pt h K := by
  have b := cr.1
  have z := cr.2 t m t0 t1 m0 m1
  refine b_X0_faceOf hst hc ⟨⟨by omega, by omega⟩, ⟨by omega, by omega⟩, by omega, ?_⟩
  rw [qiand_7, z.1]
  have e : (8 * (40 * E t m + N t m) + F t m) % 8 = F t m := by omega
  rw [e]
  exact k
theorem x_meet {K : Int → qM → Prop} {t m n : Int} (hst : St sh pt) (hc : isC c) (cr : crel h c E N F T M) (t0 : 0 ≤ t) (t1 : t ≤ T) (m0 : 0 ≤ m) (m1 : m < M) (n0 : 0 ≤ n) (n1 : n < M) (k : K (clB E N t m n) h) : RunI X (d + 1) mX0_meet [(2, c), (0, t), (0, m), (0, n)] sh pt h K := by
  have b := cr.1
  have z1 := cr.2 t m t0 t1 m0 m1
  have z2 := cr.2 t n t0 t1 n0 n1
  refine b_X0_meet hst hc (x_spotAt hst hc cr t0 t1 m0 m1 (x_spotAt hst hc cr t0 t1 n0 n1 ⟨fun q => ⟨fun q1 => ?_, fun q1 => ⟨⟨by omega, by omega⟩, ?_⟩⟩, fun q => ?_⟩))
  · rw [clB_f (by unfold isCl; omega)] at k
    exact k
  · have z3 := cr.2 (t - 1) n (by omega) (by omega) n0 n1
    have z4 := cr.2 (t - 1) m (by omega) (by omega) m0 m1
    refine x_spotAt hst hc cr (by omega) (by omega) n0 n1 ⟨fun q2 => ?_, fun q2 => ⟨⟨by omega, by omega⟩, x_spotAt hst hc cr (by omega) (by omega) m0 m1 ⟨fun q3 => ?_, fun q3 => ?_⟩⟩⟩
    · rw [clB_f (by unfold isCl; omega)] at k
      exact k
    · rw [clB_f (by unfold isCl; omega)] at k
      exact k
    · rw [clB_t (by unfold isCl; omega)] at k
      exact k
  · rw [clB_t (by unfold isCl; omega)] at k
    exact k
noncomputable def clI (E N : Int → Int → Int) (M t m a : Int) : Int := fo (fun n a => a + clB E N t m n) (m + 1) M a
noncomputable def clM (E N : Int → Int → Int) (M t a : Int) : Int := fo (fun m a => clI E N M t m a) 0 M a
noncomputable def clO (E N : Int → Int → Int) (T M : Int) : Int := fo (fun t a => clM E N M t a) 0 (T + 1) 0
theorem clI_bd {t m a : Int} (hM : M ≤ 20) (m0 : 0 ≤ m) (m1 : m < M) : a ≤ clI E N M t m a ∧ clI E N M t m a ≤ a + 20 := by
  have h := fo_bd (f := fun n a => a + clB E N t m n) (i := m + 1) (n := M) (a := a) (w := 1) (fun j b _ _ => by have := clB_01 (E := E) (N := N) (t := t) (m := m) (n := j); omega) (by omega)
  unfold clI
  omega
theorem clM_bd {t a : Int} (hM : 0 ≤ M ∧ M ≤ 20) : a ≤ clM E N M t a ∧ clM E N M t a ≤ a + 400 := by
  have h := fo_bd (f := fun m a => clI E N M t m a) (i := 0) (n := M) (a := a) (w := 20) (fun j b a0 a1 => clI_bd hM.2 a0 a1) hM.1
  unfold clM
  omega
theorem x_clashes {K : Int → qM → Prop} (hst : St sh pt) (hc : isC c) (cr : crel h c E N F T M) (hM : h c 4 = M) (hT : h c 5 = T) (M0 : 0 ≤ M) (T0 : 0 ≤ T) (k : K (clO E N T M) h) : RunI X (d + 2) mX0_clashes [(2, c)] sh pt h K := by
  have b := cr.1
  refine b_X0_clashes hst hc ?_
  refine fo_loop (f := fun t a => clM E N M t a) (n := T + 1) (fun t a => 0 ≤ a ∧ a ≤ 400 * t) (fun t a => EvI X (d + 2) mX0_clashes 4 [(2, c), (0, a), (0, t), (8, -1), (8, -1)] [] sh pt h K) ?_ (by omega) (by omega) (fun _ => b_X0_clashes_4 hst hc ⟨fun _ => k, fun q => absurd q (by omega)⟩)
  intro t a t0 t1 j
  try dsimp only at j ⊢
  have cb := clM_bd (E := E) (N := N) (M := M) (t := t) (a := a) ⟨M0, b.2⟩
  refine ⟨by omega, fun kk => b_X0_clashes_4 hst hc ⟨fun q => absurd q (by omega), fun _ => ?_⟩⟩
  refine fo_loop (f := fun m a => clI E N M t m a) (n := M) (fun m e => 0 ≤ e ∧ e ≤ a + 20 * m) (fun m e => EvI X (d + 2) mX0_clashes 14 [(2, c), (0, e), (0, t), (0, m), (8, -1)] [] sh pt h K) ?_ (by omega) (by omega) (fun _ => b_X0_clashes_14 hst hc ⟨fun _ => ⟨⟨by omega, by omega⟩, kk⟩, fun q => absurd q (by omega)⟩)
  intro m e m0 m1 j2
  try dsimp only at j2 ⊢
  have cb2 := clI_bd (E := E) (N := N) (M := M) (t := t) (m := m) (a := e) b.2 m0 m1
  refine ⟨by omega, fun kk => b_X0_clashes_14 hst hc ⟨fun q => absurd q (by omega), fun _ => ⟨⟨by omega, by omega⟩, ?_⟩⟩⟩
  refine fo_loop (f := fun n a => a + clB E N t m n) (n := M) (fun n s => 0 ≤ s ∧ s ≤ e + n) (fun n s => EvI X (d + 2) mX0_clashes 27 [(2, c), (0, s), (0, t), (0, m), (0, n)] [] sh pt h K) ?_ (by omega) (by omega) (fun _ => b_X0_clashes_27 hst hc ⟨fun _ => ⟨⟨by omega, by omega⟩, kk⟩, fun q => absurd q (by omega)⟩)
  intro n s n0 n1 j3
  try dsimp only at j3 ⊢
  have cb3 := clB_01 (E := E) (N := N) (t := t) (m := m) (n := n)
  refine ⟨by omega, fun kk => b_X0_clashes_27 hst hc ⟨fun q => absurd q (by omega), fun _ => x_meet hst hc cr t0 (by omega) m0 m1 (by omega) (by omega) ⟨fun q => ⟨⟨by omega, by omega⟩, ⟨by omega, by omega⟩, ?_⟩, fun q => ⟨⟨by omega, by omega⟩, ⟨by omega, by omega⟩, ?_⟩⟩⟩⟩
  · rw [q] at kk
    exact kk
  · rw [show clB E N t m n = 1 by omega] at kk
    exact kk
/-! findClash: what is left (0 and more), or -1 and less: found -/
noncomputable def fcI (E N : Int → Int → Int) (M t m s : Int) : Int := fo (fun n s => if s < 0 ∨ clB E N t m n = 0 then s else if s = 0 then -1 - ((t * 20 + m) * 20 + n) else s + (-1)) (m + 1) M s
noncomputable def fcM (E N : Int → Int → Int) (M t s : Int) : Int := fo (fun m s => fcI E N M t m s) 0 M s
noncomputable def fcO (E N : Int → Int → Int) (T M k : Int) : Int := fo (fun t s => fcM E N M t s) 0 (T + 1) k
def fcJ (k s : Int) : Prop := (0 ≤ s ∧ s ≤ k) ∨ (-60401 ≤ s ∧ s < 0)
theorem fcI_J {k t m s : Int} (hM : M ≤ 20) (t0 : 0 ≤ t) (t1 : t ≤ 150) (m0 : 0 ≤ m) (m1 : m < M) (hs : fcJ k s) : fcJ k (fcI E N M t m s) := by
  unfold fcI
  refine fo_inv (fun _ s => fcJ k s) (fun n s n0 n1 q => ?_) (by omega) hs
  unfold fcJ at q ⊢
  try dsimp only
  by_cases q1 : s < 0 ∨ clB E N t m n = 0
  · rw [if_pos q1]; exact q
  · rw [if_neg q1]
    by_cases q2 : s = 0
    · rw [if_pos q2]; omega
    · rw [if_neg q2]; omega
theorem fcM_J {k t s : Int} (hM : M ≤ 20) (M0 : 0 ≤ M) (t0 : 0 ≤ t) (t1 : t ≤ 150) (hs : fcJ k s) : fcJ k (fcM E N M t s) :=
  fo_inv (fun _ s => fcJ k s) (fun _ _ m0 m1 q => fcI_J hM t0 t1 m0 m1 q) M0 hs
theorem fcO_J {k : Int} (hM : M ≤ 20) (M0 : 0 ≤ M) (T0 : 0 ≤ T) (hT : T ≤ 150) (k0 : 0 ≤ k) : fcJ k (fcO E N T M k) :=
  fo_inv (fun _ s => fcJ k s) (fun _ _ t0 t1 q => fcM_J hM M0 t0 (by omega) q) (by omega) (Or.inl ⟨k0, Int.le_refl _⟩)
theorem x_findClash {K : Int → qM → Prop} {k : Int} (hst : St sh pt) (hc : isC c) (cr : crel h c E N F T M) (hM : h c 4 = M) (hT : h c 5 = T) (M0 : 0 ≤ M) (T0 : 0 ≤ T) (qk : qI k) (k1 : k < 0 → K (-1) h) (k2 : 0 ≤ k → 0 ≤ fcO E N T M k → K (-1) h) (k3 : 0 ≤ k → fcO E N T M k < 0 → K (-1 - fcO E N T M k) h) : RunI X (d + 2) mX0_findClash [(2, c), (0, k)] sh pt h K := by
  have b := cr.1
  have qk2 := qk.2
  refine b_X0_findClash hst hc ?_
  by_cases k0 : k < 0
  · exact b_X0_findClash_4 hst hc ⟨fun _ => k1 k0, fun _ => ⟨fun _ => k1 k0, fun q => absurd q (by omega)⟩⟩
  have k0 : 0 ≤ k := by omega
  refine (fo_loop (f := fun t s => fcM E N M t s) (n := T + 1) (fun t s => fcJ k s) (fun t s => (s < 0 → K (-1 - s) h) ∧ (0 ≤ s → EvI X (d + 2) mX0_findClash 4 [(2, c), (8, -1), (0, s), (0, t), (8, -1), (8, -1)] [] sh pt h K)) ?_ (by omega) (Or.inl ⟨k0, Int.le_refl _⟩) (fun _ => ⟨k3 k0, fun s0 => b_X0_findClash_4 hst hc ⟨fun _ => k2 k0 s0, fun q => absurd q (by omega)⟩⟩)).2 k0
  intro t s t0 t1 j
  try dsimp only at j ⊢
  refine ⟨fcM_J b.2 M0 t0 (by omega) j, fun kk => ?_⟩
  suffices z : (s < 0 → K (-1 - s) h) ∧ (0 ≤ s → EvI X (d + 2) mX0_findClash 19 [(2, c), (8, -1), (0, s), (0, t), (0, 0), (8, -1)] [] sh pt h K) from ⟨z.1, fun s0 => b_X0_findClash_4 hst hc ⟨fun q => absurd q (by omega), fun _ => ⟨fun q => absurd q (by omega), fun _ => z.2 s0⟩⟩⟩
  refine fo_loop (f := fun m s => fcI E N M t m s) (n := M) (fun m s => fcJ k s) (fun m s => (s < 0 → K (-1 - s) h) ∧ (0 ≤ s → EvI X (d + 2) mX0_findClash 19 [(2, c), (8, -1), (0, s), (0, t), (0, m), (8, -1)] [] sh pt h K)) ?_ (by omega) j (fun _ => ⟨kk.1, fun s0 => b_X0_findClash_19 hst hc ⟨fun _ => ⟨⟨by omega, by omega⟩, kk.2 s0⟩, fun q => absurd q (by omega)⟩⟩)
  intro m s m0 m1 j
  try dsimp only at j ⊢
  refine ⟨fcI_J b.2 t0 (by omega) m0 m1 j, fun kk => ?_⟩
  suffices z : (s < 0 → K (-1 - s) h) ∧ (0 ≤ s → EvI X (d + 2) mX0_findClash 34 [(2, c), (8, -1), (0, s), (0, t), (0, m), (0, m + 1)] [] sh pt h K) from ⟨z.1, fun s0 => b_X0_findClash_19 hst hc ⟨fun q => absurd q (by omega), fun _ => ⟨⟨by omega, by omega⟩, z.2 s0⟩⟩⟩
  refine fo_loop (f := fun n s => if s < 0 ∨ clB E N t m n = 0 then s else if s = 0 then -1 - ((t * 20 + m) * 20 + n) else s + (-1)) (n := M) (fun n s => fcJ k s) (fun n s => (s < 0 → K (-1 - s) h) ∧ (0 ≤ s → EvI X (d + 2) mX0_findClash 34 [(2, c), (8, -1), (0, s), (0, t), (0, m), (0, n)] [] sh pt h K)) ?_ (by omega) j (fun _ => ⟨kk.1, fun s0 => b_X0_findClash_34 hst hc ⟨fun _ => ⟨⟨by omega, by omega⟩, kk.2 s0⟩, fun q => absurd q (by omega)⟩⟩)
  intro n s n0 n1 j
  try dsimp only at j ⊢
  have cb := clB_01 (E := E) (N := N) (t := t) (m := m) (n := n)
  by_cases q1 : s < 0 ∨ clB E N t m n = 0
  · rw [if_pos q1]
    refine ⟨j, fun kk => ⟨kk.1, fun s0 => b_X0_findClash_34 hst hc ⟨fun q => absurd q (by omega), fun _ => x_meet hst hc cr t0 (by omega) m0 m1 (by omega) (by omega) ⟨fun q => ⟨⟨by omega, by omega⟩, kk.2 s0⟩, fun q => absurd q (by omega)⟩⟩⟩⟩
  · rw [if_neg q1]
    by_cases q2 : s = 0
    · rw [if_pos q2]
      refine ⟨by unfold fcJ; omega, fun kk => ⟨fun q => absurd q (by omega), fun s0 => b_X0_findClash_34 hst hc ⟨fun q => absurd q (by omega), fun _ => x_meet hst hc cr t0 (by omega) m0 m1 (by omega) (by omega) ⟨fun q => absurd q (by omega), fun q => ⟨fun q => absurd q2 q, fun _ => ⟨⟨by omega, by omega⟩, ⟨by omega, by omega⟩, ⟨by omega, by omega⟩, ⟨by omega, by omega⟩, ?_⟩⟩⟩⟩⟩⟩
      have z := kk.1 (by omega)
      rw [show -1 - (-1 - ((t * 20 + m) * 20 + n)) = (t * 20 + m) * 20 + n by omega] at z
      exact z
    · rw [if_neg q2]
      have j' := j
      unfold fcJ at j'
      refine ⟨by unfold fcJ at j ⊢; omega, fun kk => ⟨fun q => absurd q (by omega), fun s0 => b_X0_findClash_34 hst hc ⟨fun q => absurd q (by omega), fun _ => x_meet hst hc cr t0 (by omega) m0 m1 (by omega) (by omega) ⟨fun q => absurd q (by omega), fun q => ⟨fun _ => ⟨⟨by omega, by omega⟩, ⟨by omega, by omega⟩, kk.2 (by omega)⟩, fun q => absurd q q2⟩⟩⟩⟩⟩
end
