/-! who fills in: what is reckoned -/
theorem cif01 {Z : Prop} : 0 ≤ cif Z (1 : Int) 0 ∧ cif Z (1 : Int) 0 ≤ 1 := by
  by_cases z : Z
  · rw [cif_t z]; decide
  · rw [cif_f z]; decide
theorem NT_mono {P Q : Int → Prop} : ∀ k : Nat, (∀ t : Int, 0 ≤ t → t < k → P t → Q t) → NT P k ≤ NT Q k := by
  intro k
  induction k with
  | zero => intro _; exact Int.le_refl _
  | succ k ih =>
    intro h
    have i := ih (fun t a b => h t a (by omega))
    rw [NT, NT]
    have q := cif01 (Z := Q k)
    by_cases z : P k
    · rw [cif_t z, cif_t (h k (by omega) (by omega) z)]; omega
    · rw [cif_f z]; omega
theorem NT_same {P Q : Int → Prop} (k : Nat) (h : ∀ t : Int, 0 ≤ t → t < k → (P t ↔ Q t)) : NT P k = NT Q k := Int.le_antisymm (NT_mono k (fun t a b => (h t a b).mp)) (NT_mono k (fun t a b => (h t a b).mpr))
theorem NT_dis {P Q R : Int → Prop} : ∀ k : Nat, (∀ t : Int, 0 ≤ t → t < k → P t → R t ∧ ¬ Q t) → (∀ t : Int, 0 ≤ t → t < k → Q t → R t) → NT P k + NT Q k ≤ NT R k := by
  intro k
  induction k with
  | zero => intro _ _; exact Int.le_refl _
  | succ k ih =>
    intro h h2
    have i := ih (fun t a b => h t a (by omega)) (fun t a b => h2 t a (by omega))
    rw [NT, NT, NT]
    by_cases z : P k
    · have w := h k (by omega) (by omega) z
      rw [cif_t z, cif_t w.1, cif_f w.2]; omega
    · rw [cif_f z]
      by_cases y : Q k
      · rw [cif_t y, cif_t (h2 k (by omega) (by omega) y)]; omega
      · have := cif01 (Z := R k)
        rw [cif_f y]; omega
theorem NT_add {P Q : Int → Prop} {v : Int} (v0 : 0 ≤ v) (hp : ¬ P v) : ∀ k : Nat, v < k → (∀ t : Int, 0 ≤ t → t < k → (Q t ↔ (P t ∨ t = v))) → NT Q k = NT P k + 1 := by
  intro k
  induction k with
  | zero => intro h; omega
  | succ k ih =>
    intro h hq
    rw [NT, NT]
    by_cases e : v = k
    · rw [NT_same (Q := P) k (fun t a b => by
        rw [hq t a (by omega)]
        constructor
        · intro y
          rcases y with y | y
          · exact y
          · omega
        · exact Or.inl), cif_t ((hq k (by omega) (by omega)).mpr (Or.inr e.symm)), cif_f (by rw [← e]; exact hp)]
      omega
    · rw [ih (by omega) (fun t a b => hq t a (by omega))]
      have q := hq k (by omega) (by omega)
      by_cases y : P k
      · rw [cif_t y, cif_t (q.mpr (Or.inl y))]
      · rw [cif_f y, cif_f (fun z => by
          rcases q.mp z with z | z
          · exact y z
          · omega)]
        omega
theorem NT_inj {f : Int → Int} {b : Nat} : ∀ (a : Nat) (U V : Int → Prop), (∀ i : Int, 0 ≤ i → i < a → U i → 0 ≤ f i ∧ f i < b ∧ V (f i)) → (∀ i j : Int, 0 ≤ i → i < a → 0 ≤ j → j < a → U i → U j → f i = f j → i = j) → NT U a ≤ NT V b := by
  intro a
  induction a with
  | zero => intro U V _ _; exact (NT_bd b).1
  | succ a ih =>
    intro U V h1 h2
    rw [NT]
    by_cases z : U a
    · rw [cif_t z]
      have w := h1 a (by omega) (by omega) z
      have i := ih U (fun t => V t ∧ t ≠ f a) (fun i i0 i1 u => ⟨(h1 i i0 (by omega) u).1, (h1 i i0 (by omega) u).2.1, (h1 i i0 (by omega) u).2.2, fun e => by
        have := h2 i a i0 (by omega) (by omega) (by omega) u z e
        omega⟩) (fun i j a b c d => h2 i j a (by omega) c (by omega))
      have e := NT_add (P := fun t => V t ∧ t ≠ f a) (Q := V) (v := f a) w.1 (fun y => y.2 rfl) b w.2.1 (fun t _ _ => ⟨fun y => by
        by_cases e : t = f a
        · exact Or.inr e
        · exact Or.inl ⟨y, e⟩, fun y => by
        rcases y with y | y
        · exact y.1
        · rw [y]; exact w.2.2⟩)
      omega
    · rw [cif_f z]
      have := ih U V (fun i a b => h1 i a (by omega)) (fun i j a b c d => h2 i j a (by omega) c (by omega))
      omega
def MT (P m M : Int) (av : Int → Int → Prop) (e : Int → Int) : Prop := (∀ p, 0 ≤ p → p < P → e p ≠ -1 → m ≤ e p ∧ e p < M ∧ av (e p) p) ∧ ∀ p q, 0 ≤ p → p < P → 0 ≤ q → q < P → e p ≠ -1 → e p = e q → p = q
noncomputable def sz (P : Int) (e : Int → Int) : Int := NT (fun p => e p ≠ -1) P.toNat
def isMx (P m M : Int) (av : Int → Int → Prop) (k : Int) : Prop := (∃ e, MT P m M av e ∧ sz P e = k) ∧ ∀ e, MT P m M av e → sz P e ≤ k
theorem mx_uq {P m M : Int} {av : Int → Int → Prop} {k k' : Int} (h : isMx P m M av k) (h' : isMx P m M av k') : k = k' := by
  obtain ⟨⟨e, a, b⟩, c⟩ := h
  obtain ⟨⟨e', a', b'⟩, c'⟩ := h'
  have := c e' a'
  have := c' e a
  omega
/-- a matching with a cover as great is a greatest one -/
theorem kon {P m M : Int} {av : Int → Int → Prop} {e : Int → Int} {A R : Int → Prop} (m0 : 0 ≤ m) (h : MT P m M av e) (c1 : ∀ j p, m ≤ j → j < M → R j → 0 ≤ p → p < P → av j p → A p) (c2 : ∀ p, 0 ≤ p → p < P → A p → e p ≠ -1 ∧ R (e p)) (c3 : ∀ j, m ≤ j → j < M → ¬ R j → ∃ p, 0 ≤ p ∧ p < P ∧ e p = j) : isMx P m M av (sz P e) := by
  refine ⟨⟨e, h, rfl⟩, fun e' h' => ?_⟩
  have s1 := NT_or (P := A) (Q := fun p => e' p ≠ -1 ∧ ¬ A p) (R := fun p => e' p ≠ -1) P.toNat (fun t _ _ y => by
    by_cases z : A t
    · exact Or.inl z
    · exact Or.inr ⟨y, z⟩)
  have s2 := NT_inj (f := e') (b := M.toNat) P.toNat (fun p => e' p ≠ -1 ∧ ¬ A p) (fun j => m ≤ j ∧ ¬ R j) (fun i i0 i1 u => by
    have w := h'.1 i i0 (by omega) u.1
    exact ⟨by omega, by omega, w.1, fun r => u.2 (c1 _ _ w.1 w.2.1 r i0 (by omega) w.2.2)⟩) (fun i j a b c d u v q => h'.2 i j a (by omega) c (by omega) u.1 q)
  obtain ⟨f, hf⟩ : ∃ f : Int → Int, ∀ j, m ≤ j → j < M → ¬ R j → 0 ≤ f j ∧ f j < P ∧ e (f j) = j := by
    refine ⟨fun j => @dite Int (∃ p, 0 ≤ p ∧ p < P ∧ e p = j) (Classical.propDecidable _) (fun q => Classical.choose q) (fun _ => 0), fun j a b r => ?_⟩
    have q := c3 j a b r
    dsimp only
    rw [dif_pos q]
    exact Classical.choose_spec q
  have s3 := NT_inj (f := f) (b := P.toNat) M.toNat (fun j => m ≤ j ∧ ¬ R j) (fun p => e p ≠ -1 ∧ ¬ A p) (fun j j0 j1 u => by
    have w := hf j u.1 (by omega) u.2
    refine ⟨w.1, by omega, by rw [w.2.2]; omega, fun a => ?_⟩
    have := (c2 _ w.1 w.2.1 a).2
    rw [w.2.2] at this
    exact u.2 this) (fun i j a b c d u v q => by
    have w := hf i u.1 (by omega) u.2
    have w2 := hf j v.1 (by omega) v.2
    rw [← w.2.2, ← w2.2.2, q])
  have s4 := NT_dis (P := A) (Q := fun p => e p ≠ -1 ∧ ¬ A p) (R := fun p => e p ≠ -1) P.toNat (fun t a b y => ⟨(c2 t a (by omega) y).1, fun z => z.2 y⟩) (fun t _ _ y => y.1)
  unfold sz
  omega
def avS (C : Int → Int → Prop) (S : Int → Prop) (j p : Int) : Prop := C j p ∧ ¬ S p
def Sf (f : Int → Int) (m p : Int) : Prop := 0 ≤ p ∧ ∃ j, 0 ≤ j ∧ j < m ∧ f j = p
def okP (P M : Int) (C : Int → Int → Prop) (S : Int → Prop) (m L p : Int) : Prop := (0 ≤ p ∧ p < P) ∧ C m p ∧ ¬ S p ∧ isMx P (m + 1) M (avS C (fun q => S q ∨ q = p)) (L - 1)
def LX (P M : Int) (C : Int → Int → Prop) (f : Int → Int) (k : Int) : Prop := ∀ m, 0 ≤ m → m < k → ∃ L, isMx P m M (avS C (Sf f m)) L ∧ ((f m = -1 ∧ ∀ p, ¬ okP P M C (Sf f m) m L p) ∨ (okP P M C (Sf f m) m L (f m) ∧ ∀ p, p < f m → ¬ okP P M C (Sf f m) m L p))
theorem lx_uq {P M k : Int} {C : Int → Int → Prop} {f g : Int → Int} (h : LX P M C f k) (h' : LX P M C g k) : ∀ (n : Nat), ∀ m : Int, 0 ≤ m → m < n → m < k → f m = g m := by
  intro n
  induction n with
  | zero => intro m a b; omega
  | succ n ih =>
    intro m a b c
    by_cases e : m < n
    · exact ih m a e c
    · have es : Sf f m = Sf g m := by
        funext p
        apply propext
        constructor
        · intro ⟨u, j, x, y, z⟩
          exact ⟨u, j, x, y, by rw [← ih j x (by omega) (by omega)]; exact z⟩
        · intro ⟨u, j, x, y, z⟩
          exact ⟨u, j, x, y, by rw [ih j x (by omega) (by omega)]; exact z⟩
      obtain ⟨L, l1, l2⟩ := h m a c
      obtain ⟨L', l1', l2'⟩ := h' m a c
      rw [← es] at l1' l2'
      have eL := mx_uq l1 l1'
      rw [← eL] at l2'
      rcases l2 with l2 | l2
      · rcases l2' with l2' | l2'
        · rw [l2.1, l2'.1]
        · exact absurd l2'.1 (l2.2 _)
      · rcases l2' with l2' | l2'
        · exact absurd l2.1 (l2'.2 _)
        · have x1 := fun q => l2.2 (g m) q l2'.1
          have x2 := fun q => l2'.2 (f m) q l2.1
          rcases Int.lt_trichotomy (f m) (g m) with y | y | y
          · exact absurd y x2
          · exact y
          · exact absurd y x1
theorem MT_mono {P m m' M : Int} {av av' : Int → Int → Prop} {e : Int → Int} (h : MT P m M av e) (hm : m' ≤ m) (ha : ∀ j p, m ≤ j → j < M → av j p → av' j p) : MT P m' M av' e := ⟨fun p a b c => by
  have w := h.1 p a b c
  exact ⟨by omega, w.2.1, ha _ _ w.1 w.2.1 w.2.2⟩, h.2⟩
theorem sz_rup {P p v : Int} {e : Int → Int} (p0 : 0 ≤ p) (p1 : p < P) (e0 : e p = -1) (hv : v ≠ -1) : sz P (rup e p v) = sz P e + 1 := by
  unfold sz
  refine NT_add (v := p) p0 (fun z => z e0) P.toNat (by omega) (fun t a b => ?_)
  by_cases q : t = p
  · rw [q, rup_at]
    exact ⟨fun _ => Or.inr rfl, fun _ => hv⟩
  · rw [rup_of q]
    exact ⟨Or.inl, fun y => by
      rcases y with y | y
      · exact y
      · exact absurd y q⟩
theorem rup_rup {r : Int → Int} {i v w : Int} : rup (rup r i v) i w = rup r i w := by
  funext j
  by_cases e : j = i
  · rw [e, rup_at, rup_at]
  · rw [rup_of e, rup_of e, rup_of e]
theorem rup_self {r : Int → Int} {i : Int} : rup r i (r i) = r := by
  funext j
  by_cases e : j = i
  · rw [e, rup_at]
  · rw [rup_of e]
/-- a matching of those behind m, with m's own added -/
theorem MT_put {P m M p : Int} {C : Int → Int → Prop} {S : Int → Prop} {e : Int → Int} (m1 : m < M) (p0 : 0 ≤ p) (p1 : p < P) (hc : C m p) (hs : ¬ S p) (h : MT P (m + 1) M (avS C (fun q => S q ∨ q = p)) e) (ep : e p = -1) (mn : m ≠ -1) : MT P m M (avS C S) (rup e p m) := by
  refine ⟨fun q a b c => ?_, fun q r a b c d x y => ?_⟩
  · by_cases w : q = p
    · rw [w, rup_at]
      exact ⟨Int.le_refl _, m1, hc, hs⟩
    · rw [rup_of w] at c ⊢
      have z := h.1 q a b c
      exact ⟨by omega, z.2.1, z.2.2.1, fun y => z.2.2.2 (Or.inl y)⟩
  · by_cases w : q = p
    · by_cases w2 : r = p
      · rw [w, w2]
      · rw [w, rup_at, rup_of w2] at y
        have z := h.1 r c d (by rw [← y]; exact mn)
        omega
    · rw [rup_of w] at x y
      by_cases w2 : r = p
      · rw [w2, rup_at] at y
        have z := h.1 q a b x
        omega
      · rw [rup_of w2] at y
        exact h.2 q r a b c d x y
theorem ok_le {P m M p L : Int} {C : Int → Int → Prop} {S : Int → Prop} (m0 : 0 ≤ m) (m1 : m < M) (hL : isMx P m M (avS C S) L) (p0 : 0 ≤ p) (p1 : p < P) (hc : C m p) (hs : ¬ S p) {e : Int → Int} (h : MT P (m + 1) M (avS C (fun q => S q ∨ q = p)) e) : sz P e ≤ L - 1 := by
  have ep : e p = -1 := by
    by_cases z : e p = -1
    · exact z
    · have w := (h.1 p p0 p1 z).2.2.2
      exact absurd (Or.inr rfl) w
  have b := hL.2 _ (MT_put m1 p0 p1 hc hs h ep (by omega))
  rw [sz_rup p0 p1 ep (by omega)] at b
  omega
theorem none_nx {P m M L : Int} {C : Int → Int → Prop} {S : Int → Prop} (m0 : 0 ≤ m) (m1 : m < M) (hL : isMx P m M (avS C S) L) (no : ∀ p, ¬ okP P M C S m L p) : isMx P (m + 1) M (avS C S) L := by
  obtain ⟨⟨e, h, se⟩, ub⟩ := hL
  have q : ¬ ∃ p, 0 ≤ p ∧ p < P ∧ e p = m := by
    intro ⟨p, p0, p1, ep⟩
    have w := h.1 p p0 p1 (by omega)
    rw [ep] at w
    have h2 : MT P (m + 1) M (avS C (fun q => S q ∨ q = p)) (rup e p (-1)) := by
      refine ⟨fun q a b c => ?_, fun q r a b c d x y => ?_⟩
      · by_cases v : q = p
        · rw [v, rup_at] at c
          exact absurd rfl c
        · rw [rup_of v] at c ⊢
          have z := h.1 q a b c
          have ne : e q ≠ m := fun y => v (h.2 q p a b p0 p1 c (by rw [y, ep]))
          exact ⟨by omega, z.2.1, z.2.2.1, fun y => by
            rcases y with y | y
            · exact z.2.2.2 y
            · exact v y⟩
      · by_cases v : q = p
        · rw [v, rup_at] at x
          exact absurd rfl x
        · rw [rup_of v] at x y
          by_cases v2 : r = p
          · rw [v2, rup_at] at y
            exact absurd y x
          · rw [rup_of v2] at y
            exact h.2 q r a b c d x y
    have s2 : sz P (rup e p (-1)) = L - 1 := by
      have := sz_rup (e := rup e p (-1)) (v := m) p0 p1 rup_at (by omega)
      rw [rup_rup, ← ep, rup_self, se] at this
      omega
    refine no p ⟨⟨p0, p1⟩, w.2.2.1, w.2.2.2, ⟨rup e p (-1), h2, s2⟩, fun e' h' => ?_⟩
    exact ok_le m0 m1 ⟨⟨e, h, se⟩, ub⟩ p0 p1 w.2.2.1 w.2.2.2 h'
  refine ⟨⟨e, ⟨fun p a b c => ?_, h.2⟩, se⟩, fun e' h' => ub e' (MT_mono h' (by omega) (fun _ _ _ _ y => y))⟩
  have w := h.1 p a b c
  have ne : e p ≠ m := fun y => q ⟨p, a, b, y⟩
  exact ⟨by omega, w.2⟩
