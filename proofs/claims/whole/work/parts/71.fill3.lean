/-! who fills in: the class's fill -/
section
variable {X : qX} {d : Nat} {sh : qS} {pt h : qM} {P M m p L first : Int} {C : Int → Int → Prop} {S Bd : Int → Prop} {fl e fl2 e2 : Int → Int}
theorem subMT (cn : CN P M fl e) (s1 : sub1 P M first C Bd e) : MT P first M (avS C Bd) (eB Bd e) ∧ sz P (eB Bd e) = nB P Bd e := by
  refine ⟨⟨fun p x y z => ?_, fun p r x y x2 y2 z g => ?_⟩, ?_⟩
  · by_cases g : Bd p
    · rw [eB_t g] at z; exact absurd rfl z
    · rw [eB_f g] at z ⊢
      have m1 := s1.1 p x y z g
      rcases cn.1 p x y with m2 | m2
      · exact absurd m2 z
      · exact ⟨m1.1, m2.1.2, m1.2, g⟩
  · by_cases g1 : Bd p
    · rw [eB_t g1] at z; exact absurd rfl z
    · rw [eB_f g1] at z g
      by_cases g2 : Bd r
      · rw [eB_t g2] at g; exact absurd g z
      · rw [eB_f g2] at g
        rcases cn.1 p x y with m2 | m2
        · exact absurd m2 z
        · rcases cn.1 r x2 y2 with m3 | m3
          · rw [← g] at m3; exact absurd m3 z
          · rw [← m2.2, g, m3.2]
  · unfold nB sz
    refine NT_same _ (fun t x y => ?_)
    by_cases z : Bd t
    · rw [eB_t z]
      exact ⟨fun g => absurd rfl g, fun g => absurd z g.2⟩
    · rw [eB_f z]
      exact ⟨fun g => ⟨g, z⟩, fun g => g.1⟩
def vld (P M : Int) (C : Int → Int → Prop) (e : Int → Int) : Prop := ∀ p, 0 ≤ p → p < P → e p ≠ -1 → C (e p) p
theorem sub_of (cn : CN P M fl e) (v : vld P M C e) (m0 : 0 ≤ m) : sub1 P M m C (Sf fl m) e := by
  refine ⟨fun p a b c n => ⟨?_, v p a b c⟩, fun p a b c ⟨_, j, x, y, z⟩ => ?_⟩
  · rcases cn.1 p a b with w | w
    · exact absurd w c
    · by_cases q : m ≤ e p
      · exact q
      · exact absurd ⟨a, e p, w.1.1, by omega, w.2⟩ n
  · rcases cn.1 p a b with w | w
    · exact absurd w c
    · by_cases q : e p < m
      · exact q
      · rcases cn.2 j x (by omega) with u | u
        · omega
        · have := u.2
          rw [z] at this
          omega
/-- m takes p from who has it; m's own is let go -/
theorem tp_ok (m0 : 0 ≤ m) (m1 : m < M) (p0 : 0 ≤ p) (p1 : p < P) (cp : C m p) (ns : ¬ Sf fl m p) (ne : e p ≠ m) (cn : CN P M fl e) (v : vld P M C e) (hfl : ∀ j, 0 ≤ j → j < M → fl2 j = if j = m then p else if j = e p then -1 else fl j) (he : ∀ q, 0 ≤ q → q < P → e2 q = if q = p then m else if q = fl m then -1 else e q) :
    CN P M fl2 e2 ∧ vld P M C e2 ∧ (∀ j, 0 ≤ j → j < m → fl2 j = fl j) ∧ Sf fl2 (m + 1) = (fun q => Sf fl m q ∨ q = p) ∧ nB P (Sf fl m) e = nB P (fun q => Sf fl m q ∨ q = p) e2 + (if e p = -1 then 0 else 1) + (if fl m = -1 then 0 else 1) := by
  have lo : e p = -1 ∨ ((m < e p ∧ e p < M) ∧ fl (e p) = p) := by
    rcases cn.1 p p0 p1 with w | w
    · exact Or.inl w
    · refine Or.inr ⟨⟨?_, w.1.2⟩, w.2⟩
      by_cases q : m < e p
      · exact q
      · exact absurd ⟨p0, e p, w.1.1, by omega, w.2⟩ ns
  have hl := cn.2 m m0 m1
  have hp : fl m ≠ p := fun g => by
    rcases hl with w | w
    · omega
    · have := w.2
      rw [g] at this
      exact ne this
  have ah : ∀ j, 0 ≤ j → j < m → fl2 j = fl j := fun j a b => by rw [hfl j a (by omega), if_neg (by omega), if_neg (by omega)]
  refine ⟨⟨fun q a b => ?_, fun j a b => ?_⟩, fun q a b c => ?_, ah, Sf_yes m0 p0 ah (by rw [hfl m m0 m1, if_pos rfl]), ?_⟩
  · rw [he q a b]
    by_cases z : q = p
    · rw [if_pos z]
      refine Or.inr ⟨⟨m0, m1⟩, ?_⟩
      rw [hfl m m0 m1, if_pos rfl, z]
    · rw [if_neg z]
      by_cases z2 : q = fl m
      · rw [if_pos z2]; exact Or.inl rfl
      · rw [if_neg z2]
        rcases cn.1 q a b with w | w
        · exact Or.inl w
        · refine Or.inr ⟨w.1, ?_⟩
          rw [hfl _ w.1.1 w.1.2, if_neg (fun g => z2 (by have := w.2; rw [g] at this; exact this.symm)), if_neg (fun g => ?_)]
          · exact w.2
          · rcases lo with y | y
            · rw [y] at g; omega
            · have := w.2
              rw [g, y.2] at this
              exact z this.symm
  · rw [hfl j a b]
    by_cases z : j = m
    · rw [if_pos z]
      refine Or.inr ⟨⟨p0, p1⟩, ?_⟩
      rw [he p p0 p1, if_pos rfl, z]
    · rw [if_neg z]
      by_cases z2 : j = e p
      · rw [if_pos z2]; exact Or.inl rfl
      · rw [if_neg z2]
        rcases cn.2 j a b with w | w
        · exact Or.inl w
        · refine Or.inr ⟨w.1, ?_⟩
          rw [he _ w.1.1 w.1.2, if_neg (fun g => z2 (by have := w.2; rw [g] at this; exact this.symm)), if_neg (fun g => ?_)]
          · exact w.2
          · rcases hl with y | y
            · rw [y] at g; omega
            · have := w.2
              rw [g, y.2] at this
              exact z this.symm
  · rw [he q a b] at c ⊢
    by_cases z : q = p
    · rw [if_pos z, z]; exact cp
    · rw [if_neg z] at c ⊢
      by_cases z2 : q = fl m
      · rw [if_pos z2] at c; exact absurd rfl c
      · rw [if_neg z2] at c ⊢
        exact v q a b c
  · have hns : fl m ≠ -1 → ¬ Sf fl m (fl m) := fun g ⟨_, j, x, y, z⟩ => by
      rcases hl with w | w
      · exact g w
      · rcases cn.2 j x (by omega) with u | u
        · omega
        · have := u.2
          rw [z, w.2] at this
          omega
    have D : NT (fun q => (e2 q ≠ -1 ∧ ¬ (Sf fl m q ∨ q = p))) P.toNat = NT (fun q => ((e q ≠ -1 ∧ ¬ Sf fl m q) ∧ q ≠ p) ∧ q ≠ fl m) P.toNat := NT_same _ (fun t a b => by
      rw [he t a (by omega)]
      by_cases z : t = p
      · rw [if_pos z]
        exact ⟨fun g => absurd (Or.inr z) g.2, fun g => absurd z g.1.2⟩
      · rw [if_neg z]
        by_cases z2 : t = fl m
        · rw [if_pos z2]
          exact ⟨fun g => absurd rfl g.1, fun g => absurd z2 g.2⟩
        · rw [if_neg z2]
          exact ⟨fun g => ⟨⟨⟨g.1, fun y => g.2 (Or.inl y)⟩, z⟩, z2⟩, fun g => ⟨g.1.1.1, fun y => by
            rcases y with y | y
            · exact g.1.1.2 y
            · exact z y⟩⟩)
    have s1 : NT (fun q => (e q ≠ -1 ∧ ¬ Sf fl m q) ∧ q ≠ p) P.toNat = NT (fun q => ((e q ≠ -1 ∧ ¬ Sf fl m q) ∧ q ≠ p) ∧ q ≠ fl m) P.toNat + (if fl m = -1 then 0 else 1) := by
      by_cases z : fl m = -1
      · rw [if_pos z, Int.add_zero]
        exact NT_same _ (fun t a b => ⟨fun g => ⟨g, by omega⟩, fun g => g.1⟩)
      · rw [if_neg z]
        rcases hl with w | w
        · exact absurd w z
        · exact NT_add (v := fl m) w.1.1 (fun y => y.2 rfl) P.toNat (by omega) (fun t a b => ⟨fun g => by
            by_cases y : t = fl m
            · exact Or.inr y
            · exact Or.inl ⟨g, y⟩, fun g => by
            rcases g with g | g
            · exact g.1
            · rw [g]; exact ⟨⟨by omega, hns z⟩, hp⟩⟩)
    have s2 : NT (fun q => e q ≠ -1 ∧ ¬ Sf fl m q) P.toNat = NT (fun q => (e q ≠ -1 ∧ ¬ Sf fl m q) ∧ q ≠ p) P.toNat + (if e p = -1 then 0 else 1) := by
      by_cases z : e p = -1
      · rw [if_pos z, Int.add_zero]
        exact NT_same _ (fun t a b => ⟨fun g => ⟨g, fun y => g.1 (by rw [y]; exact z)⟩, fun g => g.1⟩)
      · rw [if_neg z]
        exact NT_add (v := p) p0 (fun y => y.2 rfl) P.toNat (by omega) (fun t a b => ⟨fun g => by
          by_cases y : t = p
          · exact Or.inr y
          · exact Or.inl ⟨g, y⟩, fun g => by
          rcases g with g | g
          · exact g.1
          · rw [g]; exact ⟨z, ns⟩⟩)
    unfold nB
    rw [s2, s1, D]
    omega
/-- settled up to m -/
def SI (h : qM) (P M : Int) (C : Int → Int → Prop) (m st L : Int) : Prop := CN P M (h 31) (h 38) ∧ vld P M C (h 38) ∧ (0 ≤ st ∧ st ≤ 2147483647) ∧ (∀ p, 0 ≤ p → p < P → (tb st p = true ↔ Sf (h 31) m p)) ∧ isMx P m M (avS C (Sf (h 31) m)) L ∧ nB P (Sf (h 31) m) (h 38) = L ∧ LX P M C (h 31) m
theorem SI_acc {h1 : qM} {st : Int} (m0 : 0 ≤ m) (m1 : m < M) (P1 : P ≤ 16) (p0 : 0 ≤ p) (p1 : p < P) (cp : C m p) (ns : ¬ Sf (h 31) m p) (si : SI h P M C m st L) (cn1 : CN P M (h1 31) (h1 38)) (v1 : vld P M C (h1 38)) (ah : ∀ j, 0 ≤ j → j < m → h1 31 j = h 31 j) (em : h1 31 m = p) (nb : nB P (fun q => Sf (h 31) m q ∨ q = p) (h1 38) = L - 1) (no : ∀ q, 0 ≤ q → q < p → ¬ okP P M C (Sf (h 31) m) m L q) : SI h1 P M C (m + 1) (qior st (qishl 1 p)) (L - 1) := by
  obtain ⟨s1, s2, s3, s4, s5, s6, s7⟩ := si
  have es : Sf (h1 31) (m + 1) = fun q => Sf (h 31) m q ∨ q = p := Sf_yes m0 p0 ah em
  have o := q_or1 (s := st) (m := p) s3.1 s3.2 p0 (by omega)
  have sm := subMT cn1 (sub_of (m := m + 1) cn1 v1 (by omega))
  rw [es] at sm
  have mx : isMx P (m + 1) M (avS C (fun q => Sf (h 31) m q ∨ q = p)) (L - 1) := ⟨⟨_, sm.1, by rw [sm.2, nb]⟩, fun e' h' => ok_le m0 m1 s5 p0 p1 cp ns h'⟩
  refine ⟨cn1, v1, ⟨o.1, o.2.1⟩, fun q a b => ?_, by rw [es]; exact mx, by rw [es]; exact nb, fun j a b => ?_⟩
  · rw [es, o.2.2 q a, Bool.or_eq_true, s4 q a b]
    exact ⟨fun y => by
      rcases y with y | y
      · exact Or.inl y
      · exact Or.inr (of_decide_eq_true y), fun y => by
      rcases y with y | y
      · exact Or.inl y
      · exact Or.inr (decide_eq_true y)⟩
  · by_cases e : j = m
    · rw [e]
      refine ⟨L, by rw [Sf_eq ah]; exact s5, Or.inr ?_⟩
      rw [Sf_eq ah, em]
      exact ⟨⟨⟨p0, p1⟩, cp, ns, mx⟩, fun q qp => by
        by_cases q0 : 0 ≤ q
        · exact no q q0 qp
        · exact fun z => q0 z.1.1⟩
    · exact LX_eq s7 ah j a (by omega)
theorem x_try {K : Int → qM → Prop} {st : Int} (hst : St sh pt) (rs : rsX h P M C) (m0 : 0 ≤ m) (m1 : m < M) (p0 : 0 ≤ p) (p1 : p < P) (cp : C m p) (ns : ¬ Sf (h 31) m p) (si : SI h P M C m st L) (no : ∀ q, 0 ≤ q → q < p → ¬ okP P M C (Sf (h 31) m) m L q)
    (k1 : ∀ h1, Fr PO4 h h1 → SI h1 P M C (m + 1) (qior st (qishl 1 p)) (L - 1) → K 1 h1) (k0 : ∀ h1, Fr PO4 h h1 → (∀ j, 0 ≤ j → j < M → h1 31 j = h 31 j) → (∀ q, 0 ≤ q → q < P → h1 38 q = h 38 q) → ¬ okP P M C (Sf (h 31) m) m L p → K 0 h1) : RunI X (d + 3) mX5_tryPerson [(2, 30), (0, m), (0, p), (0, st)] sh pt h K := by
  obtain ⟨r1, r2, r3⟩ := id rs
  obtain ⟨s1, s2, s3, s4, s5, s6, s7⟩ := id si
  have cpp := s1.1 p p0 p1
  have cmm := s1.2 m m0 m1
  have u4 : ∀ h1 : qM, Fr PO4 h h1 → rsX h1 P M C := fun h1 f => rsX_fr rs f
  -- behind the changes
  have fin : ∀ h1 : qM, h 38 p ≠ m → Fr PO h h1 → (∀ j, 0 ≤ j → j < M → h1 31 j = if j = h 38 p then -1 else h 31 j) → (∀ q, 0 ≤ q → q < P → h1 38 q = if q = h 31 m then -1 else h 38 q) → EvI X (d + 3) mX5_tryPerson 52 [(2, 30), (0, m), (0, p), (0, st), (0, h 31 m), (0, h 38 p)] [] sh pt h1 K := fun h1 ne f1 g1 g2 => by
    refine b_X5_tryPerson_52 hst (b_X5_pair hst ⟨by omega, fun h2 e2 => ⟨by omega, fun h3 e3 => ?_⟩⟩)
    have f3 : Fr PO h h3 := by rw [e3, e2]; exact (f1.up (Or.inl rfl)).up (Or.inr rfl)
    have f34 : Fr PO4 h h3 := f3.wk (fun a i q => by unfold PO at q; unfold PO4; omega)
    have t := tp_ok (P := P) (M := M) (C := C) (fl := h 31) (e := h 38) (fl2 := h3 31) (e2 := h3 38) m0 m1 p0 p1 cp ns ne s1 s2 (fun j a b => by
      by_cases z : j = m
      · rw [if_pos z, z, e3, e2, qup_of (by omega), qup_at]
      · rw [if_neg z, e3, e2, qup_of (by omega), qup_of (by omega)]; exact g1 j a b) (fun q a b => by
      by_cases z : q = p
      · rw [if_pos z, z, e3, qup_at]
      · rw [if_neg z, e3, e2, qup_of (by omega), qup_of (by omega)]; exact g2 q a b)
    obtain ⟨t1, t2, t3, t4, t5⟩ := t
    have em : h3 31 m = p := by rw [e3, e2, qup_of (by omega), qup_at]
    have acc : nB P (fun q => Sf (h 31) m q ∨ q = p) (h3 38) = L - 1 → K 1 h3 := fun nb => k1 h3 f34 (SI_acc m0 m1 r1.2.2 p0 p1 cp ns si t1 t2 t3 em nb no)
    rw [s6] at t5
    have sm := subMT t1 (sub_of (m := m + 1) t1 t2 (by omega))
    rw [t4] at sm
    have ub := ok_le m0 m1 s5 p0 p1 cp ns sm.1
    rw [sm.2] at ub
    refine ⟨fun q => acc ?_, fun q => ⟨fun q2 => acc ?_, fun q2 => ⟨⟨by omega, by omega⟩, ?_⟩⟩⟩
    · rw [if_pos q] at t5
      split at t5 <;> omega
    · rw [if_neg q, if_pos q2] at t5
      omega
    · rw [if_neg q, if_neg q2] at t5
      have o := q_or1 (s := st) (m := p) s3.1 s3.2 p0 (by omega)
      have es4 := t4
      refine x_fom (first := m + 1) (Bd := fun q => Sf (h 31) m q ∨ q = p) (d := d) hst (u4 h3 f34) (by omega) (by omega) o.1 o.2.1 (fun q a b => ?_) t1 (by rw [← t4]; exact sub_of t1 t2 (by omega)) (fun h4 ⟨y1, y2, y3, y4, y5, y6⟩ => ⟨fun z => absurd z (by decide), fun _ => ?_⟩) (fun h4 f4 mx => ⟨fun _ => ?_, fun z => absurd rfl z⟩)
      · rw [o.2.2 q a, Bool.or_eq_true, s4 q a b]
        exact ⟨fun y => by
          rcases y with y | y
          · exact Or.inl y
          · exact Or.inr (of_decide_eq_true y), fun y => by
          rcases y with y | y
          · exact Or.inl y
          · exact Or.inr (decide_eq_true y)⟩
      · refine k1 h4 (f34.tr y1) (SI_acc m0 m1 r1.2.2 p0 p1 cp ns si y2 (fun q a b c => ?_) (fun j a b => by rw [y4 j a (by omega)]; exact t3 j a b) (by rw [y4 m m0 (by omega)]; exact em) (by omega) no)
        by_cases z : Sf (h 31) m q ∨ q = p
        · rw [y3 q a b z] at c ⊢
          exact t2 q a b c
        · exact (y5 q a b c z).2
      · have lo : (0 ≤ h 38 p ∧ h 38 p < M) ∧ h 31 (h 38 p) = p := by
          rcases cpp with w | w
          · exact absurd w q
          · exact w
        have hl : (0 ≤ h 31 m ∧ h 31 m < P) ∧ h 38 (h 31 m) = m := by
          rcases cmm with w | w
          · exact absurd w q2
          · exact w
        refine b_X5_pair hst ⟨by omega, fun h5 e5 => ⟨by omega, fun h6 e6 => b_X5_pair hst ⟨by omega, fun h7 e7 => ⟨by omega, fun h8 e8 => ?_⟩⟩⟩⟩
        have v4 : ∀ a i, a = 31 ∨ a = 38 → h4 a i = h3 a i := fun a i q => f4 _ _ (by unfold PO2; omega)
        have v3 : ∀ j, h3 31 j = if j = m then p else h1 31 j := fun j => by
          by_cases z : j = m
          · rw [if_pos z, z]; exact em
          · rw [if_neg z, e3, e2, qup_of (by omega), qup_of (by omega)]
        have w3 : ∀ q, h3 38 q = if q = p then m else h1 38 q := fun q => by
          by_cases z : q = p
          · rw [if_pos z, z, e3, qup_at]
          · rw [if_neg z, e3, e2, qup_of (by omega), qup_of (by omega)]
        have f8 : Fr PO4 h h8 := by
          rw [e8, e7, e6, e5]
          exact ((((f34.tr (f4.wk (fun a i q => by unfold PO2 at q; unfold PO4; omega))).up (by unfold PO4; omega)).up (by unfold PO4; omega)).up (by unfold PO4; omega)).up (by unfold PO4; omega)
        have hne : h 31 m ≠ p := fun g => by have := hl.2; rw [g] at this; exact ne this
        refine k0 h8 f8 (fun j j0 j1 => ?_) (fun r r0 r1 => ?_) (fun z => ?_)
        · by_cases z : j = h 38 p
          · rw [e8, qup_of (by omega), e7, z, qup_at, lo.2]
          · by_cases z2 : j = m
            · rw [e8, qup_of (by omega), e7, qup_of (by omega), e6, qup_of (by omega), e5, z2, qup_at]
            · rw [e8, qup_of (by omega), e7, qup_of (by omega), e6, qup_of (by omega), e5, qup_of (by omega), v4 _ _ (by omega), v3, if_neg z2, g1 j j0 j1, if_neg z]
        · by_cases z : r = p
          · rw [e8, z, qup_at]
          · by_cases z2 : r = h 31 m
            · rw [e8, qup_of (by omega), e7, qup_of (by omega), e6, z2, qup_at, hl.2]
            · rw [e8, qup_of (by omega), e7, qup_of (by omega), e6, qup_of (by omega), e5, qup_of (by omega), v4 _ _ (by omega), w3, if_neg z, g2 r r0 r1, if_neg z2]
        · have := mx_uq mx z.2.2.2
          omega
  refine b_X5_tryPerson hst ⟨by omega, by omega, fun ne => ⟨fun q => ⟨fun q2 => ?_, fun q2 => ⟨?_, fun h4 e4 => ?_⟩⟩, fun q => ⟨?_, fun h6 e6 => ⟨fun q2 => ?_, fun q2 => ⟨?_, fun h8 e8 => ?_⟩⟩⟩⟩, fun eq => ?_⟩
  · exact fin h ne Fr.rf (fun j a b => by rw [if_neg (by omega)]) (fun r a b => by rw [if_neg (by omega)])
  · rcases cmm with w | w
    · exact absurd w q2
    · omega
  · refine fin h4 ne (by rw [e4]; exact Fr.rf.up (Or.inr rfl)) (fun j a b => by rw [if_neg (by omega), e4, qup_of (by omega)]) (fun r a b => ?_)
    by_cases z : r = h 31 m
    · rw [if_pos z, z, e4, qup_at]
    · rw [if_neg z, e4, qup_of (by omega)]
  · rcases cpp with w | w
    · exact absurd w q
    · omega
  · refine fin h6 ne (by rw [e6]; exact Fr.rf.up (Or.inl rfl)) (fun j a b => ?_) (fun r a b => by rw [if_neg (by omega), e6, qup_of (by omega)])
    by_cases z : j = h 38 p
    · rw [if_pos z, z, e6, qup_at]
    · rw [if_neg z, e6, qup_of (by omega)]
  · rcases cmm with w | w
    · exact absurd w q2
    · omega
  · refine fin h8 ne (by rw [e8, e6]; exact (Fr.rf.up (Or.inl rfl)).up (Or.inr rfl)) (fun j a b => ?_) (fun r a b => ?_)
    · by_cases z : j = h 38 p
      · rw [if_pos z, z, e8, e6, qup_of (by omega), qup_at]
      · rw [if_neg z, e8, e6, qup_of (by omega), qup_of (by omega)]
    · by_cases z : r = h 31 m
      · rw [if_pos z, z, e8, qup_at]
      · rw [if_neg z, e8, e6, qup_of (by omega), qup_of (by omega)]
  · -- it is its own
    refine k1 h Fr.rf (SI_acc m0 m1 r1.2.2 p0 p1 cp ns si s1 s2 (fun _ _ _ => rfl) ?_ ?_ no)
    · rcases cpp with w | w
      · omega
      · have := w.2
        rw [eq] at this
        exact this
    · have z : nB P (Sf (h 31) m) (h 38) = nB P (fun q => Sf (h 31) m q ∨ q = p) (h 38) + 1 := by
        unfold nB
        refine NT_add (v := p) p0 (fun y => y.2 (Or.inr rfl)) P.toNat (by omega) (fun t a b => ⟨fun g => ?_, fun g => ?_⟩)
        · by_cases y : t = p
          · exact Or.inr y
          · exact Or.inl ⟨g.1, fun x => by
              rcases x with x | x
              · exact g.2 x
              · exact y x⟩
        · rcases g with g | g
          · exact ⟨g.1, fun x => g.2 (Or.inl x)⟩
          · rw [g]; exact ⟨by omega, ns⟩
      omega
theorem SI_cg {h1 : qM} {st : Int} (m0 : 0 ≤ m) (m1 : m ≤ M) (si : SI h P M C m st L) (a : ∀ j, 0 ≤ j → j < M → h1 31 j = h 31 j) (b : ∀ q, 0 ≤ q → q < P → h1 38 q = h 38 q) : SI h1 P M C m st L := by
  obtain ⟨s1, s2, s3, s4, s5, s6, s7⟩ := si
  have es : Sf (h1 31) m = Sf (h 31) m := Sf_eq (fun j x y => a j x (by omega))
  refine ⟨⟨fun q x y => ?_, fun j x y => ?_⟩, fun q x y z => ?_, s3, by rw [es]; exact s4, by rw [es]; exact s5, ?_, LX_eq s7 (fun j x y => a j x (by omega))⟩
  · rw [b q x y]
    rcases s1.1 q x y with w | w
    · exact Or.inl w
    · exact Or.inr ⟨w.1, by rw [a _ w.1.1 w.1.2]; exact w.2⟩
  · rw [a j x y]
    rcases s1.2 j x y with w | w
    · exact Or.inl w
    · exact Or.inr ⟨w.1, by rw [b _ w.1.1 w.1.2]; exact w.2⟩
  · rw [b q x y] at z ⊢
    exact s2 q x y z
  · rw [es, ← s6]
    unfold nB
    exact NT_same _ (fun t x y => by rw [b t x (by omega)])
theorem x_settle {K : Int → qM → Prop} {st : Int} (hst : St sh pt) (rs : rsX h P M C) (m0 : 0 ≤ m) (m1 : m < M) (si : SI h P M C m st L) (k : ∀ st2 L2 h1, Fr PO4 h h1 → SI h1 P M C (m + 1) st2 L2 → K st2 h1) : RunI X (d + 4) mX5_settle [(2, 30), (0, m), (0, st)] sh pt h K := by
  obtain ⟨r1, r2, r3⟩ := id rs
  obtain ⟨s1, s2, s3, s4, s5, s6, s7⟩ := id si
  have cr := r3 m m0 m1
  refine b_X5_settle hst ⟨by omega, fun x2 ex => ?_⟩
  have an := q_andnot (s := h 37 m) (t := st) cr.1.1 cr.1.2 s3.1 s3.2
  rw [← ex] at an
  have xp : ∀ p, 0 ≤ p → p < P → (tb x2 p = true ↔ C m p ∧ ¬ Sf (h 31) m p) := fun p p0 p1 => by
    rw [an.2.2 p p0, Bool.and_eq_true, cr.2 p p0 p1, Bool.not_eq_true', ← Bool.not_eq_true, s4 p p0 p1]
  refine lp (σ := qM) (J := fun p h1 => Fr PO4 h h1 ∧ (∀ j, 0 ≤ j → j < M → h1 31 j = h 31 j) ∧ (∀ q, 0 ≤ q → q < P → h1 38 q = h 38 q) ∧ ∀ q, 0 ≤ q → q < p → ¬ okP P M C (Sf (h 31) m) m L q) (C := fun p h1 => EvI X (d + 4) mX5_settle 14 [(2, 30), (0, m), (0, st), (0, x2), (0, p)] [] sh pt h1 K) (n := P) r1.2.1 ?_ ?_ h ⟨Fr.rf, fun _ _ _ => rfl, fun _ _ _ => rfl, fun q a b => absurd a (by omega)⟩
  · intro p h1 p0 p1 ⟨f1, g1, g2, no⟩ kk
    have rs1 := rsX_fr rs f1
    have es : Sf (h1 31) m = Sf (h 31) m := Sf_eq (fun j x y => g1 j x (by omega))
    have bit := q_bitU (s := x2) (m := p) an.1 (by omega) p0 (by omega)
    have nxt : ∀ h2, Fr PO4 h h2 → (∀ j, 0 ≤ j → j < M → h2 31 j = h 31 j) → (∀ q, 0 ≤ q → q < P → h2 38 q = h 38 q) → ¬ okP P M C (Sf (h 31) m) m L p → qI (p + 1) ∧ EvI X (d + 4) mX5_settle 14 [(2, 30), (0, m), (0, st), (0, x2), (0, p + 1)] [] sh pt h2 K := fun h2 f2 a b nk => ⟨⟨by omega, by omega⟩, kk h2 ⟨f2, a, b, fun q x y => by
      by_cases e : q = p
      · rw [e]; exact nk
      · exact no q x (by omega)⟩⟩
    refine b_X5_settle_14 hst ⟨fun z => absurd z (by rw [rs1.1.1]; omega), fun _ => ⟨fun z => nxt h1 f1 g1 g2 (fun y => ?_), fun z => ?_⟩⟩
    · rw [bit, if_pos ((xp p p0 p1).mpr ⟨y.2.1, y.2.2.1⟩)] at z
      exact absurd z (by decide)
    · have t : tb x2 p = true := by
        by_cases t : tb x2 p = true
        · exact t
        · rw [bit, if_neg t] at z; exact absurd rfl z
      have c := (xp p p0 p1).mp t
      refine x_try (d := d) hst rs1 m0 m1 p0 p1 c.1 (by rw [es]; exact c.2) (SI_cg m0 (by omega) si g1 g2) (by rw [es]; exact no) (fun h2 f2 s2 => ⟨fun z => absurd z (by decide), fun _ => k _ _ h2 (f1.tr f2) s2⟩) (fun h2 f2 a b nk => ⟨fun _ => nxt h2 (f1.tr f2) (fun j x y => by rw [a j x y]; exact g1 j x y) (fun q x y => by rw [b q x y]; exact g2 q x y) (by rw [es] at nk; exact nk), fun z => absurd rfl z⟩)
  · intro h1 ⟨f1, g1, g2, no⟩
    have rs1 := rsX_fr rs f1
    refine b_X5_settle_14 hst ⟨fun _ => k st L h1 f1 ?_, fun z => absurd z (by rw [rs1.1.1]; omega)⟩
    have no2 : ∀ p, ¬ okP P M C (Sf (h 31) m) m L p := fun p z => no p z.1.1 z.1.2 z
    have em : h 31 m = -1 := by
      rcases s1.2 m m0 m1 with w | w
      · exact w
      · exfalso
        have ns : ¬ Sf (h 31) m (h 31 m) := fun ⟨_, j, x, y, z⟩ => by
          rcases s1.2 j x (by omega) with u | u
          · omega
          · have := u.2
            rw [z, w.2] at this
            omega
        have cm : C m (h 31 m) := by
          have := s2 _ w.1.1 w.1.2 (by rw [w.2]; omega)
          rw [w.2] at this
          exact this
        refine no2 (h 31 m) ⟨w.1, cm, ns, ?_⟩
        have es1 : Sf (h 31) (m + 1) = fun q => Sf (h 31) m q ∨ q = h 31 m := Sf_yes m0 w.1.1 (fun _ _ _ => rfl) rfl
        have sm := subMT s1 (sub_of (m := m + 1) s1 s2 (by omega))
        rw [es1] at sm
        refine ⟨⟨_, sm.1, ?_⟩, fun e' h' => ok_le m0 m1 s5 w.1.1 w.1.2 cm ns h'⟩
        rw [sm.2]
        have z : nB P (Sf (h 31) m) (h 38) = nB P (fun q => Sf (h 31) m q ∨ q = h 31 m) (h 38) + 1 := by
          unfold nB
          refine NT_add (v := h 31 m) w.1.1 (fun y => y.2 (Or.inr rfl)) P.toNat (by omega) (fun t a b => ⟨fun g => ?_, fun g => ?_⟩)
          · by_cases y : t = h 31 m
            · exact Or.inr y
            · exact Or.inl ⟨g.1, fun x => by
                rcases x with x | x
                · exact g.2 x
                · exact y x⟩
          · rcases g with g | g
            · exact ⟨g.1, fun x => g.2 (Or.inl x)⟩
            · rw [g]; exact ⟨by rw [w.2]; omega, ns⟩
        omega
    refine SI_cg (h := h) (by omega) (by omega) ?_ g1 g2
    have es : Sf (h 31) (m + 1) = Sf (h 31) m := Sf_no m0 (fun _ _ _ => rfl) em
    refine ⟨s1, s2, s3, by rw [es]; exact s4, by rw [es]; exact none_nx m0 m1 s5 no2, by rw [es]; exact s6, fun j a b => ?_⟩
    by_cases e : j = m
    · rw [e]
      exact ⟨L, s5, Or.inl ⟨em, no2⟩⟩
    · exact s7 j a (by omega)
end
