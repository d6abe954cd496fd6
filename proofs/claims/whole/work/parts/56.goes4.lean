/-! GOES: the reference -/
section
variable {X : qX} {d : Nat} {sh : qS} {pt h : qM} {n C : Int} {bE bN sE sN : Int → Int}
theorem btw_in {f t j n b : Int} (j0 : 0 ≤ j) (j1 : j ≤ n) (n0 : 1 ≤ n) (f0 : 0 ≤ f) (f1 : f < b) (t0 : 0 ≤ t) (t1 : t < b) : 0 ≤ btw f t j n ∧ btw f t j n < b := by
  have := btw_bd (f := f) (t := t) j0 j1 n0
  omega
theorem ps2_eq {m s m' s' j j' : Int} (bg : bgOk bE bN sE sN n) (C0 : 1 ≤ C) (m0 : 0 ≤ m) (m1 : m < n) (s0 : 0 ≤ s) (s1 : s < n) (m0' : 0 ≤ m') (m1' : m' < n) (s0' : 0 ≤ s') (s1' : s' < n) (j0 : 0 ≤ j) (j1 : j ≤ C) (j0' : 0 ≤ j') (j1' : j' ≤ C) : ps2 bE bN sE sN C m s j = ps2 bE bN sE sN C m' s' j' ↔ (btw (bE m) (sE s) j C = btw (bE m') (sE s') j' C ∧ btw (bN m) (sN s) j C = btw (bN m') (sN s') j' C) := by
  have z1 := bg.1 m m0 m1
  have z2 := bg.2 s s0 s1
  have z3 := bg.1 m' m0' m1'
  have z4 := bg.2 s' s0' s1'
  have a1 := btw_in (f := bN m) (t := sN s) (b := 40) j0 j1 C0 (by omega) (by omega) (by omega) (by omega)
  have a2 := btw_in (f := bN m') (t := sN s') (b := 40) j0' j1' C0 (by omega) (by omega) (by omega) (by omega)
  unfold ps2
  omega
def MP (h : qM) (n : Int) (bE bN sE sN : Int → Int) : Prop := (∀ m, 0 ≤ m → m < n → h 82 m = bE m ∧ h 83 m = bN m) ∧ ∀ s, 0 ≤ s → s < n → h 115 s = sE s ∧ h 116 s = sN s
theorem m_meetTwo {K : Int → qM → Prop} {m q : Int} {r : Int → Int} (hst : St sh pt) (mp : MP h n bE bN sE sN) (bg : bgOk bE bN sE sN n) (n1 : n ≤ 6) (C0 : 1 ≤ C) (C1 : C ≤ 40) (hr : ∀ j, 0 ≤ j → j < n → h 117 j = r j ∧ 0 ≤ r j ∧ r j < n) (m0 : 0 ≤ m) (m1 : m < n) (q0 : 0 ≤ q) (q1 : q < n) (k1 : mt (ps2 bE bN sE sN C) C m (r m) q (r q) → K 1 h) (k0 : ¬ mt (ps2 bE bN sE sN C) C m (r m) q (r q) → K 0 h) : RunI X (d + 2) mX11_meetTwo [(2, 78), (0, m), (0, q), (0, C)] sh pt h K := by
  have r1 := hr m m0 m1
  have r2 := hr q q0 q1
  have b1 := bg.1 m m0 m1
  have b2 := bg.1 q q0 q1
  have c1 := bg.2 (r m) r1.2.1 r1.2.2
  have c2 := bg.2 (r q) r2.2.1 r2.2.2
  have a1 := mp.1 m m0 m1
  have a2 := mp.1 q q0 q1
  have s1 := mp.2 (r m) r1.2.1 r1.2.2
  have s2 := mp.2 (r q) r2.2.1 r2.2.2
  have go : ¬ mt1 (ps2 bE bN sE sN C) m (r m) q (r q) 0 → EvI X (d + 2) mX11_meetTwo 51 [(2, 78), (0, m), (0, q), (0, C), (0, bE m), (0, bN m), (0, bE q), (0, bN q), (0, 1), (8, -1), (8, -1), (8, -1), (8, -1)] [] sh pt h K := fun no => by
    have z : EvI X (d + 2) mX11_meetTwo 51 [(2, 78), (0, m), (0, q), (0, C), (0, btw (bE m) (sE (r m)) (1 - 1) C), (0, btw (bN m) (sN (r m)) (1 - 1) C), (0, btw (bE q) (sE (r q)) (1 - 1) C), (0, btw (bN q) (sN (r q)) (1 - 1) C), (0, 1), (8, -1), (8, -1), (8, -1), (8, -1)] [] sh pt h K := by
      refine lp (σ := Unit) (J := fun j _ => ∀ j', 0 ≤ j' → j' < j → ¬ mt1 (ps2 bE bN sE sN C) m (r m) q (r q) j') (C := fun j _ => EvI X (d + 2) mX11_meetTwo 51 [(2, 78), (0, m), (0, q), (0, C), (0, btw (bE m) (sE (r m)) (j - 1) C), (0, btw (bN m) (sN (r m)) (j - 1) C), (0, btw (bE q) (sE (r q)) (j - 1) C), (0, btw (bN q) (sN (r q)) (j - 1) C), (0, j), (8, -1), (8, -1), (8, -1), (8, -1)] [] sh pt h K) (n := C + 1) (by omega) ?_ ?_ () (fun t a b => by rw [show t = 0 by omega]; exact no)
      · intro j _ j0 j1 jj kk
        have nx : ¬ mt1 (ps2 bE bN sE sN C) m (r m) q (r q) j → qI (j + 1) ∧ EvI X (d + 2) mX11_meetTwo 51 [(2, 78), (0, m), (0, q), (0, C), (0, btw (bE m) (sE (r m)) j C), (0, btw (bN m) (sN (r m)) j C), (0, btw (bE q) (sE (r q)) j C), (0, btw (bN q) (sN (r q)) j C), (0, j + 1), (8, -1), (8, -1), (8, -1), (8, -1)] [] sh pt h K := fun nq => by
          have w := kk () (fun j' a b => by
            by_cases e : j' = j
            · rw [e]; exact nq
            · exact jj j' a (by omega))
          try dsimp only at w
          rw [show j + 1 - 1 = j by omega] at w
          exact ⟨⟨by omega, by omega⟩, w⟩
        have p1 := ps2_eq (C := C) (j := j) (j' := j) bg C0 m0 m1 r1.2.1 r1.2.2 q0 q1 r2.2.1 r2.2.2 (by omega) (by omega) (by omega) (by omega)
        have p2 := ps2_eq (C := C) (j := j) (j' := j - 1) bg C0 m0 m1 r1.2.1 r1.2.2 q0 q1 r2.2.1 r2.2.2 (by omega) (by omega) (by omega) (by omega)
        have p3 := ps2_eq (C := C) (j := j) (j' := j - 1) bg C0 q0 q1 r2.2.1 r2.2.2 m0 m1 r1.2.1 r1.2.2 (by omega) (by omega) (by omega) (by omega)
        have last : ¬ (btw (bE m) (sE (r m)) j C = btw (bE q) (sE (r q)) j C ∧ btw (bN m) (sN (r m)) j C = btw (bN q) (sN (r q)) j C) → EvI X (d + 2) mX11_meetTwo 199 [(2, 78), (0, m), (0, q), (0, C), (0, btw (bE m) (sE (r m)) (j - 1) C), (0, btw (bN m) (sN (r m)) (j - 1) C), (0, btw (bE q) (sE (r q)) (j - 1) C), (0, btw (bN q) (sN (r q)) (j - 1) C), (0, j), (0, btw (bE m) (sE (r m)) j C), (0, btw (bN m) (sN (r m)) j C), (0, btw (bE q) (sE (r q)) j C), (0, btw (bN q) (sN (r q)) j C)] [] sh pt h K := fun ne => by
          have nn1 : ¬ (btw (bE m) (sE (r m)) j C = btw (bE q) (sE (r q)) (j - 1) C ∧ btw (bN m) (sN (r m)) j C = btw (bN q) (sN (r q)) (j - 1) C ∧ btw (bE q) (sE (r q)) j C = btw (bE m) (sE (r m)) (j - 1) C ∧ btw (bN q) (sN (r q)) j C = btw (bN m) (sN (r m)) (j - 1) C) → ¬ mt1 (ps2 bE bN sE sN C) m (r m) q (r q) j := fun no2 z => by
            rcases z with z | z
            · exact ne (p1.mp z)
            · have u := p2.mp z.2.1
              have v := p3.mp z.2.2
              exact no2 ⟨u.1, u.2, v.1, v.2⟩
          exact b_X11_meetTwo_199 hst ⟨fun w1 => nx (nn1 (fun z => w1 z.1)), fun w1 => ⟨fun w2 => nx (nn1 (fun z => w2 z.2.1)), fun w2 => ⟨fun w3 => nx (nn1 (fun z => w3 z.2.2.1)), fun w3 => ⟨fun w4 => nx (nn1 (fun z => w4 z.2.2.2)), fun w4 => k1 ⟨j, by omega, by omega, Or.inr ⟨by omega, p2.mpr ⟨w1, w2⟩, p3.mpr ⟨w3, w4⟩⟩⟩⟩⟩⟩⟩
        refine b_X11_meetTwo_51 hst ⟨fun z => absurd z (by omega), fun _ => ?_⟩
        rw [r1.1, s1.1, a1.1]
        refine ⟨by omega, by omega, ⟨r1.2.1, by omega⟩, by omega, ⟨by omega, by omega⟩, m_between hst (by omega) (by omega) C0 (by omega) (by omega) (by omega) (by omega) (by omega) ?_⟩
        rw [r1.1, s1.2, a1.2, show bE m + (sE (r m) - bE m) = sE (r m) by omega]
        refine ⟨by omega, by omega, ⟨r1.2.1, by omega⟩, by omega, ⟨by omega, by omega⟩, m_between hst (by omega) (by omega) C0 (by omega) (by omega) (by omega) (by omega) (by omega) ?_⟩
        rw [r2.1, s2.1, a2.1, show bN m + (sN (r m) - bN m) = sN (r m) by omega]
        refine ⟨by omega, by omega, ⟨r2.2.1, by omega⟩, by omega, ⟨by omega, by omega⟩, m_between hst (by omega) (by omega) C0 (by omega) (by omega) (by omega) (by omega) (by omega) ?_⟩
        rw [r2.1, s2.2, a2.2, show bE q + (sE (r q) - bE q) = sE (r q) by omega]
        refine ⟨by omega, by omega, ⟨r2.2.1, by omega⟩, by omega, ⟨by omega, by omega⟩, m_between hst (by omega) (by omega) C0 (by omega) (by omega) (by omega) (by omega) (by omega) ?_⟩
        rw [show bN q + (sN (r q) - bN q) = sN (r q) by omega]
        exact ⟨fun w => last (fun z => w z.1), fun w => ⟨fun w2 => k1 ⟨j, by omega, by omega, Or.inl (p1.mpr ⟨w, w2⟩)⟩, fun w2 => last (fun z => w2 z.2)⟩⟩
      · intro _ jj
        exact b_X11_meetTwo_51 hst ⟨fun _ => k0 (fun ⟨j, a, b, w⟩ => jj j a (by omega) w), fun z => absurd z (by omega)⟩
    rw [show (1 : Int) - 1 = 0 by decide, btw_0 C0, btw_0 C0, btw_0 C0, btw_0 C0] at z
    exact z
  have p0 := ps2_eq (C := C) (j := 0) (j' := 0) bg C0 m0 m1 r1.2.1 r1.2.2 q0 q1 r2.2.1 r2.2.2 (by omega) (by omega) (by omega) (by omega)
  rw [btw_0 C0, btw_0 C0, btw_0 C0, btw_0 C0] at p0
  have no : ¬ (bE m = bE q ∧ bN m = bN q) → ¬ mt1 (ps2 bE bN sE sN C) m (r m) q (r q) 0 := fun ne z => by
    rcases z with z | z
    · exact ne (p0.mp z)
    · have := z.1; omega
  refine b_X11_meetTwo hst ?_
  rw [a1.1, a1.2, a2.1, a2.2]
  exact ⟨by omega, by omega, by omega, by omega, fun w => go (no (fun z => w z.1)), fun w => ⟨fun w2 => go (no (fun z => w2 z.2)), fun w2 => k1 ⟨0, by decide, by omega, Or.inl (p0.mpr ⟨w, w2⟩)⟩⟩⟩
theorem m_meets {K : Int → qM → Prop} {r : Int → Int} (hst : St sh pt) (mp : MP h n bE bN sE sN) (bg : bgOk bE bN sE sN n) (n0 : 0 ≤ n) (n1 : n ≤ 6) (C0 : 1 ≤ C) (C1 : C ≤ 40) (hr : ∀ j, 0 ≤ j → j < n → h 117 j = r j ∧ 0 ≤ r j ∧ r j < n) (k0 : rlf (ps2 bE bN sE sN C) C n r → K 0 h) (k1 : ¬ rlf (ps2 bE bN sE sN C) C n r → K 1 h) : RunI X (d + 3) mX11_meets [(2, 78), (0, n), (0, C)] sh pt h K := by
  refine b_X11_meets hst ?_
  refine lp (σ := Unit) (J := fun m _ => ∀ i j, 0 ≤ i → i < m → i < j → j < n → ¬ mt (ps2 bE bN sE sN C) C i (r i) j (r j)) (C := fun m _ => EvI X (d + 3) mX11_meets 2 [(2, 78), (0, n), (0, C), (0, m), (8, -1)] [] sh pt h K) n0 ?_ ?_ () (fun i j a b => absurd a (by omega))
  · intro m _ m0 m1 jj kk
    refine b_X11_meets_2 hst ⟨fun q => absurd q (by omega), fun _ => ⟨⟨by omega, by omega⟩, ?_⟩⟩
    refine lp (σ := Unit) (J := fun q _ => ∀ j, m < j → j < q → ¬ mt (ps2 bE bN sE sN C) C m (r m) j (r j)) (C := fun q _ => EvI X (d + 3) mX11_meets 12 [(2, 78), (0, n), (0, C), (0, m), (0, q)] [] sh pt h K) (n := n) (by omega) ?_ ?_ () (fun j a b => absurd a (by omega))
    · intro q _ q0 q1 jj2 kk2
      refine b_X11_meets_12 hst ⟨fun z => absurd z (by omega), fun _ => m_meetTwo hst mp bg n1 C0 C1 hr m0 m1 (by omega) q1 (fun y => ⟨fun z => absurd z (by decide), fun _ => k1 (fun w => w m q m0 (by omega) q1 y)⟩) (fun y => ⟨fun _ => ⟨⟨by omega, by omega⟩, kk2 () (fun j a b => ?_)⟩, fun z => absurd rfl z⟩)⟩
      by_cases e : j = q
      · rw [e]; exact y
      · exact jj2 j a (by omega)
    · intro _ jj2
      refine b_X11_meets_12 hst ⟨fun _ => ⟨⟨by omega, by omega⟩, kk () (fun i j a b c e => ?_)⟩, fun z => absurd z (by omega)⟩
      by_cases e2 : i = m
      · rw [e2] at c ⊢; exact jj2 j c e
      · exact jj i j a (by omega) c e
  · intro _ jj
    exact b_X11_meets_2 hst ⟨fun _ => k0 (fun i j a b c => jj i j a (by omega) b c), fun q => absurd q (by omega)⟩
def PMt (a i : Int) : Prop := a = 117 ∨ a = 118 ∨ (a = 78 ∧ (i = 78 ∨ i = 79))
def MB (h h1 : qM) (n : Int) (b : bst) : Prop := Fr PMt h h1 ∧ h1 78 78 = b.1 ∧ (0 ≤ b.1 → h1 78 79 = b.2.1 ∧ ∀ j, 0 ≤ j → j < n → h1 118 j = b.2.2 j) ∧ -1 ≤ b.1
theorem MP_fr {h1 : qM} (mp : MP h n bE bN sE sN) (fr : Fr PMt h h1) : MP h1 n bE bN sE sN := by
  refine ⟨fun m a b => ?_, fun m a b => ?_⟩
  · rw [fr _ _ (by unfold PMt; omega), fr _ _ (by unfold PMt; omega)]
    exact mp.1 m a b
  · rw [fr _ _ (by unfold PMt; omega), fr _ _ (by unfold PMt; omega)]
    exact mp.2 m a b
theorem m_leaf {K : qM → Prop} {mo su : Int} {r : Int → Int} {b : bst} {h1 : qM} (hst : St sh pt) (mp : MP h n bE bN sE sN) (bg : bgOk bE bN sE sN n) (n0 : 0 ≤ n) (n1 : n ≤ 6) (C0 : 1 ≤ C) (C1 : C ≤ 40) (mo0 : 0 ≤ mo) (cb : MB h h1 n b) (hr : ∀ j, 0 ≤ j → j < n → h1 117 j = r j ∧ 0 ≤ r j ∧ r j < n) (cd : b.1 < 0 ∨ mo < b.1 ∨ mo = b.1 ∧ su < b.2.1) (k : ∀ h2, MB h h2 n (cif (rlf (ps2 bE bN sE sN C) C n r ∧ (b.1 < 0 ∨ mo < b.1 ∨ mo = b.1 ∧ su < b.2.1)) (mo, su, r) b) → (∀ j, 0 ≤ j → j < n → h2 117 j = r j) → K h2) : EvV X (d + 4) mX11_tries 39 [(2, 78), (8, -1), (0, n), (0, C), (8, -1), (0, mo), (0, su), (8, -1)] [] sh pt h1 K := by
  refine b_X11_tries_39 hst (m_meets hst (MP_fr mp cb.1) bg n0 n1 C0 C1 hr (fun ok => ⟨fun _ h2 e2 h3 e3 => ?_, fun z => absurd rfl z⟩) (fun ok => ⟨fun z => absurd z (by decide), fun _ => k h1 (by rw [cif_f (fun z => ok z.1)]; exact cb) (fun j a b => (hr j a b).1)⟩))
  rw [cif_t ⟨ok, cd⟩] at k
  refine lp (σ := qM) (J := fun i h4 => Fr PMt h h4 ∧ h4 78 78 = mo ∧ h4 78 79 = su ∧ (∀ j, 0 ≤ j → j < n → h4 117 j = r j) ∧ ∀ j, 0 ≤ j → j < i → h4 118 j = r j) (C := fun i h4 => EvV X (d + 4) mX11_tries 64 [(2, 78), (8, -1), (0, n), (8, -1), (8, -1), (8, -1), (8, -1), (0, i)] [] sh pt h4 K) n0 ?_ ?_ h3 ?_
  · intro i h4 i0 i1 ⟨f4, g1, g2, g3, g4⟩ kk
    refine b_X11_tries_64 hst ⟨fun z => absurd z (by omega), fun _ => ⟨by omega, by omega, fun h5 e5 => ⟨⟨by omega, by omega⟩, kk h5 ⟨by rw [e5]; exact f4.up (Or.inr (Or.inl rfl)), by rw [e5, qup_of (by omega)]; exact g1, by rw [e5, qup_of (by omega)]; exact g2, fun j a b => by rw [e5, qup_of (by omega)]; exact g3 j a b, fun j a b => ?_⟩⟩⟩⟩
    by_cases e : j = i
    · rw [e, e5, qup_at]; exact g3 i i0 i1
    · rw [e5, qup_of (by omega)]; exact g4 j a (by omega)
  · intro h4 ⟨f4, g1, g2, g3, g4⟩
    exact b_X11_tries_64 hst ⟨fun _ => k h4 ⟨f4, g1, fun _ => ⟨g2, g4⟩, by show -1 ≤ mo; omega⟩ g3, fun z => absurd z (by omega)⟩
  · refine ⟨by rw [e3, e2]; exact (cb.1.up (Or.inr (Or.inr ⟨rfl, Or.inl rfl⟩))).up (Or.inr (Or.inr ⟨rfl, Or.inr rfl⟩)), by rw [e3, e2, qup_of (by omega), qup_at], by rw [e3, qup_at], fun j a b => ?_, fun j a b => absurd a (by omega)⟩
    rw [e3, e2, qup_of (by omega), qup_of (by omega)]
    exact (hr j a b).1
theorem m_tries {K : qM → Prop} (hst : St sh pt) (mp : MP h n bE bN sE sN) (bg : bgOk bE bN sE sN n) (n0 : 0 ≤ n) (n1 : n ≤ 6) (C0 : 1 ≤ C) (C1 : C ≤ 40) : ∀ (k : Nat) (m u mo su : Int) (r : Int → Int) (b : bst) (h1 : qM), 0 ≤ m → m + k = n → 0 ≤ u → u ≤ 2147483647 → 0 ≤ mo → mo ≤ 7200 → 0 ≤ su → su ≤ 7200 * m → MB h h1 n b → (∀ j, 0 ≤ j → j < m → h1 117 j = r j ∧ 0 ≤ r j ∧ r j < n) → ∀ K : qM → Prop, (∀ h2, MB h h2 n (gd n (wy bE bN sE sN) (fun _ _ _ => True) (rlf (ps2 bE bN sE sN C) C n) k m u mo su r b) → (∀ j, 0 ≤ j → j < m → h2 117 j = r j) → K h2) → RunV X (d + 4 + k) mX11_tries [(2, 78), (0, m), (0, n), (0, C), (0, u), (0, mo), (0, su)] sh pt h1 K := by
  intro k
  induction k with
  | zero =>
    intro m u mo su r b h1 m0 e u0 u1 mo0 mo1 su0 su1 cb hr K kk
    rw [gd] at kk
    have stay : ¬ (b.1 < 0 ∨ mo < b.1 ∨ mo = b.1 ∧ su < b.2.1) → K h1 := fun q => kk h1 (by rw [cif_f (fun z => q z.2)]; exact cb) (fun j a b => (hr j a b).1)
    have go : (b.1 < 0 ∨ mo < b.1 ∨ mo = b.1 ∧ su < b.2.1) → EvV X (d + 4) mX11_tries 39 [(2, 78), (8, -1), (0, n), (0, C), (8, -1), (0, mo), (0, su), (8, -1)] [] sh pt h1 K := fun q => m_leaf hst mp bg n0 n1 C0 C1 mo0 cb (fun j a b => hr j a (by omega)) q (fun h2 c2 r2 => kk h2 c2 (fun j a b => r2 j a (by omega)))
    refine b_X11_tries hst ⟨fun q => absurd (by omega) q, fun _ => ?_⟩
    rw [cb.2.1]
    refine ⟨fun q => go (by omega), fun q => ⟨fun q2 => stay (by omega), fun q2 => ⟨fun q3 => go (by omega), fun q3 => ⟨fun q4 => stay ?_, fun q4 => go ?_⟩⟩⟩⟩
    · rw [(cb.2.2.1 q).1] at q4
      omega
    · rw [(cb.2.2.1 q).1] at q4
      omega
  | succ k ih =>
    intro m u mo su r b h1 m0 e u0 u1 mo0 mo1 su0 su1 cb hr K kk
    refine b_X11_tries (d := d + 4 + k) hst ⟨fun _ => ?_, fun q => absurd q (by omega)⟩
    rw [gd] at kk
    generalize ef : (fun s (b : bst) => cif (tb u s = false ∧ True) (gd n (wy bE bN sE sN) (fun _ _ _ => True) (rlf (ps2 bE bN sE sN C) C n) k (m + 1) (qior u (qishl 1 s)) (max mo (wy bE bN sE sN m s)) (su + wy bE bN sE sN m s) (rup r m s) b) b) = f at kk
    have fs : ∀ s b, f s b = cif (tb u s = false ∧ True) (gd n (wy bE bN sE sN) (fun _ _ _ => True) (rlf (ps2 bE bN sE sN C) C n) k (m + 1) (qior u (qishl 1 s)) (max mo (wy bE bN sE sN m s)) (su + wy bE bN sE sN m s) (rup r m s) b) b := fun s b => by rw [← ef]
    refine lp (σ := qM) (J := fun s h2 => MB h h2 n (fo f 0 s b) ∧ ∀ j, 0 ≤ j → j < m → h2 117 j = r j) (C := fun s h2 => EvV X (d + 4 + k + 1) mX11_tries 94 [(2, 78), (0, m), (0, n), (0, C), (0, u), (0, mo), (0, su), (0, s)] [] sh pt h2 K) n0 ?_ ?_ h1 ⟨by rw [fo_end (by omega)]; exact cb, fun j a b => (hr j a b).1⟩
    · intro s h2 s0 s1 ⟨c2, r2⟩ kk2
      have ts := tb_free (u := u) (s := s) u0 u1 s0 (by omega)
      have sn : fo f 0 (s + 1) b = f s (fo f 0 s b) := fo_snoc s0
      refine b_X11_tries_94 hst ⟨fun q => absurd q (by omega), fun _ => ⟨fun q => ⟨by omega, fun h3 e3 => ⟨⟨by omega, by omega⟩, ?_⟩⟩, fun q => ⟨⟨by omega, by omega⟩, kk2 h2 ⟨?_, r2⟩⟩⟩⟩
      · have ts1 : tb u s = false := by
          by_cases z : tb u s = true
          · exact absurd (ts.2.mpr z) q
          · simpa using z
        have f3 : Fr PMt h h3 := by rw [e3]; exact c2.1.up (Or.inl rfl)
        have mp3 := MP_fr mp f3
        have zb := bg.1 m m0 (by omega)
        have zs := bg.2 s s0 s1
        have wb := wy_bd bg m0 (by omega) s0 s1
        have a1 := sq_bd (x := sE s - bE m) (by omega) (by omega)
        have a2 := sq_bd (x := sN s - bN m) (by omega) (by omega)
        have way : ∀ (K2 : Int → qM → Prop), K2 (wy bE bN sE sN m s) h3 → RunI X (d + 4 + k) mX11_wayOf [(2, 78), (0, m), (0, s)] sh pt h3 K2 := fun K2 k2 => by
          have y1 := mp3.1 m m0 (by omega)
          have y2 := mp3.2 s s0 s1
          refine b_X11_wayOf hst ?_
          rw [y1.1, y1.2, y2.1, y2.2]
          exact ⟨by omega, by omega, ⟨by omega, by omega⟩, by omega, by omega, ⟨by omega, by omega⟩, ⟨by omega, by omega⟩, ⟨by omega, by omega⟩, ⟨by omega, by omega⟩, k2⟩
        refine way _ (x_max hst (way _ ⟨⟨by omega, by omega⟩, ?_⟩))
        have or1 := q_or1 (s := u) (m := s) u0 u1 s0 (by omega)
        have ru : ∀ j, 0 ≤ j → j < m + 1 → h3 117 j = rup r m s j ∧ 0 ≤ rup r m s j ∧ rup r m s j < n := fun j a b => by
          by_cases e : j = m
          · rw [e, e3, qup_at, rup_at]
            exact ⟨rfl, s0, s1⟩
          · rw [e3, qup_of (by omega), rup_of e]
            exact ⟨r2 j a (by omega), (hr j a (by omega)).2⟩
        refine ih (m + 1) _ _ _ (rup r m s) (fo f 0 s b) h3 (by omega) (by omega) or1.1 or1.2.1 (by omega) (by omega) (by omega) (by omega) ⟨f3, by rw [e3, qup_of (by omega)]; exact c2.2.1, fun q => ?_, c2.2.2.2⟩ ru _ (fun h4 c4 r4 => ⟨⟨by omega, by omega⟩, kk2 h4 ⟨?_, fun j a b => ?_⟩⟩)
        · rw [e3, qup_of (by omega)]
          refine ⟨(c2.2.2.1 q).1, fun j a b => ?_⟩
          rw [qup_of (by omega)]
          exact (c2.2.2.1 q).2 j a b
        · rw [sn, fs, cif_t ⟨ts1, trivial⟩]
          exact c4
        · rw [r4 j a (by omega), rup_of (by omega)]
      · rw [sn, fs, cif_f (fun z => by rw [ts.2.mp q] at z; exact absurd z.1 (by decide))]
        exact c2
    · intro h2 ⟨c2, r2⟩
      exact b_X11_tries_94 hst ⟨fun _ => kk h2 c2 r2, fun q => absurd q (by omega)⟩
end
