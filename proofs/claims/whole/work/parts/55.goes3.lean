/-! GOES: the search of the class, and the reference -/
theorem qcp_at {h : qM} {a i b j n k : Int} (e : j ≤ k ∧ k < j + n) : qcp h a i b j n b k = h a (i + (k - j)) := if_pos ⟨rfl, e⟩
theorem qcp_of {h : qM} {a i b j n x k : Int} (e : ¬ (x = b ∧ j ≤ k ∧ k < j + n)) : qcp h a i b j n x k = h x k := if_neg e
theorem tb_free {u s : Int} (u0 : 0 ≤ u) (u1 : u ≤ 2147483647) (s0 : 0 ≤ s) (s1 : s ≤ 31) : (qiand (qiushr u s) 1 = 0 ↔ tb u s = false) ∧ (qiand (qishr u s) 1 = 1 ↔ tb u s = true) := by
  rw [q_bitU u0 u1 s0 s1, q_bitS u0 u1 s0 s1]
  by_cases z : tb u s = true
  · simp [z]
  · have : tb u s = false := by simpa using z
    simp [this]
section
variable {X : qX} {d : Nat} {sh : qS} {pt h : qM} {n C : Int} {bE bN sE sN : Int → Int}
def PC (a i : Int) : Prop := a = 23 ∨ a = 24 ∨ (a = 19 ∧ (i = 12 ∨ i = 13))
def CB (h h1 : qM) (n : Int) (b : bst) : Prop := Fr PC h h1 ∧ h1 19 12 = b.1 ∧ (0 ≤ b.1 → h1 19 13 = b.2.1 ∧ ∀ j, 0 ≤ j → j < n → h1 24 j = b.2.2 j) ∧ -1 ≤ b.1
def GP (h : qM) (n C : Int) (bE bN sE sN : Int → Int) : Prop := h 19 11 = n ∧ (∀ m s, 0 ≤ m → m < n → 0 ≤ s → s < n → h 25 (m * 6 + s) = wy bE bN sE sN m s) ∧ ∀ a b, 0 ≤ a → a < n * 6 → 0 ≤ b → b < a → h 27 (a * 36 + b) = mtI (ps2 bE bN sE sN C) C n a b
theorem x_keep {K : qM → Prop} {mo su : Int} {r : Int → Int} {b : bst} {h1 : qM} (hst : St sh pt) (gp : GP h n C bE bN sE sN) (n0 : 0 ≤ n) (n1 : n ≤ 6) (mo0 : 0 ≤ mo) (cb : CB h h1 n b) (hr : ∀ j, 0 ≤ j → j < n → h1 23 j = r j) (k : ∀ h2, CB h h2 n (cif (True ∧ (b.1 < 0 ∨ mo < b.1 ∨ mo = b.1 ∧ su < b.2.1)) (mo, su, r) b) → (∀ j, 0 ≤ j → j < n → h2 23 j = r j) → K h2) : RunV X (d + 1) mX3_keepIfBetter [(2, 19), (0, mo), (0, su)] sh pt h1 K := by
  obtain ⟨fr, c1, c2, c3⟩ := cb
  have en : h1 19 11 = n := by rw [fr _ _ (by unfold PC; omega)]; exact gp.1
  have no : ¬ (b.1 < 0 ∨ mo < b.1 ∨ mo = b.1 ∧ su < b.2.1) → EvV X (d + 1) mX3_keepIfBetter 37 [(2, 19), (0, mo), (0, su), (8, -1)] [(0, 0)] sh pt h1 K := fun q => b_X3_keepIfBetter_37 hst ⟨fun _ => k h1 (by rw [cif_f (fun z => q z.2)]; exact ⟨fr, c1, c2, c3⟩) hr, fun z => absurd rfl z⟩
  have yes : (b.1 < 0 ∨ mo < b.1 ∨ mo = b.1 ∧ su < b.2.1) → EvV X (d + 1) mX3_keepIfBetter 37 [(2, 19), (0, mo), (0, su), (8, -1)] [(0, 1)] sh pt h1 K := fun q => by
    refine b_X3_keepIfBetter_37 hst ⟨fun z => absurd z (by decide), fun _ h2 e2 h3 e3 => ?_⟩
    have e4 : h3 19 11 = n := by rw [e3, e2, qup_of (by omega), qup_of (by omega)]; exact en
    rw [e4]
    refine ⟨⟨by omega, by omega, by omega, by omega, by omega⟩, fun h4 e5 => k h4 ?_ (fun j a b => ?_)⟩
    · rw [cif_t ⟨trivial, q⟩]
      refine ⟨fun x i q => ?_, ?_, fun _ => ⟨?_, fun j j0 j1 => ?_⟩, by omega⟩
      · rw [e5, qcp_of (by unfold PC at q; omega), e3, e2, qup_of (by unfold PC at q; omega), qup_of (by unfold PC at q; omega)]
        exact fr x i q
      · rw [e5, qcp_of (by omega), e3, e2, qup_of (by omega), qup_at]
      · rw [e5, qcp_of (by omega), e3, qup_at]
      · rw [e5, qcp_at (by omega), e3, e2, qup_of (by omega), qup_of (by omega), show (0 : Int) + (j - 0) = j by omega]
        exact hr j j0 j1
    · rw [e5, qcp_of (by omega), e3, e2, qup_of (by omega), qup_of (by omega)]
      exact hr j a b
  refine b_X3_keepIfBetter hst ?_
  rw [c1]
  refine ⟨fun q => yes (by omega), fun q => ⟨fun q2 => yes (by omega), fun q2 => ⟨fun q3 => no (by omega), fun q3 => ⟨fun q4 => no ?_, fun q4 => yes ?_⟩⟩⟩⟩
  · rw [(c2 (by omega)).1] at q4
    omega
  · rw [(c2 (by omega)).1] at q4
    omega
theorem x_pfree {K : Int → qM → Prop} {m s u : Int} {r : Int → Int} {h1 : qM} (hst : St sh pt) (gp : GP h n C bE bN sE sN) (n1 : n ≤ 6) (fr : Fr PC h h1) (m0 : 0 ≤ m) (m1 : m < n) (s0 : 0 ≤ s) (s1 : s < n) (hu : tb u s = false) (hr : ∀ j, 0 ≤ j → j < m → h1 23 j = r j ∧ (0 ≤ r j ∧ r j < n) ∧ tb u (r j) = true) (k1 : cfr (ps2 bE bN sE sN C) C r m s → K 1 h1) (k0 : ¬ cfr (ps2 bE bN sE sN C) C r m s → K 0 h1) : RunI X d mX3_isFree [(2, 19), (0, m), (0, s)] sh pt h1 K := by
  refine b_X3_isFree hst ⟨⟨by omega, by omega⟩, ⟨by omega, by omega⟩, ⟨by omega, by omega⟩, ?_⟩
  refine lp (σ := Unit) (J := fun j _ => ∀ j', 0 ≤ j' → j' < j → ¬ mt (ps2 bE bN sE sN C) C m s j' (r j')) (C := fun j _ => EvI X d mX3_isFree 13 [(2, 19), (0, m), (8, -1), (0, (m * 6 + s) * 36), (0, j)] [] sh pt h1 K) m0 ?_ ?_ () (fun t a b => absurd a (by omega))
  · intro j _ j0 j1 jj kk
    have z := hr j j0 j1
    have ne : ¬ s = r j := fun e => by rw [e, z.2.2] at hu; exact absurd hu (by decide)
    have v : h1 27 ((m * 6 + s) * 36 + (j * 6 + r j)) = mtI (ps2 bE bN sE sN C) C n (m * 6 + s) (j * 6 + r j) := by
      rw [fr _ _ (by unfold PC; omega)]
      exact gp.2.2 _ _ (by omega) (by omega) (by omega) (by omega)
    have d1 : (m * 6 + s) / 6 = m := by omega
    have d2 : (m * 6 + s) % 6 = s := by omega
    have d3 : (j * 6 + r j) / 6 = j := by omega
    have d4 : (j * 6 + r j) % 6 = r j := by omega
    unfold mtI at v
    rw [d1, d2, d3, d4] at v
    refine b_X3_isFree_13 hst ⟨fun q => absurd q (by omega), fun _ => ⟨⟨by omega, by omega⟩, ⟨by omega, by omega⟩, by omega, ?_⟩⟩
    rw [z.1, show (m * 6 + s) * 36 + j * 6 + r j = (m * 6 + s) * 36 + (j * 6 + r j) by omega]
    refine ⟨⟨by omega, by omega⟩, by omega, ?_⟩
    by_cases y : mt (ps2 bE bN sE sN C) C m s j (r j)
    · rw [cif_t ⟨s1, z.2.1.2, ne, by omega, y⟩] at v
      rw [v]
      exact ⟨fun q => absurd q (by decide), fun _ => k0 (fun q => q j j0 j1 y)⟩
    · rw [cif_f (fun q => y q.2.2.2.2)] at v
      rw [v]
      refine ⟨fun _ => ⟨⟨by omega, by omega⟩, kk () (fun j' a b => ?_)⟩, fun q => absurd rfl q⟩
      by_cases e : j' = j
      · rw [e]; exact y
      · exact jj j' a (by omega)
  · intro _ jj
    exact b_X3_isFree_13 hst ⟨fun _ => k1 jj, fun q => absurd q (by omega)⟩
theorem x_choose {K : qM → Prop} (hst : St sh pt) (gp : GP h n C bE bN sE sN) (n0 : 0 ≤ n) (n1 : n ≤ 6) (bg : bgOk bE bN sE sN n) : ∀ (k : Nat) (m u mo su : Int) (r : Int → Int) (b : bst) (h1 : qM), 0 ≤ m → m + k = n → 0 ≤ u → u ≤ 2147483647 → 0 ≤ mo → mo ≤ 7200 → 0 ≤ su → su ≤ 7200 * m → CB h h1 n b → (∀ j, 0 ≤ j → j < m → h1 23 j = r j ∧ (0 ≤ r j ∧ r j < n) ∧ tb u (r j) = true) → ∀ K : qM → Prop, (∀ h2, CB h h2 n (gd n (wy bE bN sE sN) (cfr (ps2 bE bN sE sN C) C) (fun _ => True) k m u mo su r b) → (∀ j, 0 ≤ j → j < m → h2 23 j = r j) → K h2) → RunV X (d + 2 + k) mX3_choose [(2, 19), (0, m), (0, u), (0, mo), (0, su)] sh pt h1 K := by
  intro k
  induction k with
  | zero =>
    intro m u mo su r b h1 m0 e u0 u1 mo0 mo1 su0 su1 cb hr K kk
    have en : h1 19 11 = n := by rw [cb.1 _ _ (by unfold PC; omega)]; exact gp.1
    refine b_X3_choose hst ⟨fun q => absurd q (by omega), fun _ => x_keep hst gp n0 n1 mo0 cb (fun j a b => (hr j a (by omega)).1) (fun h2 c2 r2 => kk h2 ?_ (fun j a b => r2 j a (by omega)))⟩
    rw [gd]
    exact c2
  | succ k ih =>
    intro m u mo su r b h1 m0 e u0 u1 mo0 mo1 su0 su1 cb hr K kk
    have en : h1 19 11 = n := by rw [cb.1 _ _ (by unfold PC; omega)]; exact gp.1
    refine b_X3_choose (d := d + 2 + k) hst ⟨fun _ => ?_, fun q => absurd q (by omega)⟩
    rw [gd] at kk
    generalize ef : (fun s (b : bst) => cif (tb u s = false ∧ cfr (ps2 bE bN sE sN C) C r m s) (gd n (wy bE bN sE sN) (cfr (ps2 bE bN sE sN C) C) (fun _ => True) k (m + 1) (qior u (qishl 1 s)) (max mo (wy bE bN sE sN m s)) (su + wy bE bN sE sN m s) (rup r m s) b) b) = f at kk
    have fs : ∀ s b, f s b = cif (tb u s = false ∧ cfr (ps2 bE bN sE sN C) C r m s) (gd n (wy bE bN sE sN) (cfr (ps2 bE bN sE sN C) C) (fun _ => True) k (m + 1) (qior u (qishl 1 s)) (max mo (wy bE bN sE sN m s)) (su + wy bE bN sE sN m s) (rup r m s) b) b := fun s b => by rw [← ef]
    refine lp (σ := qM) (J := fun s h2 => CB h h2 n (fo f 0 s b) ∧ ∀ j, 0 ≤ j → j < m → h2 23 j = r j) (C := fun s h2 => EvV X (d + 2 + k + 1) mX3_choose 19 [(2, 19), (0, m), (0, u), (0, mo), (0, su), (0, s), (8, -1)] [] sh pt h2 K) n0 ?_ ?_ h1 ⟨by rw [fo_end (by omega)]; exact cb, fun j a b => (hr j a b).1⟩
    · intro s h2 s0 s1 ⟨c2, r2⟩ kk2
      have en : h2 19 11 = n := by rw [c2.1 _ _ (by unfold PC; omega)]; exact gp.1
      have ts := tb_free (u := u) (s := s) u0 u1 s0 (by omega)
      have sn : fo f 0 (s + 1) b = f s (fo f 0 s b) := fo_snoc s0
      have stay : ¬ (tb u s = false ∧ cfr (ps2 bE bN sE sN C) C r m s) → EvV X (d + 2 + k + 1) mX3_choose 19 [(2, 19), (0, m), (0, u), (0, mo), (0, su), (0, s + 1), (8, -1)] [] sh pt h2 K := fun q => kk2 h2 ⟨by rw [sn, fs, cif_f q]; exact c2, r2⟩
      refine b_X3_choose_19 hst ⟨fun q => absurd q (by omega), fun _ => ⟨fun q => ⟨⟨by omega, by omega⟩, stay (fun z => q (ts.1.mpr z.1))⟩, fun q => ?_⟩⟩
      have ts1 := ts.1.mp q
      refine x_pfree hst gp n1 c2.1 m0 (by omega) s0 s1 ts1 (fun j a b => ⟨r2 j a b, (hr j a b).2⟩) (fun cf => ⟨fun z => absurd z (by decide), fun _ => ?_⟩) (fun cf => ⟨fun _ => ⟨⟨by omega, by omega⟩, stay (fun z => cf z.2)⟩, fun z => absurd rfl z⟩)
      have w : h2 25 (m * 6 + s) = wy bE bN sE sN m s := by
        rw [c2.1 _ _ (by unfold PC; omega)]
        exact gp.2.1 m s m0 (by omega) s0 s1
      have wb := wy_bd bg m0 (by omega) s0 s1
      rw [w]
      refine ⟨⟨by omega, by omega⟩, ⟨by omega, by omega⟩, by omega, by omega, fun h3 e3 => ⟨⟨by omega, by omega⟩, x_max hst ⟨⟨by omega, by omega⟩, ?_⟩⟩⟩
      have or1 := q_or1 (s := u) (m := s) u0 u1 s0 (by omega)
      have ru : ∀ j, 0 ≤ j → j < m + 1 → h3 23 j = rup r m s j ∧ (0 ≤ rup r m s j ∧ rup r m s j < n) ∧ tb (qior u (qishl 1 s)) (rup r m s j) = true := fun j a b => by
        by_cases e : j = m
        · rw [e, e3, qup_at, rup_at]
          refine ⟨rfl, ⟨s0, s1⟩, ?_⟩
          rw [or1.2.2 s s0]
          simp
        · have z := hr j a (by omega)
          rw [e3, qup_of (by omega), rup_of e]
          refine ⟨r2 j a (by omega), z.2.1, ?_⟩
          rw [or1.2.2 _ z.2.1.1, z.2.2]
          rfl
      refine ih (m + 1) _ _ _ (rup r m s) (fo f 0 s b) h3 (by omega) (by omega) or1.1 or1.2.1 (by omega) (by omega) (by omega) (by omega) ⟨by rw [e3]; exact c2.1.up (Or.inl rfl), by rw [e3, qup_of (by omega)]; exact c2.2.1, fun q => ?_, c2.2.2.2⟩ ru _ (fun h4 c4 r4 => ⟨⟨by omega, by omega⟩, kk2 h4 ⟨?_, fun j a b => ?_⟩⟩)
      · rw [e3, qup_of (by omega)]
        refine ⟨(c2.2.2.1 q).1, fun j a b => ?_⟩
        rw [qup_of (by omega)]
        exact (c2.2.2.1 q).2 j a b
      · rw [sn, fs, cif_t ⟨ts1, cf⟩]
        exact c4
      · rw [r4 j a (by omega), rup_of (by omega)]
    · intro h2 ⟨c2, r2⟩
      have en : h2 19 11 = n := by rw [c2.1 _ _ (by unfold PC; omega)]; exact gp.1
      exact b_X3_choose_19 hst ⟨fun _ => kk h2 c2 r2, fun q => absurd q (by omega)⟩
noncomputable def bestC (n C : Int) (bE bN sE sN : Int → Int) : bst := gd n (wy bE bN sE sN) (cfr (ps2 bE bN sE sN C) C) (fun _ => True) n.toNat 0 0 0 0 (fun _ => 0) (-1, 0, fun _ => 0)
theorem bestC_ok (n0 : 0 ≤ n) (bg : bgOk bE bN sE sN n) : -1 ≤ (bestC n C bE bN sE sN).1 ∧ (bestC n C bE bN sE sN).1 ≤ 7200 ∧ (0 ≤ (bestC n C bE bN sE sN).1 → (0 ≤ (bestC n C bE bN sE sN).2.1 ∧ (bestC n C bE bN sE sN).2.1 ≤ 7200 * n) ∧ ∀ j, 0 ≤ j → j < n → 0 ≤ (bestC n C bE bN sE sN).2.2 j ∧ (bestC n C bE bN sE sN).2.2 j < n) := by
  unfold bestC
  refine gd_inv (J := fun b => -1 ≤ b.1 ∧ b.1 ≤ 7200 ∧ (0 ≤ b.1 → (0 ≤ b.2.1 ∧ b.2.1 ≤ 7200 * n) ∧ ∀ j, 0 ≤ j → j < n → 0 ≤ b.2.2 j ∧ b.2.2 j < n)) n0 (fun m s a b c e => wy_bd bg a b c e) n.toNat 0 0 0 0 _ _ (by decide) (by omega) (by decide) (by decide) (by decide) (by decide) (fun j a b => absurd a (by omega)) (fun mo su r a b c e q => ⟨by dsimp only; omega, b, fun _ => ⟨⟨c, e⟩, q⟩⟩) ⟨by decide, by decide, fun q => absurd q (by decide)⟩
def PGo (a i : Int) : Prop := a = 20 ∨ a = 23 ∨ a = 24 ∨ a = 25 ∨ a = 26 ∨ a = 27 ∨ (a = 19 ∧ (i = 0 ∨ i = 1 ∨ i = 2 ∨ i = 11 ∨ i = 12 ∨ i = 13))
def PG0 (a i : Int) : Prop := a = 23 ∨ a = 24 ∨ a = 25 ∨ a = 26 ∨ a = 27 ∨ (a = 19 ∧ (i = 11 ∨ i = 12 ∨ i = 13))
theorem x_search {K : Int → qM → Prop} (hst : St sh pt) (n0 : 0 ≤ n) (n1 : n ≤ 6) (C0 : 1 ≤ C) (C1 : C ≤ 40) (bg : bgOk bE bN sE sN n) (hb : ∀ m, 0 ≤ m → m < n → h 3 m = bE m ∧ h 4 m = bN m) (hs : ∀ s, 0 ≤ s → s < n → h 21 s = sE s ∧ h 22 s = sN s)
    (k0 : (bestC n C bE bN sE sN).1 < 0 → ∀ h1, Fr PG0 h h1 → K 0 h1) (k1 : 0 ≤ (bestC n C bE bN sE sN).1 → ∀ h1, Fr PGo h h1 → h1 19 0 = n → h1 19 1 = (bestC n C bE bN sE sN).1 → h1 19 2 = (bestC n C bE bN sE sN).2.1 → (∀ j, 0 ≤ j → j < n → h1 20 j = (bestC n C bE bN sE sN).2.2 j) → K 1 h1) : RunI X (d + 10) mX3_search [(2, 19), (2, 2), (0, n), (0, C)] sh pt h K := by
  have bok := bestC_ok (C := C) n0 bg
  refine b_X3_search (d := d + 9) hst (fun h1 e1 => ?_)
  have u3 : ∀ a i, ¬ (a = 19) → h1 a i = h a i := fun a i q => by rw [e1, qup_of (by omega)]
  refine x_layWays (d := d + 6) hst (n := n) (C := C) (by rw [e1, qup_at]) n0 n1 C0 C1 bg (fun m a b => by rw [u3 _ _ (by decide), u3 _ _ (by decide)]; exact hb m a b) (fun m a b => by rw [u3 _ _ (by decide), u3 _ _ (by decide)]; exact hs m a b) (fun h2 f2 g2 => ?_)
  have en2 : h2 19 11 = n := by rw [f2 _ _ (by omega), e1, qup_at]
  refine x_layMeetings (d := d + 8) (P := ps2 bE bN sE sN C) hst en2 n0 n1 C0 C1 (fun m s a b c e j q1 q2 => (g2 m s a b c e).2 j q1 q2) (fun h3 f3 g3 h4 e4 h5 e5 => ?_)
  have gp : GP h5 n C bE bN sE sN := by
    refine ⟨?_, fun m s a b c e => ?_, fun a b q1 q2 q3 q4 => ?_⟩
    · rw [e5, e4, qup_of (by omega), qup_of (by omega), f3 _ _ (by omega)]; exact en2
    · rw [e5, e4, qup_of (by omega), qup_of (by omega), f3 _ _ (by omega)]; exact (g2 m s a b c e).1
    · rw [e5, e4, qup_of (by omega), qup_of (by omega)]; exact g3 a b q1 q2 q3 q4
  have fr5 : Fr PG0 h h5 := fun a i q => by
    unfold PG0 at q
    rw [e5, e4, qup_of (by omega), qup_of (by omega), f3 _ _ (by omega), f2 _ _ (by omega), e1, qup_of (by omega)]
  have zz := x_choose (X := X) (d := d + 7 - n.toNat) (K := fun _ => True) (sh := sh) (pt := pt) hst gp n0 n1 bg n.toNat 0 0 0 0 (fun _ => 0) (-1, 0, fun _ => 0) h5 (by decide) (by omega) (by decide) (by decide) (by decide) (by decide) (by decide) (by decide) ⟨Fr.rf, by rw [e5, e4, qup_of (by omega), qup_at], fun q => absurd q (by decide), by decide⟩ (fun j a b => absurd a (by omega))
  rw [show d + 7 - n.toNat + 2 + n.toNat = d + 9 by omega] at zz
  refine zz _ (fun h6 c6 r6 => ?_)
  have eb : gd n (wy bE bN sE sN) (cfr (ps2 bE bN sE sN C) C) (fun _ => True) n.toNat 0 0 0 0 (fun _ => 0) (-1, 0, fun _ => 0) = bestC n C bE bN sE sN := rfl
  rw [eb] at c6
  obtain ⟨f6, g6, g7, g8⟩ := c6
  have en6 : h6 19 11 = n := by rw [f6 _ _ (by unfold PC; omega)]; exact gp.1
  rw [g6]
  have fr6 : Fr PG0 h h6 := fun a i q => by
    rw [f6 _ _ (by unfold PG0 at q; unfold PC; omega)]
    exact fr5 a i q
  refine ⟨fun q h7 e7 h8 e8 h9 e9 => ?_, fun q => k0 (by omega) h6 fr6⟩
  have en9 : h9 19 11 = n := by rw [e9, e8, e7, qup_of (by omega), qup_of (by omega), qup_of (by omega)]; exact en6
  have e71 : h7 19 12 = (bestC n C bE bN sE sN).1 := by rw [e7, qup_of (by omega)]; exact g6
  have e81 : h8 19 13 = (bestC n C bE bN sE sN).2.1 := by rw [e8, e7, qup_of (by omega), qup_of (by omega)]; exact (g7 (by omega)).1
  rw [en9]
  refine ⟨⟨by omega, by omega, by omega, by omega, by omega⟩, fun h10 e10 => k1 (by omega) h10 (fun a i q => ?_) ?_ ?_ ?_ (fun j a b => ?_)⟩
  · have q2 : ¬ PG0 a i := fun z => q (by unfold PG0 at z; unfold PGo; omega)
    unfold PGo at q
    rw [e10, qcp_of (by omega), e9, e8, e7, qup_of (by omega), qup_of (by omega), qup_of (by omega)]
    exact fr6 a i q2
  · rw [e10, qcp_of (by omega), e9, e8, e7, qup_of (by omega), qup_of (by omega), qup_at, en6]
  · rw [e10, qcp_of (by omega), e9, e8, qup_of (by omega), qup_at, e71]
  · rw [e10, qcp_of (by omega), e9, qup_at, e81]
  · rw [e10, qcp_at (by omega), e9, e8, e7, qup_of (by omega), qup_of (by omega), qup_of (by omega), show (0 : Int) + (j - 0) = j by omega]
    exact (g7 (by omega)).2 j a b
end
