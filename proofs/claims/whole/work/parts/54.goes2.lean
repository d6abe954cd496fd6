/-! GOES: the class -/
theorem ql2i_id {v : Int} (h : qI v) : ql2i v = v := by
  unfold ql2i
  have h1 := h.1
  have h2 := h.2
  rw [Int64.toInt_toInt32, q_toL ⟨by omega, by omega⟩, Int.bmod_def]
  split <;> omega
def gdS (x y : Int → Int) (s : Int) : Prop := 0 ≤ x s ∧ x s < 60 ∧ 0 ≤ y s ∧ y s < 40 ∧ ∀ t, 0 ≤ t → t < s → ¬ (x t = x s ∧ y t = y s)
def spOk (x y : Int → Int) (n : Int) : Prop := ∀ s, 0 ≤ s → s < n → gdS x y s
section
variable {X : qX} {d : Nat} {sh : qS} {pt h : qM}
theorem x_takeSpots {K : Int → qM → Prop} {w n : Int} {x y : Int → Int} (hst : St sh pt) (hw : isW w) (n0 : 0 ≤ n) (n1 : n ≤ 6) (hx : ∀ s, 0 ≤ s → s < n → h (w + 1) (2 * s) = x s ∧ h (w + 1) (2 * s + 1) = y s)
    (k1 : spOk x y n → ∀ h1, Fr (fun a _ => a = 21 ∨ a = 22) h h1 → (∀ s, 0 ≤ s → s < n → h1 21 s = x s ∧ h1 22 s = y s) → K 1 h1) (k0 : ¬ spOk x y n → ∀ h1, Fr (fun a _ => a = 21 ∨ a = 22) h h1 → K 0 h1) : RunI X d mX3_takeSpots [(2, 19), (2, w), (0, n)] sh pt h K := by
  refine b_X3_takeSpots hst hw ?_
  have hw9 : ¬ (w + 1 = 21 ∨ w + 1 = 22) := by
    have : w = 70 ∨ w = 72 ∨ w = 74 ∨ w = 76 := hw
    omega
  refine lp (σ := qM) (J := fun s h1 => Fr (fun a _ => a = 21 ∨ a = 22) h h1 ∧ (∀ t, 0 ≤ t → t < s → h1 21 t = x t ∧ h1 22 t = y t) ∧ ∀ t, 0 ≤ t → t < s → gdS x y t) (C := fun s h1 => EvI X d mX3_takeSpots 2 [(2, 19), (2, w), (0, n), (0, s), (8, -1), (8, -1), (8, -1), (8, -1), (8, -1)] [] sh pt h1 K) n0 ?_ ?_ h ⟨Fr.rf, fun t a b => absurd a (by omega), fun t a b => absurd a (by omega)⟩
  · intro s h1 s0 s1 ⟨fr, j1, j2⟩ kk
    have e1 : h1 (w + 1) (2 * s) = x s := by rw [fr _ _ hw9]; exact (hx s s0 s1).1
    have e2 : h1 (w + 1) (2 * s + 1) = y s := by rw [fr _ _ hw9]; exact (hx s s0 s1).2
    have bad : ¬ gdS x y s → ¬ spOk x y n := fun q z => q (z s s0 s1)
    refine b_X3_takeSpots_2 hst hw ⟨fun q => absurd q (by omega), fun _ => ⟨⟨by omega, by omega⟩, ⟨by omega, by omega⟩, ⟨by omega, by omega⟩, ⟨by omega, by omega⟩, ⟨by omega, by omega⟩, fun z ez => ?_⟩⟩
    rw [e1]
    rw [e2] at ez
    subst ez
    refine ⟨fun q => k0 (bad (fun z => by have := z.1; omega)) h1 fr, fun q => ⟨fun q2 => k0 (bad (fun z => by have := z.2.1; omega)) h1 fr, fun q2 => ⟨fun q3 => k0 (bad (fun z => by have := z.2.2.1; omega)) h1 fr, fun q3 => ⟨fun q4 => ⟨by omega, fun h2 g2 => ⟨by omega, fun h3 g3 => ?_⟩⟩, fun q4 => k0 (bad (fun z => by have := z.2.2.2.1; omega)) h1 fr⟩⟩⟩⟩
    rw [ql2i_id ⟨by omega, by omega⟩] at g2 g3
    have fr3 : Fr (fun a _ => a = 21 ∨ a = 22) h h3 := by rw [g3, g2]; exact (fr.up (Or.inl rfl)).up (Or.inr rfl)
    have j3 : ∀ t, 0 ≤ t → t < s + 1 → h3 21 t = x t ∧ h3 22 t = y t := fun t t0 t1 => by
      rw [g3, g2]
      by_cases e : t = s
      · rw [e, qup_of (by omega), qup_at, qup_at]; exact ⟨rfl, rfl⟩
      · rw [qup_of (by omega), qup_of (by omega), qup_of (by omega), qup_of (by omega)]; exact j1 t t0 (by omega)
    refine lp (σ := Unit) (J := fun t _ => ∀ t', 0 ≤ t' → t' < t → ¬ (x t' = x s ∧ y t' = y s)) (C := fun t _ => EvI X d mX3_takeSpots 84 [(2, 19), (2, w), (0, n), (0, s), (8, -1), (8, -1), (8, -1), (8, -1), (0, t)] [] sh pt h3 K) s0 ?_ ?_ () (fun t a b => absurd a (by omega))
    · intro t _ t0 t1 jj kk2
      have u1 := j3 t t0 (by omega)
      have u2 := j3 s s0 (by omega)
      refine b_X3_takeSpots_84 hst hw ⟨fun q => absurd q (by omega), fun _ => ⟨by omega, by omega, ?_⟩⟩
      rw [u1.1, u2.1, u1.2, u2.2]
      refine ⟨fun q => ⟨⟨by omega, by omega⟩, kk2 () (fun t' a b => ?_)⟩, fun q => ⟨by omega, by omega, fun q2 => ⟨⟨by omega, by omega⟩, kk2 () (fun t' a b => ?_)⟩, fun q2 => k0 (bad (fun z => z.2.2.2.2 t t0 t1 ⟨q, q2⟩)) h3 fr3⟩⟩
      · by_cases e : t' = t
        · rw [e]; exact fun z => q z.1
        · exact jj t' a (by omega)
      · by_cases e : t' = t
        · rw [e]; exact fun z => q2 z.2
        · exact jj t' a (by omega)
    · intro _ jj
      refine b_X3_takeSpots_84 hst hw ⟨fun _ => ⟨⟨by omega, by omega⟩, kk h3 ⟨fr3, j3, fun t t0 t1 => ?_⟩⟩, fun q => absurd q (by omega)⟩
      by_cases e : t = s
      · rw [e]; exact ⟨q, q2, q3, q4, jj⟩
      · exact j2 t t0 (by omega)
  · intro h1 ⟨fr, j1, j2⟩
    exact b_X3_takeSpots_2 hst hw ⟨fun _ => k1 j2 h1 fr j1, fun q => absurd q (by omega)⟩
def bgOk (bE bN sE sN : Int → Int) (n : Int) : Prop := (∀ m, 0 ≤ m → m < n → 0 ≤ bE m ∧ bE m < 60 ∧ 0 ≤ bN m ∧ bN m < 40) ∧ ∀ s, 0 ≤ s → s < n → 0 ≤ sE s ∧ sE s < 60 ∧ 0 ≤ sN s ∧ sN s < 40
theorem wy_bd {bE bN sE sN : Int → Int} {n m s : Int} (bg : bgOk bE bN sE sN n) (m0 : 0 ≤ m) (m1 : m < n) (s0 : 0 ≤ s) (s1 : s < n) : 0 ≤ wy bE bN sE sN m s ∧ wy bE bN sE sN m s ≤ 7200 := by
  have z1 := bg.1 m m0 m1
  have z2 := bg.2 s s0 s1
  have a := sq_bd (x := sE s - bE m) (by omega) (by omega)
  have b := sq_bd (x := sN s - bN m) (by omega) (by omega)
  unfold wy
  omega
def fil (h : qM) (bE bN sE sN : Int → Int) (C m s : Int) : Prop := h 25 (m * 6 + s) = wy bE bN sE sN m s ∧ ∀ j, 0 ≤ j → j ≤ C → h 26 ((m * 6 + s) * 41 + j) = ps2 bE bN sE sN C m s j
theorem x_layWays {K : qM → Prop} {n C : Int} {bE bN sE sN : Int → Int} (hst : St sh pt) (hn : h 19 11 = n) (n0 : 0 ≤ n) (n1 : n ≤ 6) (C0 : 1 ≤ C) (C1 : C ≤ 40) (bg : bgOk bE bN sE sN n) (hb : ∀ m, 0 ≤ m → m < n → h 3 m = bE m ∧ h 4 m = bN m) (hs : ∀ s, 0 ≤ s → s < n → h 21 s = sE s ∧ h 22 s = sN s)
    (k : ∀ h1, Fr (fun a _ => a = 25 ∨ a = 26) h h1 → (∀ m s, 0 ≤ m → m < n → 0 ≤ s → s < n → fil h1 bE bN sE sN C m s) → K h1) : RunV X (d + 3) mX3_layWays [(2, 19), (2, 2), (0, C)] sh pt h K := by
  refine b_X3_layWays hst ?_
  refine lp (σ := qM) (J := fun m h1 => Fr (fun a _ => a = 25 ∨ a = 26) h h1 ∧ ∀ m' s, 0 ≤ m' → m' < m → 0 ≤ s → s < n → fil h1 bE bN sE sN C m' s) (C := fun m h1 => EvV X (d + 3) mX3_layWays 2 [(2, 19), (2, 2), (0, C), (0, m), (8, -1), (8, -1), (8, -1), (8, -1), (8, -1), (8, -1), (8, -1)] [] sh pt h1 K) n0 ?_ ?_ h ⟨Fr.rf, fun t s a b => absurd a (by omega)⟩
  · intro m h1 m0 m1 ⟨fr, j1⟩ kk
    have en : h1 19 11 = n := by rw [fr _ _ (by omega)]; exact hn
    have eb : h1 3 m = bE m ∧ h1 4 m = bN m := by rw [fr _ _ (by omega), fr _ _ (by omega)]; exact hb m m0 m1
    have zb := bg.1 m m0 m1
    refine b_X3_layWays_2 hst ⟨fun q => absurd q (by omega), fun _ => ⟨by omega, by omega, ?_⟩⟩
    rw [eb.1, eb.2]
    refine lp (σ := qM) (J := fun s h2 => Fr (fun a _ => a = 25 ∨ a = 26) h h2 ∧ (∀ m' s', 0 ≤ m' → m' < m → 0 ≤ s' → s' < n → fil h2 bE bN sE sN C m' s') ∧ ∀ s', 0 ≤ s' → s' < s → fil h2 bE bN sE sN C m s') (C := fun s h2 => EvV X (d + 3) mX3_layWays 29 [(2, 19), (2, 2), (0, C), (0, m), (0, bE m), (0, bN m), (0, s), (8, -1), (8, -1), (8, -1), (8, -1)] [] sh pt h2 K) n0 ?_ ?_ h1 ⟨fr, j1, fun s a b => absurd a (by omega)⟩
    · intro s h2 s0 s1 ⟨fr2, i1, i2⟩ kk2
      have en : h2 19 11 = n := by rw [fr2 _ _ (by omega)]; exact hn
      have es : h2 21 s = sE s ∧ h2 22 s = sN s := by rw [fr2 _ _ (by omega), fr2 _ _ (by omega)]; exact hs s s0 s1
      have zs := bg.2 s s0 s1
      have wb := wy_bd bg m0 m1 s0 s1
      have a1 := sq_bd (x := sE s - bE m) (by omega) (by omega)
      have a2 := sq_bd (x := sN s - bN m) (by omega) (by omega)
      have fw : (sE s - bE m) * (sE s - bE m) + (sN s - bN m) * (sN s - bN m) = wy bE bN sE sN m s := rfl
      refine b_X3_layWays_29 hst ⟨fun q => absurd q (by omega), fun _ => ?_⟩
      rw [es.1, es.2, fw]
      refine ⟨⟨by omega, by omega⟩, ⟨by omega, by omega⟩, by omega, ⟨by omega, by omega⟩, by omega, ⟨by omega, by omega⟩, ⟨by omega, by omega⟩, ⟨by omega, by omega⟩, ⟨by omega, by omega⟩, by omega, fun h3 e3 => ?_⟩
      refine lp (σ := qM) (J := fun j h4 => Fr (fun a _ => a = 25 ∨ a = 26) h h4 ∧ (∀ m' s', 0 ≤ m' → m' < m → 0 ≤ s' → s' < n → fil h4 bE bN sE sN C m' s') ∧ (∀ s', 0 ≤ s' → s' < s → fil h4 bE bN sE sN C m s') ∧ h4 25 (m * 6 + s) = wy bE bN sE sN m s ∧ ∀ j', 0 ≤ j' → j' < j → h4 26 ((m * 6 + s) * 41 + j') = ps2 bE bN sE sN C m s j') (C := fun j h4 => EvV X (d + 3) mX3_layWays 92 [(2, 19), (2, 2), (0, C), (0, m), (0, bE m), (0, bN m), (0, s), (0, m * 6 + s), (8, -1), (8, -1), (0, j)] [] sh pt h4 K) (n := C + 1) (by omega) ?_ ?_ h3 ?_
      · intro j h4 j0 j1 ⟨fr4, g1, g2, g3, g4⟩ kk3
        have es4 : h4 21 s = sE s ∧ h4 22 s = sN s := by rw [fr4 _ _ (by omega), fr4 _ _ (by omega)]; exact hs s s0 s1
        have b1 := btw_bd (f := bE m) (t := sE s) (j := j) (n := C) j0 (by omega) C0
        have b2 := btw_bd (f := bN m) (t := sN s) (j := j) (n := C) j0 (by omega) C0
        refine b_X3_layWays_92 hst ⟨fun q => absurd q (by omega), fun _ => ⟨⟨by omega, by omega⟩, ⟨by omega, by omega⟩, by omega, ?_⟩⟩
        rw [es4.1]
        refine x_between hst j0 (by omega) C0 (by omega) (by omega) (by omega) (by omega) (by omega) ⟨by omega, ?_⟩
        rw [es4.2]
        refine x_between hst j0 (by omega) C0 (by omega) (by omega) (by omega) (by omega) (by omega) (b_X2_spot hst ⟨⟨by omega, by omega⟩, ⟨by omega, by omega⟩, by omega, fun h5 e5 => ⟨⟨by omega, by omega⟩, kk3 h5 ?_⟩⟩)
        rw [e5]
        refine ⟨fr4.up (Or.inr rfl), fun m' s' a b c e => ?_, fun s' a b => ?_, ?_, fun j' a b => ?_⟩
        · have z := g1 m' s' a b c e
          refine ⟨by rw [qup_of (by omega)]; exact z.1, fun j2 q1 q2 => ?_⟩
          rw [qup_of (by omega)]
          exact z.2 j2 q1 q2
        · have z := g2 s' a b
          refine ⟨by rw [qup_of (by omega)]; exact z.1, fun j2 q1 q2 => ?_⟩
          rw [qup_of (by omega)]
          exact z.2 j2 q1 q2
        · rw [qup_of (by omega)]
          exact g3
        · by_cases e : j' = j
          · rw [e, qup_at]; rfl
          · rw [qup_of (by omega)]; exact g4 j' a (by omega)
      · intro h4 ⟨fr4, g1, g2, g3, g4⟩
        refine b_X3_layWays_92 hst ⟨fun _ => ⟨⟨by omega, by omega⟩, kk2 h4 ⟨fr4, g1, fun s' a b => ?_⟩⟩, fun q => absurd q (by omega)⟩
        by_cases e : s' = s
        · rw [e]; exact ⟨g3, fun j a b => g4 j a (by omega)⟩
        · exact g2 s' a (by omega)
      · rw [e3]
        refine ⟨fr2.up (Or.inl rfl), fun m' s' a b c e => ?_, fun s' a b => ?_, qup_at, fun j' a b => absurd a (by omega)⟩
        · have z := i1 m' s' a b c e
          refine ⟨by rw [qup_of (by omega)]; exact z.1, fun j2 q1 q2 => ?_⟩
          rw [qup_of (by omega)]
          exact z.2 j2 q1 q2
        · have z := i2 s' a b
          refine ⟨by rw [qup_of (by omega)]; exact z.1, fun j2 q1 q2 => ?_⟩
          rw [qup_of (by omega)]
          exact z.2 j2 q1 q2
    · intro h2 ⟨fr2, i1, i2⟩
      have en : h2 19 11 = n := by rw [fr2 _ _ (by omega)]; exact hn
      refine b_X3_layWays_29 hst ⟨fun _ => ⟨⟨by omega, by omega⟩, kk h2 ⟨fr2, fun m' s a b c e => ?_⟩⟩, fun q => absurd q (by omega)⟩
      by_cases e2 : m' = m
      · rw [e2]; exact i2 s c e
      · exact i1 m' s a (by omega) c e
  · intro h1 ⟨fr, j1⟩
    have en : h1 19 11 = n := by rw [fr _ _ (by omega)]; exact hn
    exact b_X3_layWays_2 hst ⟨fun _ => k h1 fr j1, fun q => absurd q (by omega)⟩
theorem x_pmeet {K : Int → qM → Prop} {P : Int → Int → Int → Int} {C m s n t : Int} (hst : St sh pt) (C0 : 1 ≤ C) (C1 : C ≤ 40) (m0 : 0 ≤ m) (m1 : m < 6) (s0 : 0 ≤ s) (s1 : s < 6) (n0 : 0 ≤ n) (n1 : n < 6) (t0 : 0 ≤ t) (t1 : t < 6) (hA : ∀ j, 0 ≤ j → j ≤ C → h 26 ((m * 6 + s) * 41 + j) = P m s j) (hB : ∀ j, 0 ≤ j → j ≤ C → h 26 ((n * 6 + t) * 41 + j) = P n t j) (k1 : mt P C m s n t → K 1 h) (k0 : ¬ mt P C m s n t → K 0 h) : RunI X d mX3_meet [(2, 19), (0, m * 6 + s), (0, n * 6 + t), (0, C)] sh pt h K := by
  refine b_X3_meet hst ⟨⟨by omega, by omega⟩, ⟨by omega, by omega⟩, ?_⟩
  refine lp (σ := Unit) (J := fun j _ => ∀ j', 0 ≤ j' → j' < j → ¬ mt1 P m s n t j') (C := fun j _ => EvI X d mX3_meet 15 [(2, 19), (8, -1), (8, -1), (0, C), (0, (m * 6 + s) * 41), (0, (n * 6 + t) * 41), (0, j)] [] sh pt h K) (n := C + 1) (by omega) ?_ ?_ () (fun t a b => absurd a (by omega))
  · intro j _ j0 j1 jj kk
    have nx : ¬ mt1 P m s n t j → EvI X d mX3_meet 15 [(2, 19), (8, -1), (8, -1), (0, C), (0, (m * 6 + s) * 41), (0, (n * 6 + t) * 41), (0, j + 1)] [] sh pt h K := fun q => kk () (fun j' a b => by
      by_cases e : j' = j
      · rw [e]; exact q
      · exact jj j' a (by omega))
    refine b_X3_meet_15 hst ⟨fun q => absurd q (by omega), fun _ => ⟨⟨by omega, by omega⟩, ⟨by omega, by omega⟩, ⟨by omega, by omega⟩, ⟨by omega, by omega⟩, ?_⟩⟩
    rw [hA j j0 (by omega), hB j j0 (by omega)]
    refine ⟨fun q => ⟨fun q2 => ⟨⟨by omega, by omega⟩, nx (fun z => ?_)⟩, fun q2 => ⟨⟨by omega, by omega⟩, ⟨by omega, by omega⟩, ⟨by omega, by omega⟩, ⟨by omega, by omega⟩, ⟨by omega, by omega⟩, ?_⟩⟩, fun q => k1 ⟨j, j0, by omega, Or.inl q⟩⟩
    · rcases z with z | z
      · exact q z
      · omega
    · rw [show (n * 6 + t) * 41 + j - 1 = (n * 6 + t) * 41 + (j - 1) by omega, show (m * 6 + s) * 41 + j - 1 = (m * 6 + s) * 41 + (j - 1) by omega, hA (j - 1) (by omega) (by omega), hB (j - 1) (by omega) (by omega)]
      refine ⟨fun q3 => ⟨⟨by omega, by omega⟩, nx (fun z => ?_)⟩, fun q3 => ⟨⟨by omega, by omega⟩, ⟨by omega, by omega⟩, ⟨by omega, by omega⟩, ⟨by omega, by omega⟩, ⟨by omega, by omega⟩, fun q4 => ⟨⟨by omega, by omega⟩, nx (fun z => ?_)⟩, fun q4 => k1 ⟨j, j0, by omega, Or.inr ⟨q2, q3, q4⟩⟩⟩⟩
      · rcases z with z | z
        · exact q z
        · exact q3 z.2.1
      · rcases z with z | z
        · exact q z
        · exact q4 z.2.2
  · intro _ jj
    refine b_X3_meet_15 hst ⟨fun _ => k0 (fun ⟨j, a, b, q⟩ => jj j a (by omega) q), fun q => absurd q (by omega)⟩
noncomputable def mtI (P : Int → Int → Int → Int) (C n a b : Int) : Int := cif (a % 6 < n ∧ b % 6 < n ∧ ¬ a % 6 = b % 6 ∧ ¬ a / 6 = b / 6 ∧ mt P C (a / 6) (a % 6) (b / 6) (b % 6)) 1 0
theorem x_layMeetings {K : qM → Prop} {n C : Int} {P : Int → Int → Int → Int} (hst : St sh pt) (hn : h 19 11 = n) (n0 : 0 ≤ n) (n1 : n ≤ 6) (C0 : 1 ≤ C) (C1 : C ≤ 40) (hP : ∀ m s, 0 ≤ m → m < n → 0 ≤ s → s < n → ∀ j, 0 ≤ j → j ≤ C → h 26 ((m * 6 + s) * 41 + j) = P m s j)
    (k : ∀ h1, Fr (fun a _ => a = 27) h h1 → (∀ a b, 0 ≤ a → a < n * 6 → 0 ≤ b → b < a → h1 27 (a * 36 + b) = mtI P C n a b) → K h1) : RunV X (d + 1) mX3_layMeetings [(2, 19), (0, C)] sh pt h K := by
  refine b_X3_layMeetings hst ?_
  refine lp (σ := qM) (J := fun a h1 => Fr (fun a _ => a = 27) h h1 ∧ ∀ a' b, 0 ≤ a' → a' < a → 0 ≤ b → b < a' → h1 27 (a' * 36 + b) = mtI P C n a' b) (C := fun a h1 => EvV X (d + 1) mX3_layMeetings 2 [(2, 19), (0, C), (0, a), (8, -1), (8, -1)] [] sh pt h1 K) (n := n * 6) (by omega) ?_ ?_ h ⟨Fr.rf, fun t s a b => absurd a (by omega)⟩
  · intro a h1 a0 a1 ⟨fr, j1⟩ kk
    have en : h1 19 11 = n := by rw [fr _ _ (by omega)]; exact hn
    refine b_X3_layMeetings_2 hst ⟨⟨by omega, by omega⟩, fun q => absurd q (by omega), fun _ => ?_⟩
    refine lp (σ := qM) (J := fun b h1 => Fr (fun a _ => a = 27) h h1 ∧ (∀ a' b, 0 ≤ a' → a' < a → 0 ≤ b → b < a' → h1 27 (a' * 36 + b) = mtI P C n a' b) ∧ ∀ b', 0 ≤ b' → b' < b → h1 27 (a * 36 + b') = mtI P C n a b') (C := fun b h1 => EvV X (d + 1) mX3_layMeetings 15 [(2, 19), (0, C), (0, a), (0, b), (8, -1)] [] sh pt h1 K) (n := a) a0 ?_ ?_ h1 ⟨fr, j1, fun t a b => absurd a (by omega)⟩
    · intro b h2 b0 b1 ⟨fr2, i1, i2⟩ kk2
      have en : h2 19 11 = n := by rw [fr2 _ _ (by omega)]; exact hn
      have put : ∀ v h3, v = mtI P C n a b → h3 = qup h2 27 (a * 36 + b) v → EvV X (d + 1) mX3_layMeetings 15 [(2, 19), (0, C), (0, a), (0, b + 1), (8, -1)] [] sh pt h3 K := fun v h3 ev e3 => by
        refine kk2 h3 ⟨by rw [e3]; exact fr2.up rfl, fun a' b' q1 q2 q3 q4 => ?_, fun b' q1 q2 => ?_⟩
        · rw [e3, qup_of (by omega)]
          exact i1 a' b' q1 q2 q3 q4
        · by_cases e : b' = b
          · rw [e3, e, qup_at]; exact ev
          · rw [e3, qup_of (by omega)]; exact i2 b' q1 (by omega)
      have zero : ∀ u : Int, u = 0 → mtI P C n a b = 0 → EvV X (d + 1) mX3_layMeetings 58 [(2, 19), (0, C), (0, a), (0, b), (8, -1)] [(0, u)] sh pt h2 K := fun u eu ez => b_X3_layMeetings_58 hst ⟨⟨by omega, by omega⟩, ⟨by omega, by omega⟩, fun _ => ⟨by omega, fun h3 e3 => ⟨⟨by omega, by omega⟩, put 0 h3 ez.symm e3⟩⟩, fun q => absurd eu q⟩
      refine b_X3_layMeetings_15 hst ⟨fun q => absurd q (by omega), fun _ => ⟨a0, fun q => zero 0 rfl (cif_f (fun z => by have := z.1; omega)), fun q => ⟨b0, fun q2 => zero 0 rfl (cif_f (fun z => by have := z.2.1; omega)), fun q2 => ⟨a0, b0, fun q3 => zero 0 rfl (cif_f (fun z => z.2.2.1 q3)), fun q3 => ?_⟩⟩⟩⟩
      refine b_X3_layMeetings_58 hst ⟨⟨by omega, by omega⟩, ⟨by omega, by omega⟩, fun q => absurd q (by decide), fun _ => ⟨a0, b0, fun q4 => ⟨by omega, fun h3 e3 => ⟨⟨by omega, by omega⟩, put 0 h3 (cif_f (fun z => z.2.2.2.1 q4)).symm e3⟩⟩, fun q4 => ?_⟩⟩
      have ea : a = a / 6 * 6 + a % 6 := by omega
      have eb : b = b / 6 * 6 + b % 6 := by omega
      have z := x_pmeet (X := X) (d := d) (sh := sh) (pt := pt) (h := h2) (P := P) (C := C) (m := a / 6) (s := a % 6) (n := b / 6) (t := b % 6) (K := fun r6 h5 => (r6 = 0 → (0 ≤ a * 36 + b ∧ a * 36 + b < 1296) ∧ ∀ h8 : qM, h8 = qup h5 27 (a * 36 + b) 0 → qI (b + 1) ∧ EvV X (d + 1) mX3_layMeetings 15 [(2, 19), (0, C), (0, a), (0, b + 1), (8, -1)] [] sh pt h8 K) ∧ (¬ r6 = 0 → (0 ≤ a * 36 + b ∧ a * 36 + b < 1296) ∧ ∀ h10 : qM, h10 = qup h5 27 (a * 36 + b) 1 → qI (b + 1) ∧ EvV X (d + 1) mX3_layMeetings 15 [(2, 19), (0, C), (0, a), (0, b + 1), (8, -1)] [] sh pt h10 K)) hst C0 C1 (by omega) (by omega) (by omega) (by omega) (by omega) (by omega) (by omega) (by omega) (fun j q1 q2 => by rw [fr2 _ _ (by omega)]; exact hP _ _ (by omega) (by omega) (by omega) (by omega) j q1 q2) (fun j q1 q2 => by rw [fr2 _ _ (by omega)]; exact hP _ _ (by omega) (by omega) (by omega) (by omega) j q1 q2) (fun m1 => ⟨fun y => absurd y (by decide), fun _ => ⟨by omega, fun h3 e3 => ⟨⟨by omega, by omega⟩, put 1 h3 (cif_t ⟨by omega, by omega, q3, q4, m1⟩).symm e3⟩⟩⟩) (fun m0 => ⟨fun _ => ⟨by omega, fun h3 e3 => ⟨⟨by omega, by omega⟩, put 0 h3 (cif_f (fun z => m0 z.2.2.2.2)).symm e3⟩⟩, fun y => absurd rfl y⟩)
      rw [← ea, ← eb] at z
      exact z
    · intro h2 ⟨fr2, i1, i2⟩
      refine b_X3_layMeetings_15 hst ⟨fun _ => ⟨⟨by omega, by omega⟩, kk h2 ⟨fr2, fun a' b q1 q2 q3 q4 => ?_⟩⟩, fun q => absurd q (by omega)⟩
      by_cases e : a' = a
      · rw [e] at q4 ⊢; exact i2 b q3 q4
      · exact i1 a' b q1 (by omega) q3 q4
  · intro h1 ⟨fr, j1⟩
    have en : h1 19 11 = n := by rw [fr _ _ (by omega)]; exact hn
    exact b_X3_layMeetings_2 hst ⟨⟨by omega, by omega⟩, fun _ => k h1 fr j1, fun q => absurd q (by omega)⟩
end
