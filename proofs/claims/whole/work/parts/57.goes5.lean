/-! GOES: both faces -/
noncomputable def goesF (tm M v1 v2 v3 : Int) (bE bN sE sN : Int → Int) : Int × Int := if ¬ (0 ≤ v1 ∧ v1 < 4) then (-1, 1) else if tm < 0 then (-1, 3) else if ¬ (1 ≤ v2 ∧ v2 ≤ 6 ∧ v2 ≤ M ∧ 1 ≤ v3 ∧ v3 ≤ 40) then (-1, 5) else if tm < 2 * v2 then (-1, 4) else cif (¬ spOk sE sN v2) (-1, 5) (if (bestC v2 v3 bE bN sE sN).1 < 0 then (-1, 8) else ((bestC v2 v3 bE bN sE sN).1, 0))
section
variable {X : qX} {d : Nat} {sh : qS} {pt h : qM} {tm M v1 v2 v3 : Int} {bE bN sE sN : Int → Int}
def PXg (a _ : Int) : Prop := a = 19 ∨ a = 20 ∨ a = 21 ∨ a = 22 ∨ a = 23 ∨ a = 24 ∨ a = 25 ∨ a = 26 ∨ a = 27
theorem gfSp (a1 : 0 ≤ v1 ∧ v1 < 4) (a2 : 0 ≤ tm) (a3 : 1 ≤ v2 ∧ v2 ≤ 6 ∧ v2 ≤ M ∧ 1 ≤ v3 ∧ v3 ≤ 40) (a4 : 2 * v2 ≤ tm) : goesF tm M v1 v2 v3 bE bN sE sN = cif (¬ spOk sE sN v2) (-1, 5) (if (bestC v2 v3 bE bN sE sN).1 < 0 then (-1, 8) else ((bestC v2 v3 bE bN sE sN).1, 0)) := by
  rw [goesF, if_neg (by omega), if_neg (by omega), if_neg (by omega), if_neg (by omega)]
theorem sp_bg {n : Int} (hb : ∀ m, 0 ≤ m → m < n → 0 ≤ bE m ∧ bE m < 60 ∧ 0 ≤ bN m ∧ bN m < 40) (sp : spOk sE sN n) : bgOk bE bN sE sN n := ⟨hb, fun s a b => ⟨(sp s a b).1, (sp s a b).2.1, (sp s a b).2.2.1, (sp s a b).2.2.2.1⟩⟩
theorem x_goes {K : Int → qM → Prop} (hst : St sh pt) (ht : 0 ≤ v1 → v1 < 4 → (h (70 + 2 * v1) 1 = 0 ∧ tm = -1) ∨ (h (70 + 2 * v1) 1 = 1 ∧ h (70 + 2 * v1) 3 = tm ∧ 0 ≤ tm ∧ tm ≤ 40)) (hM : h 2 3 = M) (hb : ∀ m, 0 ≤ m → m < M → h 3 m = bE m ∧ h 4 m = bN m ∧ 0 ≤ bE m ∧ bE m < 60 ∧ 0 ≤ bN m ∧ bN m < 40) (hx : 0 ≤ v1 → v1 < 4 → ∀ s, 0 ≤ s → 2 * s + 1 < tm → h (71 + 2 * v1) (2 * s) = sE s ∧ h (71 + 2 * v1) (2 * s + 1) = sN s)
    (k : ∀ r s, (r, s) = goesF tm M v1 v2 v3 bE bN sE sN → ∀ h1, Fr PXg h h1 → (s = 0 → h1 19 0 = v2 ∧ h1 19 2 = (bestC v2 v3 bE bN sE sN).2.1 ∧ ∀ j, 0 ≤ j → j < v2 → h1 20 j = (bestC v2 v3 bE bN sE sN).2.2 j) → (s ≠ 0 → h1 19 0 = h 19 0 ∧ h1 19 2 = h 19 2 ∧ ∀ j, h1 20 j = h 20 j) → K r (qup h1 0 12 s)) : RunI X (d + 11) mX10_goes [(2, 0), (0, v1), (0, v2), (0, v3)] sh pt h K := by
  have ref : ∀ s, (-1, s) = goesF tm M v1 v2 v3 bE bN sE sN → s ≠ 0 → RunI X (d + 10) mX10_none [(2, 0), (0, s)] sh pt h K := fun s e ne => b_X10_none hst (fun h1 e1 => by rw [e1]; exact k _ _ e h Fr.rf (fun z => absurd z ne) (fun _ => ⟨rfl, rfl, fun _ => rfl⟩))
  have e71 : 70 + 2 * v1 + 1 = 71 + 2 * v1 := by omega
  refine b_X10_goes (d := d + 10) hst (b_X10_isTray hst ⟨fun a => ⟨fun z => absurd rfl z, fun _ => ref 1 (by rw [goesF, if_pos (by omega)]) (by decide)⟩, fun a => ⟨fun a2 => ⟨fun z => absurd rfl z, fun _ => ref 1 (by rw [goesF, if_pos (by omega)]) (by decide)⟩, fun a2 => ⟨fun _ => ⟨⟨a, by omega⟩, ?_⟩, fun z => absurd z (by decide)⟩⟩⟩)
  have hw := isW_of (i := v1) a (by omega)
  rcases ht a (by omega) with ⟨l0, t0⟩ | ⟨l1, t1, t2, t3⟩
  · exact ⟨fun z => absurd l0 z, fun _ => ref 3 (by rw [goesF, if_neg (by omega), if_pos (by omega)]) (by decide)⟩
  · have bad : ¬ (1 ≤ v2 ∧ v2 ≤ 6 ∧ v2 ≤ M ∧ 1 ≤ v3 ∧ v3 ≤ 40) → RunI X (d + 10) mX10_none [(2, 0), (0, 5)] sh pt h K := fun z => ref 5 (by rw [goesF, if_neg (by omega), if_neg (by omega), if_pos z]) (by decide)
    refine ⟨fun _ => ⟨fun c1 => bad (by omega), fun c1 => ⟨fun c2 => bad (by omega), fun c2 => ⟨fun c3 => bad (by omega), fun c3 => ⟨fun c4 => bad (by omega), fun c4 => ⟨fun c5 => ⟨⟨by omega, by omega⟩, b_X8_hasRange hst hw ⟨fun z => absurd z (by decide), fun _ => ⟨⟨by omega, by omega⟩, fun c6 => ⟨fun z => absurd rfl z, fun _ => ref 4 (by rw [goesF, if_neg (by omega), if_neg (by omega), if_neg (by omega), if_pos (by omega)]) (by decide)⟩, fun c6 => ⟨fun _ => ?_, fun z => absurd z (by decide)⟩⟩⟩⟩, fun c5 => bad (by omega)⟩⟩⟩⟩⟩, fun z => absurd z (by omega)⟩
    have gf := gfSp (tm := tm) (M := M) (v1 := v1) (v2 := v2) (v3 := v3) (bE := bE) (bN := bN) (sE := sE) (sN := sN) ⟨a, by omega⟩ t2 (by omega) (by omega)
    rw [gf] at k
    refine x_takeSpots hst hw (x := sE) (y := sN) (by omega) c2 (fun s s0 s1 => by rw [e71]; exact hx a (by omega) s s0 (by omega)) (fun sp h1 f1 g1 => ⟨fun _ => ?_, fun z => absurd z (by decide)⟩) (fun sp h1 f1 => ⟨fun z => absurd rfl z, fun _ => b_X10_none hst (fun h2 e2 => ?_)⟩)
    · have bg : bgOk bE bN sE sN v2 := sp_bg (fun m m0 m1 => (hb m m0 (by omega)).2.2) sp
      rw [cif_f (fun z => z sp)] at k
      have bo := bestC_ok (C := v3) (n := v2) (by omega) bg
      refine x_search (d := d) hst (by omega) c2 c4 c5 bg (fun m m0 m1 => by rw [f1 _ _ (by omega), f1 _ _ (by omega)]; have := hb m m0 (by omega); exact ⟨this.1, this.2.1⟩) g1 (fun b0 h2 f2 => ⟨fun z => absurd rfl z, fun _ => b_X10_none hst (fun h3 e3 => ?_)⟩) (fun b0 h2 f2 g2 g3 g4 g5 => ⟨fun _ => b_X10_answer hst (fun h3 e3 => ?_), fun z => absurd z (by decide)⟩)
      · rw [e3]
        refine k _ _ (by rw [if_pos b0]) h2 (fun x i q => ?_) (fun z => absurd z (by decide)) (fun _ => ⟨?_, ?_, fun j => ?_⟩)
        · unfold PXg at q
          rw [f2 _ _ (by unfold PG0; omega), f1 _ _ (by omega)]
        · rw [f2 _ _ (by unfold PG0; omega), f1 _ _ (by omega)]
        · rw [f2 _ _ (by unfold PG0; omega), f1 _ _ (by omega)]
        · rw [f2 _ _ (by unfold PG0; omega), f1 _ _ (by omega)]
      · rw [e3, g3]
        refine k _ _ (by rw [if_neg (by omega)]) h2 (fun x i q => ?_) (fun _ => ⟨g2, g4, g5⟩) (fun z => absurd rfl z)
        unfold PXg at q
        rw [f2 _ _ (by unfold PGo; omega), f1 _ _ (by omega)]
    · rw [cif_t sp] at k
      rw [e2]
      refine k _ _ rfl h1 (fun x i q => ?_) (fun z => absurd z (by decide)) (fun _ => ⟨f1 _ _ (by omega), f1 _ _ (by omega), fun j => f1 _ _ (by omega)⟩)
      unfold PXg at q
      exact f1 _ _ (by omega)
def PMg (a i : Int) : Prop := a = 115 ∨ a = 116 ∨ a = 117 ∨ a = 118 ∨ a = 119 ∨ (a = 78 ∧ (i = 76 ∨ i = 77 ∨ i = 78 ∨ i = 79))
theorem ms_fr {h1 : qM} {P : Int → Int → Prop} {s : Int} (f : Fr P (ms h 0) h1) : Fr P (ms h s) (qup h1 78 0 s) := fun x i q => by
  by_cases e : x = 78 ∧ i = 0
  · rw [e.1, e.2, qup_at]
    exact (qup_at).symm
  · rw [qup_of e, f x i q]
    unfold ms
    rw [qup_of e, qup_of e]
theorem m_goes {K : Int → qM → Prop} (hst : St sh pt) (ht : 0 ≤ v1 → v1 < 4 → h 80 v1 = tm ∧ tm ≤ 40 ∧ -1 ≤ tm) (hM : h 78 7 = M) (M1 : M ≤ 20) (hb : ∀ m, 0 ≤ m → m < M → h 82 m = bE m ∧ h 83 m = bN m ∧ 0 ≤ bE m ∧ bE m < 60 ∧ 0 ≤ bN m ∧ bN m < 40) (hx : 0 ≤ v1 → v1 < 4 → ∀ s, 0 ≤ s → 2 * s + 1 < tm → h 81 (40 * v1 + 2 * s) = sE s ∧ h 81 (40 * v1 + 2 * s + 1) = sN s)
    (k : ∀ r s, (r, s) = goesF tm M v1 v2 v3 bE bN sE sN → ∀ h1, Fr PMg (ms h s) h1 → (s = 0 → h1 78 76 = v2 ∧ h1 78 77 = (bestC v2 v3 bE bN sE sN).2.1 ∧ ∀ j, 0 ≤ j → j < v2 → h1 119 j = (bestC v2 v3 bE bN sE sN).2.2 j) → (s ≠ 0 → h1 78 76 = h 78 76 ∧ h1 78 77 = h 78 77 ∧ ∀ j, h1 119 j = h 119 j) → K r h1) : RunI X (d + 12) mX11_goes_ [(2, 78), (0, v1), (0, v2), (0, v3)] sh pt h K := by
  have un : ∀ s, ms h s 78 76 = h 78 76 ∧ ms h s 78 77 = h 78 77 ∧ ∀ j, ms h s 119 j = h 119 j := fun s => ⟨ms_of2 (by decide), ms_of2 (by decide), fun j => ms_of (by decide)⟩
  have st : ∀ s, (-1, s) = goesF tm M v1 v2 v3 bE bN sE sN → s ≠ 0 → K (-1) (ms h s) := fun s e ne => k _ _ e _ Fr.rf (fun z => absurd z ne) (fun _ => un s)
  have ref : ∀ s, (-1, s) = goesF tm M v1 v2 v3 bE bN sE sN → s ≠ 0 → RunI X (d + 11) mX11_refuse [(2, 78), (0, s)] sh pt (ms h 0) K := fun s e ne => m_refuse hst (st s e ne)
  have eqm : ∀ s, qup (qup h 78 1 0) 78 0 s = ms h s := fun s => rfl
  refine b_X11_goes_ (d := d + 11) hst (fun h1 e1 => b_X11_trayed hst ?_)
  have e80 : h1 80 v1 = h 80 v1 := by rw [e1, qup_of (by omega)]
  subst e1
  rw [e80]
  refine ⟨fun a h4 e4 => ?_, fun a => ⟨fun a2 => ⟨⟨by omega, by omega⟩, fun a3 h4 e4 => ?_, fun a3 h4 e4 => ?_⟩, fun a2 h4 e4 => ?_⟩⟩
  · rw [e4, qup_at]
    exact ⟨fun z => absurd z (by decide), fun _ => st 1 (by rw [goesF, if_pos (by omega)]) (by decide)⟩
  · have tt := ht a (by omega)
    rw [e4, qup_at]
    rw [eqm]
    have b0 : ∀ i, 1 < i → ms h 0 78 i = h 78 i := fun i q => ms_of2 q
    have bad : ¬ (1 ≤ v2 ∧ v2 ≤ 6 ∧ v2 ≤ M ∧ 1 ≤ v3 ∧ v3 ≤ 40) → RunI X (d + 11) mX11_refuse [(2, 78), (0, 5)] sh pt (ms h 0) K := fun z => ref 5 (by rw [goesF, if_neg (by omega), if_neg (by omega), if_pos z]) (by decide)
    refine ⟨fun _ => b_X11_isIn hst ⟨fun c1 => ⟨fun _ => bad (by omega), fun z => absurd rfl z⟩, fun c1 => ⟨fun c2 => ⟨fun _ => bad (by omega), fun z => absurd rfl z⟩, fun c2 => ⟨fun z => absurd z (by decide), fun _ => ?_⟩⟩⟩, fun z => absurd z (by decide)⟩
    rw [b0 _ (by decide), hM]
    refine ⟨fun c3 => bad (by omega), fun c3 => b_X11_isIn hst ⟨fun c4 => ⟨fun z => absurd rfl z, fun _ => bad (by omega)⟩, fun c4 => ⟨fun c5 => ⟨fun z => absurd rfl z, fun _ => bad (by omega)⟩, fun c5 => ⟨fun _ => ⟨⟨a, by omega⟩, ⟨by omega, by omega⟩, ?_⟩, fun z => absurd z (by decide)⟩⟩⟩⟩
    rw [ms_of (by decide), tt.1]
    refine ⟨fun c6 => ?_, fun c6 => ref 4 (by rw [goesF, if_neg (by omega), if_neg (by omega), if_neg (by omega), if_pos (by omega)]) (by decide)⟩
    have gf := gfSp (tm := tm) (M := M) (v1 := v1) (v2 := v2) (v3 := v3) (bE := bE) (bN := bN) (sE := sE) (sN := sN) ⟨a, by omega⟩ (by omega) (by omega) (by omega)
    rw [gf] at k
    refine lp (σ := qM) (J := fun s h1 => Fr (fun a _ => a = 115 ∨ a = 116) (ms h 0) h1 ∧ (∀ t, 0 ≤ t → t < s → h1 115 t = sE t ∧ h1 116 t = sN t) ∧ ∀ t, 0 ≤ t → t < s → gdS sE sN t) (C := fun s h1 => EvI X (d + 12) mX11_goes_ 82 [(2, 78), (0, v1), (0, v2), (0, v3), (0, s), (8, -1), (8, -1), (8, -1), (8, -1), (8, -1)] [] sh pt h1 K) (n := v2) (by omega) ?_ ?_ (ms h 0) ⟨Fr.rf, fun t a b => absurd a (by omega), fun t a b => absurd a (by omega)⟩
    · intro s h1 s0 s1 ⟨f1, j1, j2⟩ kk
      have xs := hx a (by omega) s s0 (by omega)
      have e1 : h1 81 (40 * v1 + 2 * s) = sE s := by rw [f1 _ _ (by omega), ms_of (by decide)]; exact xs.1
      have e2 : h1 81 (40 * v1 + 2 * s + 1) = sN s := by rw [f1 _ _ (by omega), ms_of (by decide)]; exact xs.2
      have bad : ∀ h5 : qM, ¬ gdS sE sN s → Fr (fun a _ => a = 115 ∨ a = 116) (ms h 0) h5 → RunI X (d + 11) mX11_refuse [(2, 78), (0, 5)] sh pt h5 K := fun h5 q f5 => by
        refine b_X11_refuse hst (fun h6 e6 => ?_)
        rw [cif_t (fun z => q (z s s0 s1))] at k
        rw [e6]
        refine k _ _ rfl _ (ms_fr (f5.wk (fun x i q => by unfold PMg; omega))) (fun z => absurd z (by decide)) (fun _ => ⟨?_, ?_, fun j => ?_⟩)
        · rw [qup_of (by omega), f5 _ _ (by omega), ms_of2 (by decide)]
        · rw [qup_of (by omega), f5 _ _ (by omega), ms_of2 (by decide)]
        · rw [qup_of (by omega), f5 _ _ (by omega), ms_of (by decide)]
      refine b_X11_goes__82 hst ⟨fun q => absurd q (by omega), fun _ => ⟨⟨by omega, by omega⟩, ⟨by omega, by omega⟩, ⟨by omega, by omega⟩, ⟨by omega, by omega⟩, fun x ex => ⟨⟨by omega, by omega⟩, ⟨by omega, by omega⟩, ⟨by omega, by omega⟩, ⟨by omega, by omega⟩, ⟨by omega, by omega⟩, fun y ey => ?_⟩⟩⟩
      rw [e1] at ex
      rw [e2] at ey
      subst ex
      subst ey
      refine b_X11_isIn hst ⟨fun c7 => ⟨fun _ => bad h1 (fun z => by have := z.1; omega) f1, fun z => absurd rfl z⟩, fun c7 => ⟨fun c8 => ⟨fun _ => bad h1 (fun z => by have := z.2.1; omega) f1, fun z => absurd rfl z⟩, fun c8 => ⟨fun z => absurd z (by decide), fun _ => b_X11_isIn hst ⟨fun c9 => ⟨fun z => absurd rfl z, fun _ => bad h1 (fun z => by have := z.2.2.1; omega) f1⟩, fun c9 => ⟨fun c10 => ⟨fun z => absurd rfl z, fun _ => bad h1 (fun z => by have := z.2.2.2.1; omega) f1⟩, fun c10 => ⟨fun _ => ⟨by omega, fun h2 g2 => ⟨by omega, fun h3 g3 => ?_⟩⟩, fun z => absurd z (by decide)⟩⟩⟩⟩⟩⟩
      rw [ql2i_id ⟨by omega, by omega⟩] at g2 g3
      have f3 : Fr (fun a _ => a = 115 ∨ a = 116) (ms h 0) h3 := by rw [g3, g2]; exact (f1.up (Or.inl rfl)).up (Or.inr rfl)
      have j3 : ∀ t, 0 ≤ t → t < s + 1 → h3 115 t = sE t ∧ h3 116 t = sN t := fun t t0 t1 => by
        rw [g3, g2]
        by_cases e : t = s
        · rw [e, qup_of (by omega), qup_at, qup_at]; exact ⟨rfl, rfl⟩
        · rw [qup_of (by omega), qup_of (by omega), qup_of (by omega), qup_of (by omega)]; exact j1 t t0 (by omega)
      refine lp (σ := Unit) (J := fun t _ => ∀ t', 0 ≤ t' → t' < t → ¬ (sE t' = sE s ∧ sN t' = sN s)) (C := fun t _ => EvI X (d + 12) mX11_goes_ 175 [(2, 78), (0, v1), (0, v2), (0, v3), (0, s), (1, sE s), (8, -1), (1, sN s), (8, -1), (0, t)] [] sh pt h3 K) s0 ?_ ?_ () (fun t a b => absurd a (by omega))
      · intro t _ t0 t1 jj kk2
        have u1 := j3 t t0 (by omega)
        refine b_X11_goes__175 hst ⟨fun q => absurd q (by omega), fun _ => ⟨by omega, ?_⟩⟩
        rw [u1.1, u1.2]
        refine ⟨fun q => ⟨⟨by omega, by omega⟩, kk2 () (fun t' a b => ?_)⟩, fun q => ⟨by omega, fun q2 => ⟨⟨by omega, by omega⟩, kk2 () (fun t' a b => ?_)⟩, fun q2 => bad h3 (fun z => z.2.2.2.2 t t0 t1 ⟨q, q2⟩) f3⟩⟩
        · by_cases e : t' = t
          · rw [e]; exact fun z => q z.1
          · exact jj t' a (by omega)
        · by_cases e : t' = t
          · rw [e]; exact fun z => q2 z.2
          · exact jj t' a (by omega)
      · intro _ jj
        refine b_X11_goes__175 hst ⟨fun _ => ⟨⟨by omega, by omega⟩, kk h3 ⟨f3, j3, fun t t0 t1 => ?_⟩⟩, fun q => absurd q (by omega)⟩
        by_cases e : t = s
        · rw [e]; exact ⟨c7, by omega, c9, by omega, jj⟩
        · exact j2 t t0 (by omega)
    · intro h1 ⟨f1, j1, j2⟩
      have bg : bgOk bE bN sE sN v2 := sp_bg (fun m m0 m1 => (hb m m0 (by omega)).2.2) j2
      rw [cif_f (fun z => z j2)] at k
      have bo := bestC_ok (C := v3) (n := v2) (by omega) bg
      refine b_X11_goes__82 hst ⟨fun _ h2 e2 => ?_, fun q => absurd q (by omega)⟩
      have mp : MP h2 v2 bE bN sE sN := by
        refine ⟨fun m m0 m1 => ?_, fun s a b => ?_⟩
        · rw [e2, qup_of (by omega), qup_of (by omega), f1 _ _ (by omega), f1 _ _ (by omega), ms_of (by decide), ms_of (by decide)]
          have := hb m m0 (by omega)
          exact ⟨this.1, this.2.1⟩
        · rw [e2, qup_of (by omega), qup_of (by omega)]
          exact j1 s a b
      have zz := m_tries (X := X) (d := d + 7 - v2.toNat) (K := fun _ => True) (sh := sh) (pt := pt) (C := v3) hst mp bg (by omega) (by omega) c4 c5 v2.toNat 0 0 0 0 (fun _ => 0) (-1, 0, fun _ => 0) h2 (by decide) (by omega) (by decide) (by decide) (by decide) (by decide) (by decide) (by decide) ⟨Fr.rf, by rw [e2, qup_at], fun q => absurd q (by decide), by decide⟩ (fun j a b => absurd a (by omega))
      rw [show d + 7 - v2.toNat + 4 + v2.toNat = d + 11 by omega, gd_eq v2.toNat 0 0 0 0 _ _ (by decide) (by omega) (fun i j a b c => absurd a (by omega))] at zz
      have eb : gd v2 (wy bE bN sE sN) (cfr (ps2 bE bN sE sN v3) v3) (fun _ => True) v2.toNat 0 0 0 0 (fun _ => 0) (-1, 0, fun _ => 0) = bestC v2 v3 bE bN sE sN := rfl
      rw [eb] at zz
      refine zz _ (fun h6 c6 r6 => ?_)
      obtain ⟨f6, g6, g7, g8⟩ := c6
      have f62 : Fr PMg (ms h 0) h6 := fun x i q => by
        unfold PMg at q
        rw [f6 _ _ (by unfold PMt; omega), e2, qup_of (by omega), f1 _ _ (by omega)]
      have u6 : h6 78 76 = h 78 76 ∧ h6 78 77 = h 78 77 ∧ ∀ j, h6 119 j = h 119 j := by
        refine ⟨?_, ?_, fun j => ?_⟩
        · rw [f6 _ _ (by unfold PMt; omega), e2, qup_of (by omega), f1 _ _ (by omega), ms_of2 (by decide)]
        · rw [f6 _ _ (by unfold PMt; omega), e2, qup_of (by omega), f1 _ _ (by omega), ms_of2 (by decide)]
        · rw [f6 _ _ (by unfold PMt; omega), e2, qup_of (by omega), f1 _ _ (by omega), ms_of (by decide)]
      rw [g6]
      refine ⟨fun q h7 e7 h8 e8 => ?_, fun q => b_X11_refuse hst (fun h7 e7 => ?_)⟩
      · have e71 : h7 78 79 = (bestC v2 v3 bE bN sE sN).2.1 := by rw [e7, qup_of (by omega)]; exact (g7 q).1
        refine lp (σ := qM) (J := fun i h4 => Fr PMg (ms h 0) h4 ∧ h4 78 76 = v2 ∧ h4 78 77 = (bestC v2 v3 bE bN sE sN).2.1 ∧ h4 78 78 = (bestC v2 v3 bE bN sE sN).1 ∧ (∀ j, 0 ≤ j → j < v2 → h4 118 j = (bestC v2 v3 bE bN sE sN).2.2 j) ∧ ∀ j, 0 ≤ j → j < i → h4 119 j = (bestC v2 v3 bE bN sE sN).2.2 j) (C := fun i h4 => EvI X (d + 12) mX11_goes_ 273 [(2, 78), (8, -1), (0, v2), (8, -1), (0, i), (8, -1), (8, -1), (8, -1), (8, -1), (8, -1)] [] sh pt h4 K) (n := v2) (by omega) ?_ ?_ h8 ?_
        · intro i h4 i0 i1 ⟨l1, l2, l3, l4, l5, l6⟩ kk
          refine b_X11_goes__273 hst ⟨fun z => absurd z (by omega), fun _ => ⟨by omega, by omega, fun h5 e5 => ⟨⟨by omega, by omega⟩, kk h5 ⟨by rw [e5]; exact l1.up (by unfold PMg; omega), by rw [e5, qup_of (by omega)]; exact l2, by rw [e5, qup_of (by omega)]; exact l3, by rw [e5, qup_of (by omega)]; exact l4, fun j a b => by rw [e5, qup_of (by omega)]; exact l5 j a b, fun j a b => ?_⟩⟩⟩⟩
          by_cases e : j = i
          · rw [e, e5, qup_at]; exact l5 i i0 i1
          · rw [e5, qup_of (by omega)]; exact l6 j a (by omega)
        · intro h4 ⟨l1, l2, l3, l4, l5, l6⟩
          refine b_X11_goes__273 hst ⟨fun _ => ?_, fun z => absurd z (by omega)⟩
          rw [l4]
          exact k _ _ (by rw [if_neg (by omega)]) h4 l1 (fun _ => ⟨l2, l3, l6⟩) (fun z => absurd rfl z)
        · refine ⟨by rw [e8, e7]; exact (f62.up (by unfold PMg; omega)).up (by unfold PMg; omega), by rw [e8, e7, qup_of (by omega), qup_at], by rw [e8, qup_at, e71], by rw [e8, e7, qup_of (by omega), qup_of (by omega)]; exact g6, fun j a b => ?_, fun j a b => absurd a (by omega)⟩
          rw [e8, e7, qup_of (by omega), qup_of (by omega)]
          exact (g7 q).2 j a b
      · rw [e7]
        refine k _ _ (by rw [if_pos q]) _ (ms_fr f62) (fun z => absurd z (by decide)) (fun _ => ⟨?_, ?_, fun j => ?_⟩)
        · rw [qup_of (by omega)]; exact u6.1
        · rw [qup_of (by omega)]; exact u6.2.1
        · rw [qup_of (by omega)]; exact u6.2.2 j
  · have tt := ht a (by omega)
    rw [e4, qup_at]
    exact ⟨fun z => absurd z (by decide), fun _ => st 3 (by rw [goesF, if_neg (by omega), if_pos (by omega)]) (by decide)⟩
  · rw [e4, qup_at]
    exact ⟨fun z => absurd z (by decide), fun _ => st 1 (by rw [goesF, if_pos (by omega)]) (by decide)⟩
def spotF (pl su : Int) (f : Int → Int) (v : Int) : Int × Int := if pl = 0 ∨ v < -1 ∨ pl ≤ v then (-1, 8) else if v = -1 then (su, 0) else (f v, 0)
theorem x_spotOf {K : Int → qM → Prop} {v pl su : Int} {f : Int → Int} (hst : St sh pt) (h0 : h 19 0 = pl) (p0 : 0 ≤ pl ∧ pl ≤ 6) (h1 : 0 < pl → h 19 2 = su ∧ ∀ j, 0 ≤ j → j < pl → h 20 j = f j) (k : ∀ r s, (r, s) = spotF pl su f v → K r (qup h 0 12 s)) : RunI X (d + 1) mX10_spotOf [(2, 0), (0, v)] sh pt h K := by
  unfold spotF at k
  refine b_X10_spotOf hst ⟨fun a => b_X10_none hst (fun h2 e2 => by rw [e2]; exact k _ _ (by rw [if_pos (by omega)])), fun a => ⟨fun b => b_X10_none hst (fun h2 e2 => by rw [e2]; exact k _ _ (by rw [if_pos (by omega)])), fun b => ⟨fun c => ⟨fun e => ⟨by omega, b_X10_answer hst (fun h2 e2 => ?_)⟩, fun e => b_X10_answer hst (fun h2 e2 => ?_)⟩, fun c => b_X10_none hst (fun h2 e2 => by rw [e2]; exact k _ _ (by rw [if_pos (by omega)]))⟩⟩⟩
  · rw [e2, (h1 (by omega)).2 v (by omega) (by omega)]
    exact k _ _ (by rw [if_neg (by omega), if_neg e])
  · rw [e2, (h1 (by omega)).1]
    exact k _ _ (by rw [if_neg (by omega), if_pos e])
theorem m_spotOf {K : Int → qM → Prop} {v pl su : Int} {f : Int → Int} (hst : St sh pt) (h0 : h 78 76 = pl) (p0 : 0 ≤ pl ∧ pl ≤ 6) (h1 : 0 < pl → h 78 77 = su ∧ ∀ j, 0 ≤ j → j < pl → h 119 j = f j) (k : ∀ r s, (r, s) = spotF pl su f v → K r (ms h s)) : RunI X (d + 1) mX11_spotOf [(2, 78), (0, v)] sh pt h K := by
  unfold spotF at k
  refine b_X11_spotOf hst (fun h2 e2 h3 e3 => ?_)
  have e4 : h3 = ms h 0 := by rw [e3, e2]; rfl
  subst e4
  rw [show ms h 0 78 76 = pl by rw [ms_of2 (by decide)]; exact h0, show ms h 0 78 77 = h 78 77 from ms_of2 (by decide), show ms h 0 119 v = h 119 v from ms_of (by decide)]
  refine ⟨fun a => m_refuse hst (k _ _ (by rw [if_pos (by omega)])), fun a => ⟨fun b => ⟨fun c => absurd b c, fun _ => ?_⟩, fun b => ⟨⟨by omega, by omega⟩, b_X11_isIn hst ⟨fun c => ⟨fun z => absurd rfl z, fun _ => m_refuse hst (k _ _ (by rw [if_pos (by omega)]))⟩, fun c => ⟨fun e => ⟨fun z => absurd rfl z, fun _ => m_refuse hst (k _ _ (by rw [if_pos (by omega)]))⟩, fun e => ⟨fun _ => ⟨fun _ => ⟨by omega, ?_⟩, fun z => absurd z b⟩, fun z => absurd z (by decide)⟩⟩⟩⟩⟩⟩
  · rw [(h1 (by omega)).1]
    exact k _ _ (by rw [if_neg (by omega), if_pos b])
  · rw [show ms h 0 119 v = h 119 v from ms_of (by decide), (h1 (by omega)).2 v (by omega) (by omega)]
    exact k _ _ (by rw [if_neg (by omega), if_neg b])
end
