/-! path() of the class once more: its room told apart -/
def vlP (M m x y f : Int) : Prop := (0 ≤ m ∧ m < M) ∧ (0 ≤ x ∧ x < 60 ∧ 0 ≤ y ∧ y < 40) ∧ (f = -1 ∨ (0 ≤ f ∧ f < 8))
def QmR (sh : qS) (pt h : qM) (r : Option qV) (g : qG) : Prop := ∃ sh' pt' h', r = none ∧ g = (sh', pt', h') ∧ St sh' pt' ∧ Sw sh' pt' ∧ (∀ a i : Int, a < 136 → h' a i = h a i) ∧ (∀ a i : Int, a < 136 → ¬ (a = 28 ∧ (i = 1 ∨ i = 3 ∨ i = 4)) → pt' a i = pt a i) ∧ (Sw sh pt → h' = h)
section
variable {X : qX} {d : Nat} {sh : qS} {pt h : qM} {Q : Option qV → qG → Prop}
theorem x_pathG {mc ms : Nat} {p : Int → Int → Int} {bE bN bF : Int → Int} {M m x y f b0 : Int} (hst : St sh pt) (sp : ShP sh pt) (hM : h 2 3 = M) (M0 : 0 ≤ M) (M1 : M ≤ 20) (hb : ∀ k, 0 ≤ k → k < M → h 3 k = bE k ∧ h 4 k = bN k ∧ h 5 k = bF k ∧ (0 ≤ bE k ∧ bE k < 60 ∧ 0 ≤ bN k ∧ bN k < 40 ∧ 0 ≤ bF k ∧ bF k < 8)) (hp1 : ∀ n, 0 ≤ n → n < 40 → 0 ≤ h 6 n ∧ h 6 n ≤ 1152921504606846975) (hp : ∀ e n, 0 ≤ e → e < 60 → 0 ≤ n → n < 40 → (tb (h 6 n) e = true ↔ p e n ≠ 0)) (nf : 0 ≤ m → m < M → NT (fun w => ¬ flP (fre p bE bN M m) w) 1200 ≤ 49) (eb : b0 = 8 * (40 * bE m + bN m) + bF m) (hmk : vlP M m x y f → Run X (d + 3) mc ms mX9_makeRows [(2, 28)] (sh, pt, h) (QmR sh pt h))
    (k : ∀ r s, (r, s) = pathF (fre p bE bN M m) b0 M m x y f → ∀ sh' pt' h', St sh' pt' → ShP sh' pt' → (Sw sh pt → Sw sh' pt') → (vlP M m x y f → Sw sh' pt') → (∀ a i : Int, a < 136 → ¬ (a = 28 ∧ (i = 1 ∨ i = 3 ∨ i = 4)) → pt' a i = pt a i) → (∀ a i : Int, a < 136 → ¬ (a = 29 ∨ (a = 28 ∧ (i = 0 ∨ i = 5)) ∨ (a = 0 ∧ i = 12)) → h' a i = h a i) → h' 0 12 = s → (s = 0 → Sw sh' pt' ∧ h' 28 0 = r ∧ ∀ j, 0 ≤ j → j < r → h' 138 j = mvs (pth (fre p bE bN M m) b0 x y f).2 (pth (fre p bE bN M m) b0 x y f).1 j) → (s ≠ 0 → h' 28 0 = h 28 0 ∧ (Sw sh pt → ∀ j, h' 138 j = h 138 j)) → Q (some (0, r)) (sh', pt', h')) :
    Run X (d + 5) (0 + (0 + mc)) (0 + (0 + ms)) mX10_path [(2, 0), (0, m), (0, x), (0, y), (0, f)] (sh, pt, h) Q := by
  show Ev X (d + 5) _ _ mX10_path 0 [(2, 0), (0, m), (0, x), (0, y), (0, f)] [] (sh, pt, h) Q
  have no : ∀ s, (-1, s) = pathF (fre p bE bN M m) b0 M m x y f → ¬ vlP M m x y f → s ≠ 0 → RunI X (d + 4) mX10_none [(2, 0), (0, s)] sh pt h (fun r h1 => Q (some (0, r)) (sh, pt, h1)) := fun s e nv ne => b_X10_none hst (fun h1 e1 => k _ _ e sh pt h1 hst sp id (fun z => absurd z nv) (fun _ _ _ _ => rfl) (fun a i _ q => by rw [e1, qup_of (by omega)]) (by rw [e1, qup_at]) (fun z => absurd z ne) (fun _ => by subst e1; exact ⟨qup_of (by decide), fun _ j => qup_of (by omega)⟩))
  have n5 : 0 ≤ m → m < M → ¬ ((0 ≤ x ∧ x < 60 ∧ 0 ≤ y ∧ y < 40) ∧ (f = -1 ∨ (0 ≤ f ∧ f < 8))) → (-1, 5) = pathF (fre p bE bN M m) b0 M m x y f := fun a b q => by rw [pathF, if_neg (by omega), if_pos q]
  have go : 0 ≤ m → m < M → (0 ≤ x ∧ x < 60 ∧ 0 ≤ y ∧ y < 40) → (f = -1 ∨ (0 ≤ f ∧ f < 8)) → Ev X (d + 5) (0 + (0 + mc)) (0 + (0 + ms)) mX10_path 45 [(2, 0), (0, m), (0, x), (0, y), (0, f)] [] (sh, pt, h) Q := by
    intro m0 m1 hx hf
    refine c_X10_path_45 hst (b_X2_spot hst ⟨⟨by omega, by omega⟩, ⟨by omega, by omega⟩, ?_⟩)
    refine ev_callV (As := [(2, 2), (0, m), (0, x * 40 + y), (0, f)]) (rest := []) (Q' := fun r g => ∃ r1 : Int, ∃ sh' pt' h', r = some (0, r1) ∧ g = (sh', pt', h') ∧ St sh' pt' ∧ Sw sh' pt' ∧ (∀ a i : Int, a < 136 → ¬ (a = 28 ∧ (i = 1 ∨ i = 3 ∨ i = 4)) → pt' a i = pt a i) ∧ (∀ a i : Int, a < 136 → ¬ (a = 29 ∨ (a = 28 ∧ (i = 0 ∨ i = 5))) → h' a i = h a i) ∧ ((r1 = 0 ∧ (pth (fre p bE bN M m) b0 x y f).1 < 0 ∧ h' 28 0 = h 28 0 ∧ (Sw sh pt → ∀ j, h' 138 j = h 138 j)) ∨ (r1 = 1 ∧ 0 ≤ (pth (fre p bE bN M m) b0 x y f).1 ∧ h' 28 0 = (pth (fre p bE bN M m) b0 x y f).2.2.2.2.2 (pth (fre p bE bN M m) b0 x y f).1 ∧ (∀ j, 0 ≤ j → j < (pth (fre p bE bN M m) b0 x y f).2.2.2.2.2 (pth (fre p bE bN M m) b0 x y f).1 → h' 138 j = mvs (pth (fre p bE bN M m) b0 x y f).2 (pth (fre p bE bN M m) b0 x y f).1 j)))) 64 rfl dX10_path_61 lm_10_313 mm_X9_search (s_28 hst) rfl rfl (Nat.le_of_ble_eq_true rfl) (Nat.le_of_ble_eq_true rfl) (Nat.le_refl _) ?_ ?_
    · show Ev X (d + 4) _ _ mX9_search 0 [(2, 28), (2, 2), (0, m), (0, x * 40 + y), (0, f), (8, -1), (8, -1), (8, -1)] [] (sh, pt, h) _
      refine ev_aload_n 1 rfl dX9_search_0 rfl rfl ?_
      refine ev_callV (As := []) (rest := []) (Q' := QmR sh pt h) 4 rfl dX9_search_1 lm_9_35 mm_X9_makeRows (s_28 hst) rfl rfl (Nat.le_of_ble_eq_true rfl) (Nat.le_of_ble_eq_true rfl) (Nat.le_refl _) (hmk ⟨⟨m0, m1⟩, hx, hf⟩) ?_
      rintro r g ⟨sh', pt', h', rfl, rfl, st, sw, hh, pp, hs⟩
      have fin : ∀ r1 h2, (∀ a i : Int, ¬ PY1 a i → h2 a i = h' a i) → ((r1 = 0 ∧ (pth (fre p bE bN M m) b0 x y f).1 < 0 ∧ h2 28 0 = h 28 0 ∧ (Sw sh pt → ∀ j, h2 138 j = h 138 j)) ∨ (r1 = 1 ∧ 0 ≤ (pth (fre p bE bN M m) b0 x y f).1 ∧ h2 28 0 = (pth (fre p bE bN M m) b0 x y f).2.2.2.2.2 (pth (fre p bE bN M m) b0 x y f).1 ∧ (∀ j, 0 ≤ j → j < (pth (fre p bE bN M m) b0 x y f).2.2.2.2.2 (pth (fre p bE bN M m) b0 x y f).1 → h2 138 j = mvs (pth (fre p bE bN M m) b0 x y f).2 (pth (fre p bE bN M m) b0 x y f).1 j))) → ∃ r1' : Int, ∃ sh'' pt'' h'', some ((0, r1) : qV) = some (0, r1') ∧ ((sh', pt', h2) : qG) = (sh'', pt'', h'') ∧ St sh'' pt'' ∧ Sw sh'' pt'' ∧ (∀ a i : Int, a < 136 → ¬ (a = 28 ∧ (i = 1 ∨ i = 3 ∨ i = 4)) → pt'' a i = pt a i) ∧ (∀ a i : Int, a < 136 → ¬ (a = 29 ∨ (a = 28 ∧ (i = 0 ∨ i = 5))) → h'' a i = h a i) ∧ ((r1' = 0 ∧ (pth (fre p bE bN M m) b0 x y f).1 < 0 ∧ h'' 28 0 = h 28 0 ∧ (Sw sh pt → ∀ j, h'' 138 j = h 138 j)) ∨ (r1' = 1 ∧ 0 ≤ (pth (fre p bE bN M m) b0 x y f).1 ∧ h'' 28 0 = (pth (fre p bE bN M m) b0 x y f).2.2.2.2.2 (pth (fre p bE bN M m) b0 x y f).1 ∧ (∀ j, 0 ≤ j → j < (pth (fre p bE bN M m) b0 x y f).2.2.2.2.2 (pth (fre p bE bN M m) b0 x y f).1 → h'' 138 j = mvs (pth (fre p bE bN M m) b0 x y f).2 (pth (fre p bE bN M m) b0 x y f).1 j))) := fun r1 h2 fr re => ⟨r1, sh', pt', h2, rfl, rfl, st, sw, pp, fun a i x y => by rw [fr a i (by unfold PY1; omega), hh a i x], re⟩
      have u := x_ysearch (X := X) (d := d) (h := h') (x := x) (y := y) (f := f) (p := p) (bE := bE) (bN := bN) (bF := bF) (M := M) (m := m) (b0 := b0) (K := fun r1 h2 => (∀ a i : Int, ¬ PY1 a i → h2 a i = h' a i) ∧ ((r1 = 0 ∧ (pth (fre p bE bN M m) b0 x y f).1 < 0 ∧ h2 28 0 = h 28 0 ∧ (Sw sh pt → ∀ j, h2 138 j = h 138 j)) ∨ (r1 = 1 ∧ 0 ≤ (pth (fre p bE bN M m) b0 x y f).1 ∧ h2 28 0 = (pth (fre p bE bN M m) b0 x y f).2.2.2.2.2 (pth (fre p bE bN M m) b0 x y f).1 ∧ (∀ j, 0 ≤ j → j < (pth (fre p bE bN M m) b0 x y f).2.2.2.2.2 (pth (fre p bE bN M m) b0 x y f).1 → h2 138 j = mvs (pth (fre p bE bN M m) b0 x y f).2 (pth (fre p bE bN M m) b0 x y f).1 j)))) st sw (by rw [hh _ _ (by decide)]; exact hM) M0 M1 m0 m1 (fun k a b => by rw [hh 3 _ (by decide), hh 4 _ (by decide)]; have := hb k a b; omega) (by rw [hh 5 _ (by decide)]; have := hb m m0 m1; omega) (fun n a b => by rw [hh 6 _ (by decide)]; exact hp1 n a b) (fun e n a b c g => by rw [hh 6 _ (by decide)]; exact hp e n a b c g) (nf m0 m1) ⟨hx.2.2.1, hx.2.2.2⟩ eb
        (fun q h2 fr => ⟨fun a i y => fr a i (fun z => y (by unfold PY0 at z; unfold PY1; omega)), Or.inl ⟨rfl, q, by rw [fr 28 0 (by unfold PY0; omega), hh _ _ (by decide)], fun sw j => by rw [fr 138 j (by unfold PY0; omega), hs sw]⟩⟩)
        (fun q h2 fr a b => ⟨fun a i y => fr a i y, Or.inr ⟨rfl, q, a, b⟩⟩)
      refine Ev.mono ?_ u
      rintro r g ⟨v, h2, rfl, rfl, a, b⟩
      exact fin v h2 a b
    · rintro r g ⟨r1, sh', pt', h', rfl, rfl, st, sw, pp, hh, re⟩
      refine Ev.mono (Q1 := qRI sh' pt' (fun r h1 => Q (some (0, r)) (sh', pt', h1))) (fun r g ⟨v, h1, e1, e2, e3⟩ => by subst e1; subst e2; exact e3) ?_
      refine b_X10_path_64 (u0 := r1) st ⟨fun q => ?_, fun q => ?_⟩
      · rcases re with ⟨a, b⟩ | ⟨a, b, c, e⟩
        · exact absurd a q
        refine b_X10_answer st (fun h1 e1 => ?_)
        subst e1
        refine k _ 0 ?_ sh' pt' _ st (Or.inr sw) (fun _ => sw) (fun _ => sw) pp (fun a i y z => by rw [qup_of (by omega)]; exact hh a i y (by omega)) qup_at (fun _ => ⟨sw, qup_of (by decide), fun j a b => ?_⟩) (fun z => absurd rfl z)
        · rw [pathF, if_neg (by omega), if_neg (fun z => z ⟨hx, hf⟩), if_neg (by omega), c]
        · rw [qup_of (by omega)]
          exact e j a (by omega)
      · rcases re with ⟨a, b, c, e⟩ | ⟨a, b⟩
        · refine b_X10_none st (fun h1 e1 => ?_)
          subst e1
          refine k _ 8 ?_ sh' pt' _ st (Or.inr sw) (fun _ => sw) (fun _ => sw) pp (fun a i y z => by rw [qup_of (by omega)]; exact hh a i y (by omega)) qup_at (fun z => absurd z (by decide)) (fun _ => ⟨by rw [qup_of (by decide)]; exact c, fun sw j => by rw [qup_of (by omega)]; exact e sw j⟩)
          rw [pathF, if_neg (by omega), if_neg (fun z => z ⟨hx, hf⟩), if_pos b]
        · exact absurd (a.symm.trans q) (by decide)
  have n2 : ¬ (0 ≤ m ∧ m < M) → (-1, 2) = pathF (fre p bE bN M m) b0 M m x y f := fun q => by rw [pathF, if_pos q]
  have f5 : 0 ≤ m → m < M → ¬ (0 ≤ x ∧ x < 60 ∧ 0 ≤ y ∧ y < 40) → RunI X (d + 4) mX10_none [(2, 0), (0, 5)] sh pt h (fun r h1 => Q (some (0, r)) (sh, pt, h1)) := fun a b q => no 5 (n5 a b (fun z => q z.1)) (fun z => q z.2.1) (by decide)
  refine c_X10_path hst (b_X2_hasMarcher hst ⟨fun a => ⟨fun z => absurd rfl z, fun _ => no 2 (n2 (by omega)) (by unfold vlP; omega) (by decide)⟩, fun m0 => ⟨fun a => ⟨fun z => absurd rfl z, fun _ => no 2 (n2 (by omega)) (by unfold vlP; omega) (by decide)⟩, fun m1 => ⟨fun _ => ?_, fun z => absurd z (by decide)⟩⟩⟩)
  rw [hM] at m1
  refine b_X2_isSpot hst ⟨fun a => ⟨fun _ => f5 m0 m1 (by omega), fun z => absurd rfl z⟩, fun a1 => ⟨fun a => ⟨fun _ => f5 m0 m1 (by omega), fun z => absurd rfl z⟩, fun a2 => ⟨fun a => ⟨fun _ => f5 m0 m1 (by omega), fun z => absurd rfl z⟩, fun a3 => ⟨fun a => ⟨fun _ => f5 m0 m1 (by omega), fun z => absurd rfl z⟩, fun a4 => ⟨fun z => absurd z (by decide), fun _ => ⟨fun ef => go m0 m1 ⟨a1, a2, a3, a4⟩ (Or.inl ef), fun ef => ?_⟩⟩⟩⟩⟩⟩
  refine b_X2_isFace hst ⟨fun a => ⟨fun z => absurd rfl z, fun _ => no 5 (n5 m0 m1 (by omega)) (by unfold vlP; omega) (by decide)⟩, fun b1 => ⟨fun a => ⟨fun z => absurd rfl z, fun _ => no 5 (n5 m0 m1 (by omega)) (by unfold vlP; omega) (by decide)⟩, fun b2 => ⟨fun _ => go m0 m1 ⟨a1, a2, a3, a4⟩ (Or.inr ⟨b1, b2⟩), fun z => absurd z (by decide)⟩⟩⟩
theorem x_mk0 {mc ms : Nat} (hst : St sh pt) (sw : Sw sh pt) : Run X (d + 1) mc ms mX9_makeRows [(2, 28)] (sh, pt, h) (QmR sh pt h) := by
  obtain ⟨w1, w2, w3, w4, w5, w6⟩ := id sw
  show Ev X (d + 1) _ _ mX9_makeRows 0 [(2, 28)] [] (sh, pt, h) _
  have fin : QmR sh pt h none (sh, pt, h) := ⟨sh, pt, h, rfl, rfl, hst, sw, fun _ _ _ => rfl, fun _ _ _ _ => rfl, fun _ => rfl⟩
  exact c_X9_makeRows hst ⟨fun q => absurd q (by rw [w1]; decide), fun _ => ⟨fun q => absurd q (by rw [w3]; decide), fun _ => ⟨fun _ => fin, fun q => absurd q (by rw [w5]; decide)⟩⟩⟩
theorem x_mk3 (hst : St sh pt) (sp : ShP sh pt) : Run X (d + 1) 3 57600 mX9_makeRows [(2, 28)] (sh, pt, h) (QmR sh pt h) :=
  x_makeRows (rc := 0) (rs := 0) hst sp (fun sh' pt' h' a b c e g => ⟨sh', pt', h', rfl, rfl, a, b, c, e, g⟩)
end
theorem pth_ok {fr : Int → Int → Prop} {b0 x y f : Int} (g : gOk fr) (nf : NT (fun w => ¬ flP fr w) 1200 ≤ 49) (h0 : 0 ≤ b0) (h1 : b0 < 19200) (hf : frs fr b0) (q : 0 ≤ (pth fr b0 x y f).1) : (0 ≤ (pth fr b0 x y f).2.2.2.2.2 (pth fr b0 x y f).1 ∧ (pth fr b0 x y f).2.2.2.2.2 (pth fr b0 x y f).1 ≤ 2400) ∧ ∀ k, 0 ≤ k → k < (pth fr b0 x y f).2.2.2.2.2 (pth fr b0 x y f).1 → 0 ≤ mvs (pth fr b0 x y f).2 (pth fr b0 x y f).1 k := by
  have key : ∀ (n : Nat) (hd : Int) (σ : bq), BI fr b0 σ hd → ∀ r : Int × bq, r = bfs fr (gl x y f) n hd σ → 0 ≤ r.1 → ∃ hd', BI fr b0 r.2 hd' ∧ hd' < r.2.1 ∧ r.1 = r.2.2.1 hd' := by
    intro n
    induction n with
    | zero =>
      intro hd σ B r er r0
      rw [er] at r0
      exact absurd r0 (show ¬ (0 : Int) ≤ -1 by decide)
    | succ n ih =>
      intro hd σ B r er r0
      unfold bfs at er
      by_cases c : σ.1 ≤ hd
      · rw [if_pos c] at er
        rw [er] at r0
        exact absurd r0 (show ¬ (0 : Int) ≤ -1 by decide)
      rw [if_neg c] at er
      by_cases yg : gl x y f (σ.2.1 hd)
      · rw [cif_t yg] at er
        rw [er]
        exact ⟨hd, B, by dsimp only; omega, rfl⟩
      · rw [cif_f yg] at er
        exact ih (hd + 1) _ (bi_ex g B (by omega)) r er r0
  obtain ⟨hd, B, hl, e⟩ := key 19201 0 (sg0 b0) (bi_0 h0 h1 hf) (pth fr b0 x y f) rfl q
  generalize pth fr b0 x y f = P at *
  have gv := B.2.1 hd B.1.2.2 hl
  have D0 := (B.2.2.1 _ gv.1.1 gv.1.2 gv.2).1.2.1
  have D1 := path_bd g B hl nf
  rw [e]
  refine ⟨⟨D0, D1⟩, fun k k0 k1 => ?_⟩
  unfold mvs
  have c := chn_ok B hl (P.2.2.2.2.2 (P.2.2.1 hd) - 1 - k).toNat (by omega)
  have b := (B.2.2.1 _ c.1.1 c.1.2 c.2.1).1.2.2
  rcases b with b | b
  · have := b.2.1
    omega
  · have := b.2.1
    omega
