section
variable {X : qX} {d : Nat} {sh : qS} {pt h : qM}
theorem rk_ok {f : Int → Int → Int → Int} {w : Int → Int} {s : Int} : ∀ k : Nat, 1 ≤ rk f w s k ∧ rk f w s k ≤ k + 1 := by
  intro k
  induction k with
  | zero => simp [rk]
  | succ k ih =>
    unfold rk
    by_cases c : rkO f w s k
    · rw [if_pos c]; omega
    · rw [if_neg c]; omega
theorem rk_t {f : Int → Int → Int → Int} {w : Int → Int} {s : Int} {k : Nat} (c : rkO f w s k) : rk f w s (k + 1) = rk f w s k + 1 := by
  show _ + _ = _
  rw [if_pos c]
theorem rk_f {f : Int → Int → Int → Int} {w : Int → Int} {s : Int} {k : Nat} (c : ¬ rkO f w s k) : rk f w s (k + 1) = rk f w s k := by
  show _ + _ = _
  rw [if_neg c]
  omega
abbrev mkOk (f : Int → Int → Int → Int) : Prop := ∀ s t j : Int, 0 ≤ s → s < 6 → 0 ≤ t → t < 3 → 0 ≤ j → j < 9 → -1 ≤ f s t j ∧ f s t j ≤ 100
abbrev wtOk (w : Int → Int) : Prop := ∀ t : Int, 0 ≤ t → t < 3 → 1 ≤ w t ∧ w t ≤ 9
theorem tot_bd {f : Int → Int → Int → Int} {w : Int → Int} (hf : mkOk f) (hw : wtOk w) {s : Int} (hs : 0 ≤ s ∧ s < 6) : (0 ≤ (tot (f s) w 3).1 ∧ (tot (f s) w 3).1 ≤ 4147200) ∧ (0 ≤ (tot (f s) w 3).2 ∧ (tot (f s) w 3).2 ≤ 343) := by
  have h := tot_ok (f := f s) (fun t j a b c e => hf s t j hs.1 hs.2 a b c e) hw 3 (Nat.le_refl _)
  have e1 : (8100 : Int) * 8 ^ 3 = 4147200 := by decide
  have e2 : (7 : Int) ^ 3 = 343 := by decide
  rw [e1, e2] at h
  exact h
theorem x_placeOf_l {K : Int → qM → Prop} {s : Int} (hst : St sh pt) (hs : 0 ≤ s ∧ s < 6) (hf : mkOk (xmk h)) (hw : wtOk (h 42)) (k1 : ∀ h1, Fr PS h h1 → K (rk (xmk h) (h 42) s 6) h1) :
    ∀ (n o : Nat) (h1 : qM), n + o = 6 → Fr PS h h1 → EvI X (d + 3) mX6_placeOf 27 [(2, 41), (8, -1), (1, (tot (xmk h s) (h 42) 3).1), (8, -1), (1, (tot (xmk h s) (h 42) 3).2), (8, -1), (0, rk (xmk h) (h 42) s o), (0, (o : Int))] [] sh pt h1 K := by
  intro n
  induction n with
  | zero =>
    intro o h1 hn hF
    have e : o = 6 := by omega
    subst e
    exact b_X6_placeOf_27 hst ⟨fun _ => k1 h1 hF, fun c => absurd c (by omega)⟩
  | succ n ih =>
    intro o h1 hn hF
    have ho : 0 ≤ (o : Int) ∧ (o : Int) < 6 := ⟨by omega, by omega⟩
    have em : ∀ u : Int, xmk h1 u = xmk h u := fun u => by
      funext t j
      exact hF _ _ (by unfold PS; omega)
    have ew : h1 42 = h 42 := by
      funext j
      exact hF _ _ (by unfold PS; omega)
    have rb := rk_ok (f := xmk h) (w := h 42) (s := s) o
    have b1 := tot_bd hf hw hs
    have b2 := tot_bd hf hw ho
    have ej : ((o + 1 : Nat) : Int) = (o : Int) + 1 := by omega
    refine b_X6_placeOf_27 hst ⟨fun c => absurd c (by omega), fun _ => ?_⟩
    refine x_reckon hst ho (fun t j a b c e => by rw [em]; exact hf o t j ho.1 ho.2 a b c e) (by rw [ew]; exact hw) ?_ ?_
    · rw [em, ew]
      intro hok h2 hF2 hT hB
      have hF3 := hF.tr hF2
      have m1 := mulb b2.1.1 b2.1.2 b1.2.1 b1.2.2
      have m2 := mulb b1.1.1 b1.1.2 b2.2.1 b2.2.2
      rw [hT, hB]
      refine ⟨fun c => absurd c (by decide), fun _ => ⟨⟨by omega, by omega⟩, ⟨by omega, by omega⟩, fun c => ⟨⟨by omega, by omega⟩, ?_⟩, fun c => ⟨⟨by omega, by omega⟩, ⟨by omega, by omega⟩, ?_⟩⟩⟩
      · have k2 := ih (o + 1) h2 (by omega) hF3
        rw [ej, rk_f (fun z => by have := z.2; omega)] at k2
        exact k2
      · have k2 := ih (o + 1) h2 (by omega) hF3
        rw [ej, rk_t ⟨hok, c⟩] at k2
        exact k2
    · rw [em]
      intro hok h2 hF2
      refine ⟨fun _ => ⟨⟨by omega, by omega⟩, ?_⟩, fun c => absurd rfl c⟩
      have k2 := ih (o + 1) h2 (by omega) (hF.tr hF2)
      rw [ej, rk_f (fun z => hok z.1)] at k2
      exact k2
theorem x_placeOf {K : Int → qM → Prop} {s : Int} (hst : St sh pt) (hs : 0 ≤ s ∧ s < 6) (hf : mkOk (xmk h)) (hw : wtOk (h 42)) (k1 : totOk (xmk h s) → ∀ h1, Fr PS h h1 → K (rk (xmk h) (h 42) s 6) h1) (k0 : ¬ totOk (xmk h s) → ∀ h1, Fr PS h h1 → K (-1) h1) : RunI X (d + 3) mX6_placeOf [(2, 41), (0, s)] sh pt h K := by
  refine b_X6_placeOf hst (x_reckon hst hs (fun t j a b c e => hf s t j hs.1 hs.2 a b c e) hw ?_ ?_)
  · intro hok h1 hF hT hB
    rw [hT, hB]
    exact ⟨fun _ => x_placeOf_l hst hs hf hw (k1 hok) 6 0 h1 rfl hF, fun c => absurd c (by decide)⟩
  · intro hok h1 hF
    exact ⟨fun c => absurd rfl c, fun _ => k0 hok h1 hF⟩
theorem x_rank {K : Int → qM → Prop} {s : Int} (hst : St sh pt) (hf : mkOk (xmk h)) (hw : wtOk (h 42)) (k0 : ¬ (0 ≤ s ∧ s < 6) → K (-1) (qup h 0 12 2)) (k1 : 0 ≤ s ∧ s < 6 → ¬ totOk (xmk h s) → ∀ h1, Fr PS h h1 → K (-1) (qup h1 0 12 8)) (k2 : 0 ≤ s ∧ s < 6 → totOk (xmk h s) → ∀ h1, Fr PS h h1 → K (rk (xmk h) (h 42) s 6) (qup h1 0 12 0)) :
    RunI X (d + 4) mX10_rank [(2, 0), (0, s)] sh pt h K := by
  have rb := rk_ok (f := xmk h) (w := h 42) (s := s) 6
  refine b_X10_rank hst  ?_
  refine b_X6_isShow hst  ?_
  refine And.intro (fun c1_ => ?_) (fun c1_ => ?_)
  · refine And.intro (fun c_ => absurd c_ (by decide)) (fun _ => ?_)
    refine b_X10_none hst  ?_
    intro h2_ eh2_
    subst eh2_
    exact k0 (by omega)
  · refine And.intro (fun c3_ => ?_) (fun c3_ => ?_)
    · refine And.intro (fun c_ => absurd c_ (by decide)) (fun _ => ?_)
      refine b_X10_none hst  ?_
      intro h4_ eh4_
      subst eh4_
      exact k0 (by omega)
    · refine And.intro (fun _ => ?_) (fun c_ => absurd c_ (by decide))
      refine x_placeOf hst ⟨by omega, by omega⟩ hf hw (fun z h1 hF => ⟨fun _ => b_X10_answer hst (fun h2 e2 => by rw [e2]; exact k2 ⟨by omega, by omega⟩ z h1 hF), fun c => absurd c (by omega)⟩) (fun z h1 hF => ⟨fun c => absurd rfl c, fun _ => b_X10_none hst (fun h2 e2 => by rw [e2]; exact k1 ⟨by omega, by omega⟩ z h1 hF)⟩)
theorem x_total {K : Int → qM → Prop} {s : Int} (hst : St sh pt) (hf : mkOk (xmk h)) (hw : wtOk (h 42)) (k0 : ¬ (0 ≤ s ∧ s < 6) → K 0 (qup h 0 12 2)) (k1 : 0 ≤ s ∧ s < 6 → ¬ totOk (xmk h s) → ∀ h1, Fr PS h h1 → K 0 (qup h1 0 12 8))
    (k2 : 0 ≤ s ∧ s < 6 → totOk (xmk h s) → ∀ h1, Fr PS h h1 → K 1 (qup (qup (qup h1 41 1 ((tot (xmk h s) (h 42) 3).1 / eg 1000 (tot (xmk h s) (h 42) 3).1 (tot (xmk h s) (h 42) 3).2)) 41 2 ((tot (xmk h s) (h 42) 3).2 / eg 1000 (tot (xmk h s) (h 42) 3).1 (tot (xmk h s) (h 42) 3).2)) 0 12 0)) :
    RunI X (d + 3) mX10_total [(2, 0), (0, s)] sh pt h K := by
  refine b_X10_total hst  ?_
  refine b_X6_isShow hst  ?_
  refine And.intro (fun c1_ => ?_) (fun c1_ => ?_)
  · refine And.intro (fun c_ => absurd c_ (by decide)) (fun _ => ?_)
    refine b_X10_refuse hst  ?_
    intro h2_ eh2_
    subst eh2_
    refine And.intro (by first | omega | exact ⟨by omega, by omega⟩) ?_
    exact k0 (by omega)
  · refine And.intro (fun c3_ => ?_) (fun c3_ => ?_)
    · refine And.intro (fun c_ => absurd c_ (by decide)) (fun _ => ?_)
      refine b_X10_refuse hst  ?_
      intro h4_ eh4_
      subst eh4_
      refine And.intro (by first | omega | exact ⟨by omega, by omega⟩) ?_
      exact k0 (by omega)
    · refine And.intro (fun _ => ?_) (fun c_ => absurd c_ (by decide))
      have hs : 0 ≤ s ∧ s < 6 := ⟨by omega, by omega⟩
      refine x_reckon hst hs (fun t j a b c e => hf s t j hs.1 hs.2 a b c e) hw (fun z h1 hF hT hB => ⟨fun _ => ?_, fun c => absurd c (by decide)⟩) (fun z h1 hF => ⟨fun c => absurd rfl c, fun _ => b_X10_refuse hst (fun h2 e2 => ⟨by omega, by rw [e2]; exact k1 hs z h1 hF⟩)⟩)
      have b1 := tot_bd hf hw hs
      have b2 := tot_pos (w := h 42) (fun t j a b c e => hf s t j hs.1 hs.2 a b c e) z
      refine x_tell hst (by rw [hT]; omega) (by rw [hB]; omega) ?_
      rw [hT, hB]
      exact b_X10_agree hst (fun h2 e2 => ⟨by omega, by rw [e2]; exact k2 hs z h1 hF⟩)
def PM (a i : Int) : Prop := a = 78 ∧ (i = 100 ∨ i = 101)
theorem m_totals_l {K : Int → qM → Prop} {s t : Int} (hst : St sh pt) (hs : 0 ≤ s ∧ s < 6) (ht : 0 ≤ t ∧ t < 3) (hf : ∀ j : Int, 0 ≤ j → j < 9 → -1 ≤ mmk h s t j ∧ mmk h s t j ≤ 100)
    (k0 : (sc (mmk h s t) 9).1 = 0 → K 0 h)
    (k : 0 < (sc (mmk h s t) 9).1 → EvI X (d + 1) mX11_totals 123 [(2, 78), (0, s), (0, t), (0, (adj (sc (mmk h s t) 9)).1), (0, (adj (sc (mmk h s t) 9)).2), (8, -1), (8, -1), (8, -1), (8, -1)] [] sh pt h K) :
    ∀ (n j : Nat) (u v : Int), n + j = 9 → u = (if (sc (mmk h s t) j).1 = 0 then 101 else (sc (mmk h s t) j).2.2.1) → v = (if (sc (mmk h s t) j).1 = 0 then -1 else (sc (mmk h s t) j).2.2.2) → EvI X (d + 1) mX11_totals 32 [(2, 78), (0, s), (0, t), (0, (sc (mmk h s t) j).1), (0, (sc (mmk h s t) j).2.1), (0, u), (0, v), (0, (j : Int)), (8, -1)] [] sh pt h K := by
  intro n
  induction n with
  | zero =>
    intro j u v hj hu hv
    have e : j = 9 := by omega
    subst e
    have h1 := sc_ok 9 hf
    refine b_X11_totals_32 hst ⟨fun _ => ⟨fun c0 => ?_, fun c => k0 c⟩, fun c => absurd c (by omega)⟩
    rw [if_neg c0] at hu hv
    have k := k (by omega)
    refine ⟨fun c => ?_, fun c => ?_⟩
    · have e : adj (sc (mmk h s t) 9) = ((sc (mmk h s t) 9).1, (sc (mmk h s t) 9).2.1) := by
        unfold adj
        rw [if_neg (by omega)]
      rw [e] at k
      exact k
    · have e : adj (sc (mmk h s t) 9) = ((sc (mmk h s t) 9).1 + (-2), (sc (mmk h s t) 9).2.1 - (u + v)) := by
        unfold adj
        rw [if_pos (by omega), hu, hv]
        rfl
      rw [e] at k
      exact ⟨⟨by omega, by omega⟩, ⟨by omega, by omega⟩, ⟨by omega, by omega⟩, k⟩
  | succ n ih =>
    intro j u v hj hu hv
    have h1 := sc_ok j (fun i h0 h1 => hf i h0 (by omega))
    have h2 := hf j (by omega) (by omega)
    have ej : ((j + 1 : Nat) : Int) = (j : Int) + 1 := by omega
    refine b_X11_totals_32 hst ⟨fun c => absurd c (by omega), fun _ => ⟨⟨by omega, by omega⟩, ⟨by omega, by omega⟩, ⟨by omega, by omega⟩, ⟨by omega, by omega⟩, by omega, fun x ex => ⟨fun c => ?_, fun c => ⟨⟨by omega, by omega⟩, ?_⟩⟩⟩⟩
    · have e0 : mmk h s t j = x := ex.symm
      have e : sc (mmk h s t) (j + 1) = ((sc (mmk h s t) j).1 + 1, (sc (mmk h s t) j).2.1 + x, min (sc (mmk h s t) j).2.2.1 x, max (sc (mmk h s t) j).2.2.2 x) := by
        show (if mmk h s t j < 0 then _ else _) = _
        rw [if_neg (by omega), e0]
      have k2 := ih (j + 1) (min u x) (max v x) (by omega) (by
        rw [e]
        simp only
        rw [if_neg (by omega)]
        split at hu <;> omega) (by
        rw [e]
        simp only
        rw [if_neg (by omega)]
        split at hv <;> omega)
      rw [ej, e] at k2
      refine ⟨⟨by omega, by omega⟩, ⟨by omega, by omega⟩, ?_⟩
      exact x_min hst (x_max hst ⟨⟨by omega, by omega⟩, k2⟩)
    · have e : sc (mmk h s t) (j + 1) = sc (mmk h s t) j := by
        show (if mmk h s t j < 0 then _ else _) = _
        rw [if_pos (by show h 134 _ < 0; omega)]
      have k2 := ih (j + 1) u v (by omega) (by rw [e]; exact hu) (by rw [e]; exact hv)
      rw [ej, e] at k2
      exact k2
theorem m_totals_o {K : Int → qM → Prop} {s : Int} (hst : St sh pt) (hs : 0 ≤ s ∧ s < 6) (hf : ∀ t j : Int, 0 ≤ t → t < 3 → 0 ≤ j → j < 9 → -1 ≤ mmk h s t j ∧ mmk h s t j ≤ 100) (hw : wtOk (h 135))
    (k1 : totOk (mmk h s) → ∀ h1, Fr PM h h1 → h1 78 100 = (tot (mmk h s) (h 135) 3).1 → h1 78 101 = (tot (mmk h s) (h 135) 3).2 → K 1 h1) (k0 : ¬ totOk (mmk h s) → ∀ h1, Fr PM h h1 → K 0 h1) :
    ∀ (n t : Nat) (h1 : qM), n + t = 3 → Fr PM h h1 → h1 78 100 = (tot (mmk h s) (h 135) t).1 → h1 78 101 = (tot (mmk h s) (h 135) t).2 → (∀ j : Int, 0 ≤ j → j < t → 0 < (sc (mmk h s j) 9).1) → EvI X (d + 1) mX11_totals 12 [(2, 78), (0, s), (0, (t : Int)), (8, -1), (8, -1), (8, -1), (8, -1), (8, -1), (8, -1)] [] sh pt h1 K := by
  intro n
  induction n with
  | zero =>
    intro t h1 hn hF hT hB hg
    have e : t = 3 := by omega
    subst e
    exact b_X11_totals_12 hst ⟨fun _ => k1 (fun j a b => hg j a (by omega)) h1 hF hT hB, fun c => absurd c (by omega)⟩
  | succ n ih =>
    intro t h1 hn hF hT hB hg
    have ht : 0 ≤ (t : Int) ∧ (t : Int) < 3 := ⟨by omega, by omega⟩
    have bd := tot_ok hf hw t (by omega)
    have p8 : (8 : Int) ^ t ≤ 512 ∧ (7 : Int) ^ t ≤ 343 := by
      have : t = 0 ∨ t = 1 ∨ t = 2 := by omega
      rcases this with rfl | rfl | rfl <;> decide
    have em : ∀ u : Int, mmk h1 s u = mmk h s u := fun u => by
      funext j
      exact hF _ _ (by unfold PM; omega)
    have ew : h1 135 = h 135 := by
      funext j
      exact hF _ _ (by unfold PM; omega)
    have wt := hw t ht.1 ht.2
    have ej : ((t + 1 : Nat) : Int) = (t : Int) + 1 := by omega
    have a1 := adj_ok (f := mmk h s t) (fun j a b => hf t j ht.1 ht.2 a b)
    refine b_X11_totals_12 hst ⟨fun c => absurd c (by omega), fun _ => ?_⟩
    refine m_totals_l (h := h1) hst hs ht (fun j a b => by rw [em]; exact hf t j ht.1 ht.2 a b) ?_ ?_ 9 0 101 (-1) rfl rfl rfl
    · rw [em]
      intro z
      refine k0 (fun q => ?_) h1 hF
      have := q t ht.1 ht.2
      omega
    · rw [em]
      intro z
      have m1 := mulb bd.1.1 (show (tot (mmk h s) (h 135) t).1 ≤ 4147200 by omega) a1.1.1 a1.1.2
      have m2 := mulb (show 0 ≤ h 135 t by omega) wt.2 a1.2.1.1 a1.2.1.2
      have m3 := mulb m2.1 m2.2 bd.2.1 (show (tot (mmk h s) (h 135) t).2 ≤ 343 by omega)
      have m4 := mulb bd.2.1 (show (tot (mmk h s) (h 135) t).2 ≤ 343 by omega) a1.1.1 a1.1.2
      refine b_X11_totals_123 hst ?_
      rw [hT, hB, ew]
      refine ⟨⟨by omega, by omega⟩, ht, ⟨by omega, by omega⟩, ⟨by omega, by omega⟩, ⟨by omega, by omega⟩, fun h2 e2 => ?_⟩
      have e3 : h2 78 101 = (tot (mmk h s) (h 135) t).2 := by rw [e2, ← hB]; simp [qup]
      rw [e3]
      refine ⟨⟨by omega, by omega⟩, fun h3 e4 => ⟨⟨by omega, by omega⟩, ?_⟩⟩
      have k2 := ih (t + 1) h3 (by omega) (by rw [e4, e2]; exact (hF.up (by unfold PM; omega)).up (by unfold PM; omega)) (by
        rw [e4, e2]
        simp only [qup]
        show _ = (tot (mmk h s) (h 135) t).1 * (adj (sc (mmk h s t) 9)).1 + (tot (mmk h s) (h 135) t).2 * (adj (sc (mmk h s t) 9)).2 * h 135 t
        have e5 : h 135 t * (adj (sc (mmk h s t) 9)).2 * (tot (mmk h s) (h 135) t).2 = (tot (mmk h s) (h 135) t).2 * (adj (sc (mmk h s t) 9)).2 * h 135 t := by
          rw [Int.mul_comm (h 135 t), Int.mul_comm _ (tot (mmk h s) (h 135) t).2, Int.mul_assoc]
        rw [← e5]
        simp) (by rw [e4]; simp [qup]; rfl) (fun j a b => by
        by_cases e : j = t
        · subst e
          exact z
        · exact hg j a (by omega))
      rw [ej] at k2
      exact k2
theorem m_totals {K : Int → qM → Prop} {s : Int} (hst : St sh pt) (hs : 0 ≤ s ∧ s < 6) (hf : mkOk (mmk h)) (hw : wtOk (h 135))
    (k1 : totOk (mmk h s) → ∀ h1, Fr PM h h1 → h1 78 100 = (tot (mmk h s) (h 135) 3).1 → h1 78 101 = (tot (mmk h s) (h 135) 3).2 → K 1 h1) (k0 : ¬ totOk (mmk h s) → ∀ h1, Fr PM h h1 → K 0 h1) : RunI X (d + 1) mX11_totals [(2, 78), (0, s)] sh pt h K := by
  refine b_X11_totals hst (fun h1 e1 h2 e2 => ?_)
  exact m_totals_o hst hs (fun t j a b c e => hf s t j hs.1 hs.2 a b c e) hw k1 k0 3 0 h2 rfl (by rw [e2, e1]; exact (Fr.rf.up (by unfold PM; omega)).up (by unfold PM; omega)) (by rw [e2, e1]; simp [qup]; rfl) (by rw [e2]; simp [qup]; rfl) (fun j a b => by omega)
theorem m_total {K : Int → qM → Prop} {s : Int} (hst : St sh pt) (hf : mkOk (mmk h)) (hw : wtOk (h 135)) (k0 : ¬ (0 ≤ s ∧ s < 6) → K 0 (qup (qup (qup h 78 1 0) 78 0 0) 78 0 2)) (k1 : 0 ≤ s ∧ s < 6 → ¬ totOk (mmk h s) → ∀ h1, Fr PM (qup (qup h 78 1 0) 78 0 0) h1 → K 0 (qup h1 78 0 8))
    (k2 : 0 ≤ s ∧ s < 6 → totOk (mmk h s) → ∀ h1, Fr PM (qup (qup h 78 1 0) 78 0 0) h1 → K 1 (qup (qup h1 78 2 ((tot (mmk h s) (h 135) 3).1 / eg 1000 (tot (mmk h s) (h 135) 3).1 (tot (mmk h s) (h 135) 3).2)) 78 3 ((tot (mmk h s) (h 135) 3).2 / eg 1000 (tot (mmk h s) (h 135) 3).1 (tot (mmk h s) (h 135) 3).2))) :
    RunI X (d + 2) mX11_total [(2, 78), (0, s)] sh pt h K := by
  have em : ∀ u, mmk (qup (qup h 78 1 0) 78 0 0) u = mmk h u := fun u => by
    funext t j
    simp [mmk, qup]
  have ew : (qup (qup h 78 1 0) 78 0 0) 135 = h 135 := by
    funext j
    simp [qup]
  have hf1 : mkOk (mmk (qup (qup h 78 1 0) 78 0 0)) := fun a => by rw [em]; exact hf a
  have hw1 : wtOk ((qup (qup h 78 1 0) 78 0 0) 135) := by rw [ew]; exact hw
  refine b_X11_total hst  ?_
  intro h1_ eh1_
  subst eh1_
  intro h2_ eh2_
  subst eh2_
  refine b_X11_isIn hst  ?_
  refine And.intro (fun c3_ => ?_) (fun c3_ => ?_)
  · refine And.intro (fun c_ => absurd c_ (by decide)) (fun _ => ?_)
    refine b_X11_no hst  ?_
    intro h4_ eh4_
    subst eh4_
    refine And.intro (by first | omega | exact ⟨by omega, by omega⟩) ?_
    exact k0 (by omega)
  · refine And.intro (fun c5_ => ?_) (fun c5_ => ?_)
    · refine And.intro (fun c_ => absurd c_ (by decide)) (fun _ => ?_)
      refine b_X11_no hst  ?_
      intro h6_ eh6_
      subst eh6_
      refine And.intro (by first | omega | exact ⟨by omega, by omega⟩) ?_
      exact k0 (by omega)
    · refine And.intro (fun _ => ?_) (fun c_ => absurd c_ (by decide))
      have hs : 0 ≤ s ∧ s < 6 := ⟨by omega, by omega⟩
      refine m_totals hst hs hf1 hw1 (fun z h1 hF hT hB => ⟨fun _ => ?_, fun c => absurd c (by decide)⟩) (fun z h1 hF => ⟨fun c => absurd rfl c, fun _ => b_X11_no hst (fun h2 e2 => ⟨by omega, by rw [e2]; exact k1 hs (by rw [em] at z; exact z) h1 hF⟩)⟩)
      rw [em] at z hT hB
      rw [ew] at hT hB
      have b1 := tot_bd hf hw hs
      have b2 := tot_pos (w := h 135) (fun t j a b c e => hf s t j hs.1 hs.2 a b c e) z
      have g := eg_pos 1000 (tot (mmk h s) (h 135) 3).1 (tot (mmk h s) (h 135) 3).2 (by omega) (by omega) (Or.inr b2) (by omega)
      rw [hT, hB]
      refine b_X11_common hst (m_common hst 1000 _ _ (by omega) (by omega) (by omega) ?_)
      rw [hT]
      refine ⟨⟨by omega, g⟩, fun h2 e2 => ?_⟩
      have e3 : h2 78 101 = (tot (mmk h s) (h 135) 3).2 := by rw [e2, ← hB]; simp [qup]
      rw [e3]
      exact ⟨⟨by omega, g⟩, fun h3 e4 => by rw [e4, e2]; exact k2 hs z h1 hF⟩
theorem rk_self {f : Int → Int → Int → Int} {w : Int → Int} {s : Int} : ¬ rkO f w s s := fun z => by have := z.2; omega
theorem m_rank_l {K : Int → qM → Prop} {s : Int} (hst : St sh pt) (hs : 0 ≤ s ∧ s < 6) (hf : mkOk (mmk h)) (hw : wtOk (h 135)) (k1 : ∀ h1, Fr PM h h1 → K (rk (mmk h) (h 135) s 6) h1) :
    ∀ (n o : Nat) (h1 : qM) (r : Int), n + o = 6 → Fr PM h h1 → r = rk (mmk h) (h 135) s o → EvI X (d + 2) mX11_rank 60 [(2, 78), (0, s), (1, (tot (mmk h s) (h 135) 3).1), (8, -1), (1, (tot (mmk h s) (h 135) 3).2), (8, -1), (0, r), (0, (o : Int))] [] sh pt h1 K := by
  intro n
  induction n with
  | zero =>
    intro o h1 r hn hF hr
    have e : o = 6 := by omega
    subst e
    rw [hr]
    exact b_X11_rank_60 hst ⟨fun _ => k1 h1 hF, fun c => absurd c (by omega)⟩
  | succ n ih =>
    intro o h1 r hn hF hr
    have ho : 0 ≤ (o : Int) ∧ (o : Int) < 6 := ⟨by omega, by omega⟩
    have em : ∀ u : Int, mmk h1 u = mmk h u := fun u => by
      funext t j
      exact hF _ _ (by unfold PM; omega)
    have ew : h1 135 = h 135 := by
      funext j
      exact hF _ _ (by unfold PM; omega)
    have rb := rk_ok (f := mmk h) (w := h 135) (s := s) o
    have b1 := tot_bd hf hw hs
    have b2 := tot_bd hf hw ho
    have ej : ((o + 1 : Nat) : Int) = (o : Int) + 1 := by omega
    refine b_X11_rank_60 hst ⟨fun c => absurd c (by omega), fun _ => ⟨fun c => ⟨⟨by omega, by omega⟩, ⟨by omega, by omega⟩, ?_⟩, fun c => ?_⟩⟩
    · have k2 := ih (o + 1) h1 (r + 0) (by omega) hF (by rw [rk_f (by rw [c]; exact rk_self), hr]; omega)
      rw [ej] at k2
      exact k2
    · refine m_totals hst ho (fun s => by rw [em]; exact hf s) (by rw [ew]; exact hw) ?_ ?_
      · rw [em, ew]
        intro hok h2 hF2 hT hB
        have hF3 := hF.tr hF2
        have m1 := mulb b2.1.1 b2.1.2 b1.2.1 b1.2.2
        have m2 := mulb b1.1.1 b1.1.2 b2.2.1 b2.2.2
        rw [hT, hB]
        refine ⟨fun c => absurd c (by decide), fun _ => ⟨⟨by omega, by omega⟩, ⟨by omega, by omega⟩, fun c => ⟨⟨by omega, by omega⟩, ⟨by omega, by omega⟩, ?_⟩, fun c => ⟨⟨by omega, by omega⟩, ⟨by omega, by omega⟩, ?_⟩⟩⟩
        · have k2 := ih (o + 1) h2 (r + 0) (by omega) hF3 (by rw [rk_f (fun z => by have := z.2; omega), hr]; omega)
          rw [ej] at k2
          exact k2
        · have k2 := ih (o + 1) h2 (r + 1) (by omega) hF3 (by rw [rk_t ⟨hok, c⟩, hr])
          rw [ej] at k2
          exact k2
      · rw [em]
        intro hok h2 hF2
        refine ⟨fun _ => ⟨⟨by omega, by omega⟩, ⟨by omega, by omega⟩, ?_⟩, fun c => absurd rfl c⟩
        have k2 := ih (o + 1) h2 (r + 0) (by omega) (hF.tr hF2) (by rw [rk_f (fun z => hok z.1), hr]; omega)
        rw [ej] at k2
        exact k2
theorem m_rank {K : Int → qM → Prop} {s : Int} (hst : St sh pt) (hf : mkOk (mmk h)) (hw : wtOk (h 135)) (k0 : ¬ (0 ≤ s ∧ s < 6) → K (-1) (qup (qup (qup h 78 1 0) 78 0 0) 78 0 2)) (k1 : 0 ≤ s ∧ s < 6 → ¬ totOk (mmk h s) → ∀ h1, Fr PM (qup (qup h 78 1 0) 78 0 0) h1 → K (-1) (qup h1 78 0 8))
    (k2 : 0 ≤ s ∧ s < 6 → totOk (mmk h s) → ∀ h1, Fr PM (qup (qup h 78 1 0) 78 0 0) h1 → K (rk (mmk h) (h 135) s 6) h1) : RunI X (d + 2) mX11_rank [(2, 78), (0, s)] sh pt h K := by
  have em1 : mmk (qup (qup h 78 1 0) 78 0 0) = mmk h := by
    funext u t j
    simp [mmk, qup]
  have ew : (qup (qup h 78 1 0) 78 0 0) 135 = h 135 := by
    funext j
    simp [qup]
  have hf1 : mkOk (mmk (qup (qup h 78 1 0) 78 0 0)) := by rw [em1]; exact hf
  have hw1 : wtOk ((qup (qup h 78 1 0) 78 0 0) 135) := by rw [ew]; exact hw
  refine b_X11_rank hst  ?_
  intro h1_ eh1_
  subst eh1_
  intro h2_ eh2_
  subst eh2_
  refine b_X11_isIn hst  ?_
  refine And.intro (fun c3_ => ?_) (fun c3_ => ?_)
  · refine And.intro (fun c_ => absurd c_ (by decide)) (fun _ => ?_)
    refine b_X11_refuse hst  ?_
    intro h4_ eh4_
    subst eh4_
    exact k0 (by omega)
  · refine And.intro (fun c5_ => ?_) (fun c5_ => ?_)
    · refine And.intro (fun c_ => absurd c_ (by decide)) (fun _ => ?_)
      refine b_X11_refuse hst  ?_
      intro h6_ eh6_
      subst eh6_
      exact k0 (by omega)
    · refine And.intro (fun _ => ?_) (fun c_ => absurd c_ (by decide))
      have hs : 0 ≤ s ∧ s < 6 := ⟨by omega, by omega⟩
      refine m_totals hst hs hf1 hw1 (fun z h1 hF hT hB => ⟨fun _ => ?_, fun c => absurd c (by decide)⟩) (fun z h1 hF => ⟨fun c => absurd rfl c, fun _ => b_X11_refuse hst (fun h2 e2 => by rw [e2]; exact k1 hs (by rw [em1] at z; exact z) h1 hF)⟩)
      rw [hT, hB]
      refine m_rank_l hst hs hf1 hw1 (fun h2 hF2 => ?_) 6 0 h1 1 rfl hF rfl
      rw [em1, ew]
      rw [em1] at z
      exact k2 hs z h2 hF2
end
