/-! TRAYS -/
section
variable {X : qX} {d : Nat} {sh : qS} {pt h : qM}
theorem x_fillL_l {K : qM → Prop} {a v n : Int} (hst : St sh pt) (ha : qsh sh a = some (1, n)) (hn : n ≤ 100000) (k : ∀ h1, Fr (fun x i => x = a ∧ 0 ≤ i ∧ i < n) h h1 → (∀ j : Int, 0 ≤ j → j < n → h1 a j = v) → K h1) :
    ∀ (m : Nat) (i : Int) (h1 : qM), i + m = n → 0 ≤ i → Fr (fun x i => x = a ∧ 0 ≤ i ∧ i < n) h h1 → (∀ j : Int, 0 ≤ j → j < i → h1 a j = v) → EvV X d mJ7_fill_d0a16 6 [(2, a), (1, v), (8, -1), (0, i), (0, n)] [] sh pt h1 K := by
  intro m
  induction m with
  | zero =>
    intro i h1 hi h0 hF hv
    exact b_J7_fill_d0a16_6 hst ha ⟨fun _ => k h1 hF (fun j a b => hv j a (by omega)), fun c => absurd c (by omega)⟩
  | succ m ih =>
    intro i h1 hi h0 hF hv1
    refine b_J7_fill_d0a16_6 hst ha ⟨fun c => absurd c (by omega), fun _ => ⟨⟨h0, by omega⟩, fun h2 e2 => ⟨⟨by omega, by omega⟩, ?_⟩⟩⟩
    refine ih (i + 1) h2 (by omega) (by omega) (by rw [e2]; exact hF.up ⟨rfl, h0, by omega⟩) (fun j h0 h1 => ?_)
    rw [e2]
    by_cases e : j = i
    · subst e
      exact qup_at
    · rw [qup_of (fun z => e z.2)]
      exact hv1 j h0 (by omega)
theorem x_fillL {K : qM → Prop} {a v n : Int} (hst : St sh pt) (ha : qsh sh a = some (1, n)) (h0 : 0 ≤ n) (hn : n ≤ 100000) (k : ∀ h1, Fr (fun x i => x = a ∧ 0 ≤ i ∧ i < n) h h1 → (∀ j : Int, 0 ≤ j → j < n → h1 a j = v) → K h1) : RunV X d mJ7_fill_d0a16 [(2, a), (1, v)] sh pt h K :=
  b_J7_fill_d0a16 hst ha (x_fillL_l hst ha hn k n.toNat 0 h (by omega) (by omega) Fr.rf (fun j a b => by omega))
theorem x_fillI_l {K : qM → Prop} {a v n : Int} (hst : St sh pt) (ha : qsh sh a = some (0, n)) (hn : n ≤ 100000) (k : ∀ h1, Fr (fun x i => x = a ∧ 0 ≤ i ∧ i < n) h h1 → (∀ j : Int, 0 ≤ j → j < n → h1 a j = v) → K h1) :
    ∀ (m : Nat) (i : Int) (h1 : qM), i + m = n → 0 ≤ i → Fr (fun x i => x = a ∧ 0 ≤ i ∧ i < n) h h1 → (∀ j : Int, 0 ≤ j → j < i → h1 a j = v) → EvV X d mJ7_fill_53178 5 [(2, a), (0, v), (0, i), (0, n)] [] sh pt h1 K := by
  intro m
  induction m with
  | zero =>
    intro i h1 hi h0 hF hv
    exact b_J7_fill_53178_5 hst ha ⟨fun _ => k h1 hF (fun j a b => hv j a (by omega)), fun c => absurd c (by omega)⟩
  | succ m ih =>
    intro i h1 hi h0 hF hv1
    refine b_J7_fill_53178_5 hst ha ⟨fun c => absurd c (by omega), fun _ => ⟨⟨h0, by omega⟩, fun h2 e2 => ⟨⟨by omega, by omega⟩, ?_⟩⟩⟩
    refine ih (i + 1) h2 (by omega) (by omega) (by rw [e2]; exact hF.up ⟨rfl, h0, by omega⟩) (fun j h0 h1 => ?_)
    rw [e2]
    by_cases e : j = i
    · subst e
      exact qup_at
    · rw [qup_of (fun z => e z.2)]
      exact hv1 j h0 (by omega)
theorem x_fillI {K : qM → Prop} {a v n : Int} (hst : St sh pt) (ha : qsh sh a = some (0, n)) (h0 : 0 ≤ n) (hn : n ≤ 100000) (k : ∀ h1, Fr (fun x i => x = a ∧ 0 ≤ i ∧ i < n) h h1 → (∀ j : Int, 0 ≤ j → j < n → h1 a j = v) → K h1) : RunV X d mJ7_fill_53178 [(2, a), (0, v)] sh pt h K :=
  b_J7_fill_53178 hst ha (x_fillI_l hst ha hn k n.toNat 0 h (by omega) (by omega) Fr.rf (fun j a b => by omega))
theorem x_fillB_l {K : qM → Prop} {a v n : Int} (hst : St sh pt) (ha : qsh sh a = some (2, n)) (hn : n ≤ 100000) (hv : -128 ≤ v ∧ v ≤ 127) (k : ∀ h1, Fr (fun x i => x = a ∧ 0 ≤ i ∧ i < n) h h1 → (∀ j : Int, 0 ≤ j → j < n → h1 a j = v) → K h1) :
    ∀ (m : Nat) (i : Int) (h1 : qM), i + m = n → 0 ≤ i → Fr (fun x i => x = a ∧ 0 ≤ i ∧ i < n) h h1 → (∀ j : Int, 0 ≤ j → j < i → h1 a j = v) → EvV X d mJ7_fill_031fb 5 [(2, a), (0, v), (0, i), (0, n)] [] sh pt h1 K := by
  intro m
  induction m with
  | zero =>
    intro i h1 hi h0 hF hv
    exact b_J7_fill_031fb_5 hst ha ⟨fun _ => k h1 hF (fun j a b => hv j a (by omega)), fun c => absurd c (by omega)⟩
  | succ m ih =>
    intro i h1 hi h0 hF hv1
    refine b_J7_fill_031fb_5 hst ha ⟨fun c => absurd c (by omega), fun _ => ⟨⟨h0, by omega⟩, hv, fun h2 e2 => ⟨⟨by omega, by omega⟩, ?_⟩⟩⟩
    refine ih (i + 1) h2 (by omega) (by omega) (by rw [e2]; exact hF.up ⟨rfl, h0, by omega⟩) (fun j h0 h1 => ?_)
    rw [e2]
    by_cases e : j = i
    · subst e
      exact qup_at
    · rw [qup_of (fun z => e z.2)]
      exact hv1 j h0 (by omega)
theorem x_fillB {K : qM → Prop} {a v n : Int} (hst : St sh pt) (ha : qsh sh a = some (2, n)) (h0 : 0 ≤ n) (hn : n ≤ 100000) (hv : -128 ≤ v ∧ v ≤ 127) (k : ∀ h1, Fr (fun x i => x = a ∧ 0 ≤ i ∧ i < n) h h1 → (∀ j : Int, 0 ≤ j → j < n → h1 a j = v) → K h1) : RunV X d mJ7_fill_031fb [(2, a), (0, v)] sh pt h K :=
  b_J7_fill_031fb hst ha (x_fillB_l hst ha hn hv k n.toNat 0 h (by omega) (by omega) Fr.rf (fun j a b => by omega))
theorem x_tray {K : Int → qM → Prop} {v1 v2 v3 : Int} (hst : St sh pt) (k1 : ¬ (0 ≤ v1 ∧ v1 < 4 ∧ 0 ≤ v2 ∧ v2 ≤ 3) → K 0 (qup h 0 12 1)) (k5 : 0 ≤ v1 ∧ v1 < 4 ∧ 0 ≤ v2 ∧ v2 ≤ 3 → 40 < v3 → K 0 (qup h 0 12 5)) (k6 : 0 ≤ v1 ∧ v1 < 4 ∧ 0 ≤ v2 ∧ v2 ≤ 3 → v3 < 0 → K 0 (qup h 0 12 6))
    (k0 : 0 ≤ v1 ∧ v1 < 4 ∧ 0 ≤ v2 ∧ v2 ≤ 3 → 0 ≤ v3 → v3 ≤ 40 → ∀ h1, Fr (fun a _ => a = 70 + 2 * v1 ∨ a = 71 + 2 * v1) h h1 → h1 (70 + 2 * v1) 1 = 1 → h1 (70 + 2 * v1) 2 = v2 → h1 (70 + 2 * v1) 3 = v3 → (∀ j : Int, 0 ≤ j → j < 40 → h1 (71 + 2 * v1) j = 0) → K 1 (qup h1 0 12 0)) :
    RunI X (d + 2) mX10_tray [(2, 0), (0, v1), (0, v2), (0, v3)] sh pt h K := by
  refine b_X10_tray hst  ?_
  refine b_X10_isTray hst  ?_
  refine And.intro (fun c1_ => ?_) (fun c1_ => ?_)
  · refine And.intro (fun _ => ?_) (fun c_ => absurd c_ (by decide))
    refine b_X10_refuse hst  ?_
    intro h2_ eh2_
    subst eh2_
    refine And.intro (by first | omega | exact ⟨by omega, by omega⟩) ?_
    first | exact k1 (by omega) | exact k5 (by omega) (by omega) | exact k6 (by omega) (by omega)
  · refine And.intro (fun c3_ => ?_) (fun c3_ => ?_)
    · refine And.intro (fun _ => ?_) (fun c_ => absurd c_ (by decide))
      refine b_X10_refuse hst  ?_
      intro h4_ eh4_
      subst eh4_
      refine And.intro (by first | omega | exact ⟨by omega, by omega⟩) ?_
      first | exact k1 (by omega) | exact k5 (by omega) (by omega) | exact k6 (by omega) (by omega)
    · refine And.intro (fun c_ => absurd c_ (by decide)) (fun _ => ?_)
      refine And.intro (fun c5_ => ?_) (fun c5_ => ?_)
      · refine b_X10_refuse hst  ?_
        intro h6_ eh6_
        subst eh6_
        refine And.intro (by first | omega | exact ⟨by omega, by omega⟩) ?_
        first | exact k1 (by omega) | exact k5 (by omega) (by omega) | exact k6 (by omega) (by omega)
      · refine And.intro (fun c7_ => ?_) (fun c7_ => ?_)
        · refine And.intro (fun c8_ => ?_) (fun c8_ => ?_)
          · refine And.intro (fun c9_ => ?_) (fun c9_ => ?_)
            · refine And.intro (by first | omega | exact ⟨by omega, by omega⟩) ?_
              have hw := isW_of (i := v1) (by omega) (by omega)
              have e71 : 70 + 2 * v1 + 1 = 71 + 2 * v1 := by omega
              refine b_X8_lay hst hw (fun h1 e1 h2 e2 h3 e3 => ?_)
              refine x_fillL hst (sW0 hst hw) (by decide) (by decide) (fun h4 hF hz => ?_)
              refine b_X10_agree hst (fun h5 e5 => ⟨by omega, ?_⟩)
              rw [e5]
              have g1 : ∀ i : Int, h4 (70 + 2 * v1) i = h3 (70 + 2 * v1) i := fun i => hF _ _ (by omega)
              rw [e71] at hz
              refine k0 (by omega) (by omega) (by omega) h4 ?_ ?_ ?_ ?_ hz
              · intro a i q
                rw [hF a i (by omega), e3, e2, e1, qup_of (by omega), qup_of (by omega), qup_of (by omega)]
              · rw [g1, e3, e2, e1, qup_of (by omega), qup_of (by omega), qup_at]
              · rw [g1, e3, e2, qup_of (by omega), qup_at]
              · rw [g1, e3, qup_at]
            · refine b_X10_refuse hst  ?_
              intro h10_ eh10_
              subst eh10_
              refine And.intro (by first | omega | exact ⟨by omega, by omega⟩) ?_
              first | exact k1 (by omega) | exact k5 (by omega) (by omega) | exact k6 (by omega) (by omega)
          · refine b_X10_refuse hst  ?_
            intro h11_ eh11_
            subst eh11_
            refine And.intro (by first | omega | exact ⟨by omega, by omega⟩) ?_
            first | exact k1 (by omega) | exact k5 (by omega) (by omega) | exact k6 (by omega) (by omega)
        · refine b_X10_refuse hst  ?_
          intro h12_ eh12_
          subst eh12_
          refine And.intro (by first | omega | exact ⟨by omega, by omega⟩) ?_
          first | exact k1 (by omega) | exact k5 (by omega) (by omega) | exact k6 (by omega) (by omega)
theorem m_tray_l {K : Int → qM → Prop} {v1 v3 : Int} (hst : St sh pt) (h1 : 0 ≤ v1 ∧ v1 < 4) (h3 : v3 ≤ 40) (k : ∀ h1, Fr (fun a i => a = 81 ∧ 40 * v1 ≤ i ∧ i < 40 * v1 + v3) h h1 → (∀ j : Int, 0 ≤ j → j < v3 → h1 81 (40 * v1 + j) = 0) → K 1 h1) :
    ∀ (m : Nat) (i : Int) (h1 : qM), i + m = v3 → 0 ≤ i → Fr (fun a i => a = 81 ∧ 40 * v1 ≤ i ∧ i < 40 * v1 + v3) h h1 → (∀ j : Int, 0 ≤ j → j < i → h1 81 (40 * v1 + j) = 0) → EvI X (d + 1) mX11_tray 74 [(2, 78), (0, v1), (8, -1), (0, v3), (0, i)] [] sh pt h1 K := by
  intro m
  induction m with
  | zero =>
    intro i h1 hi h0 hF hv
    exact b_X11_tray_74 hst ⟨fun _ => k h1 hF (fun j a b => hv j a (by omega)), fun c => absurd c (by omega)⟩
  | succ m ih =>
    intro i h1 hi h0 hF hv
    refine b_X11_tray_74 hst ⟨fun c => absurd c (by omega), fun _ => ⟨⟨by omega, by omega⟩, ⟨by omega, by omega⟩, by omega, fun h2 e2 => ⟨⟨by omega, by omega⟩, ?_⟩⟩⟩
    refine ih (i + 1) h2 (by omega) (by omega) (by rw [e2]; exact hF.up ⟨rfl, by omega, by omega⟩) (fun j h0 h1 => ?_)
    rw [e2]
    by_cases e : j = i
    · subst e
      exact qup_at
    · rw [qup_of (by omega)]
      exact hv j h0 (by omega)
theorem m_tray {K : Int → qM → Prop} {v1 v2 v3 : Int} (hst : St sh pt) (k1 : ¬ (0 ≤ v1 ∧ v1 < 4 ∧ 0 ≤ v2 ∧ v2 ≤ 3) → K 0 (qup (qup (qup h 78 1 0) 78 0 0) 78 0 1)) (k5 : 0 ≤ v1 ∧ v1 < 4 ∧ 0 ≤ v2 ∧ v2 ≤ 3 → 40 < v3 → K 0 (qup (qup (qup h 78 1 0) 78 0 0) 78 0 5)) (k6 : 0 ≤ v1 ∧ v1 < 4 ∧ 0 ≤ v2 ∧ v2 ≤ 3 → v3 < 0 → K 0 (qup (qup (qup h 78 1 0) 78 0 0) 78 0 6))
    (k0 : 0 ≤ v1 ∧ v1 < 4 ∧ 0 ≤ v2 ∧ v2 ≤ 3 → 0 ≤ v3 → v3 ≤ 40 → ∀ h1, Fr (fun a i => a = 81 ∧ 40 * v1 ≤ i ∧ i < 40 * v1 + v3) (qup (qup (qup (qup h 78 1 0) 78 0 0) 79 v1 v2) 80 v1 v3) h1 → (∀ j : Int, 0 ≤ j → j < v3 → h1 81 (40 * v1 + j) = 0) → K 1 h1) :
    RunI X (d + 1) mX11_tray [(2, 78), (0, v1), (0, v2), (0, v3)] sh pt h K := by
  refine b_X11_tray hst  ?_
  intro h1_ eh1_
  subst eh1_
  intro h2_ eh2_
  subst eh2_
  refine And.intro (fun c3_ => ?_) (fun c3_ => ?_)
  · refine b_X11_no hst  ?_
    intro h4_ eh4_
    subst eh4_
    refine And.intro (by first | omega | exact ⟨by omega, by omega⟩) ?_
    first | exact k1 (by omega) | exact k5 (by omega) (by omega) | exact k6 (by omega) (by omega)
  · refine And.intro (fun c5_ => ?_) (fun c5_ => ?_)
    · refine b_X11_no hst  ?_
      intro h6_ eh6_
      subst eh6_
      refine And.intro (by first | omega | exact ⟨by omega, by omega⟩) ?_
      first | exact k1 (by omega) | exact k5 (by omega) (by omega) | exact k6 (by omega) (by omega)
    · refine And.intro (fun c7_ => ?_) (fun c7_ => ?_)
      · refine b_X11_no hst  ?_
        intro h8_ eh8_
        subst eh8_
        refine And.intro (by first | omega | exact ⟨by omega, by omega⟩) ?_
        first | exact k1 (by omega) | exact k5 (by omega) (by omega) | exact k6 (by omega) (by omega)
      · refine And.intro (fun c9_ => ?_) (fun c9_ => ?_)
        · refine And.intro (fun c10_ => ?_) (fun c10_ => ?_)
          · refine And.intro (fun c11_ => ?_) (fun c11_ => ?_)
            · refine And.intro (by first | omega | exact ⟨by omega, by omega⟩) ?_
              intro h12_ eh12_
              subst eh12_
              refine And.intro (by first | omega | exact ⟨by omega, by omega⟩) ?_
              intro h13_ eh13_
              subst eh13_
              exact m_tray_l hst (by omega) (by omega) (fun h1 hF hz => k0 (by omega) (by omega) (by omega) h1 hF hz) v3.toNat 0 _ (by omega) (by omega) Fr.rf (fun j a b => by omega)
            · refine b_X11_no hst  ?_
              intro h14_ eh14_
              subst eh14_
              refine And.intro (by first | omega | exact ⟨by omega, by omega⟩) ?_
              first | exact k1 (by omega) | exact k5 (by omega) (by omega) | exact k6 (by omega) (by omega)
          · refine b_X11_no hst  ?_
            intro h15_ eh15_
            subst eh15_
            refine And.intro (by first | omega | exact ⟨by omega, by omega⟩) ?_
            first | exact k1 (by omega) | exact k5 (by omega) (by omega) | exact k6 (by omega) (by omega)
        · refine b_X11_no hst  ?_
          intro h16_ eh16_
          subst eh16_
          refine And.intro (by first | omega | exact ⟨by omega, by omega⟩) ?_
          first | exact k1 (by omega) | exact k5 (by omega) (by omega) | exact k6 (by omega) (by omega)
def qcut (s v : Int) : Int := if s = 0 then qi2b (ql2i v) else if s = 1 then qi2s (ql2i v) else if s = 2 then ql2i v else v
/-- what a place of a tray is: 0 fine -/
def plst (laid many v1 v2 : Int) : Int := if ¬ (0 ≤ v1 ∧ v1 < 4) then 1 else if laid = 0 then 3 else if 0 ≤ v2 ∧ v2 < many then 0 else 4
theorem x_place {K : Int → qM → Prop} {v1 v2 : Int} (hst : St sh pt) (hm : 0 ≤ v1 → v1 < 4 → 0 ≤ h (70 + 2 * v1) 3 ∧ h (70 + 2 * v1) 3 ≤ 40) (k : K (plst (h (70 + 2 * v1) 1) (h (70 + 2 * v1) 3) v1 v2) h) : RunI X (d + 1) mX10_placeStatus [(2, 0), (0, v1), (0, v2)] sh pt h K := by
  unfold plst at k
  refine b_X10_placeStatus hst  ?_
  refine b_X10_isTray hst  ?_
  refine And.intro (fun c1_ => ?_) (fun c1_ => ?_)
  · refine And.intro (fun c_ => absurd c_ (by decide)) (fun _ => ?_)
    first | (rw [if_pos (by omega)] at k; exact k) | (rw [if_neg (by omega), if_pos (by omega)] at k; exact k) | (rw [if_neg (by omega), if_neg (by omega), if_pos (by omega)] at k; exact k) | (rw [if_neg (by omega), if_neg (by omega), if_neg (by omega)] at k; exact k)
  · refine And.intro (fun c2_ => ?_) (fun c2_ => ?_)
    · refine And.intro (fun c_ => absurd c_ (by decide)) (fun _ => ?_)
      first | (rw [if_pos (by omega)] at k; exact k) | (rw [if_neg (by omega), if_pos (by omega)] at k; exact k) | (rw [if_neg (by omega), if_neg (by omega), if_pos (by omega)] at k; exact k) | (rw [if_neg (by omega), if_neg (by omega), if_neg (by omega)] at k; exact k)
    · refine And.intro (fun _ => ?_) (fun c_ => absurd c_ (by decide))
      refine And.intro (by first | omega | exact ⟨by omega, by omega⟩ | (have := hm (by omega) (by omega); exact ⟨by omega, by omega⟩)) ?_
      refine And.intro (fun c3_ => ?_) (fun c3_ => ?_)
      · refine And.intro (by first | omega | exact ⟨by omega, by omega⟩ | (have := hm (by omega) (by omega); exact ⟨by omega, by omega⟩)) ?_
        refine b_X8_hasRange hst (isW_of (i := v1) (by omega) (by omega)) ?_
        refine And.intro (fun c4_ => ?_) (fun c4_ => ?_)
        · refine And.intro (fun _ => ?_) (fun c_ => absurd c_ (by decide))
          first | (rw [if_pos (by omega)] at k; exact k) | (rw [if_neg (by omega), if_pos (by omega)] at k; exact k) | (rw [if_neg (by omega), if_neg (by omega), if_pos (by omega)] at k; exact k) | (rw [if_neg (by omega), if_neg (by omega), if_neg (by omega)] at k; exact k)
        · refine And.intro (by first | omega | exact ⟨by omega, by omega⟩ | (have := hm (by omega) (by omega); exact ⟨by omega, by omega⟩)) ?_
          refine And.intro (fun c5_ => ?_) (fun c5_ => ?_)
          · refine And.intro (fun _ => ?_) (fun c_ => absurd c_ (by decide))
            first | (rw [if_pos (by omega)] at k; exact k) | (rw [if_neg (by omega), if_pos (by omega)] at k; exact k) | (rw [if_neg (by omega), if_neg (by omega), if_pos (by omega)] at k; exact k) | (rw [if_neg (by omega), if_neg (by omega), if_neg (by omega)] at k; exact k)
          · refine And.intro (fun c_ => absurd c_ (by decide)) (fun _ => ?_)
            first | (rw [if_pos (by omega)] at k; exact k) | (rw [if_neg (by omega), if_pos (by omega)] at k; exact k) | (rw [if_neg (by omega), if_neg (by omega), if_pos (by omega)] at k; exact k) | (rw [if_neg (by omega), if_neg (by omega), if_neg (by omega)] at k; exact k)
      · first | (rw [if_pos (by omega)] at k; exact k) | (rw [if_neg (by omega), if_pos (by omega)] at k; exact k) | (rw [if_neg (by omega), if_neg (by omega), if_pos (by omega)] at k; exact k) | (rw [if_neg (by omega), if_neg (by omega), if_neg (by omega)] at k; exact k)
theorem x_write {K : Int → qM → Prop} {v1 v2 v3 : Int} (hst : St sh pt) (hm : 0 ≤ v1 → v1 < 4 → (0 ≤ h (70 + 2 * v1) 3 ∧ h (70 + 2 * v1) 3 ≤ 40) ∧ 0 ≤ h (70 + 2 * v1) 2 ∧ h (70 + 2 * v1) 2 ≤ 3)
    (k1 : plst (h (70 + 2 * v1) 1) (h (70 + 2 * v1) 3) v1 v2 ≠ 0 → K 0 (qup h 0 12 (plst (h (70 + 2 * v1) 1) (h (70 + 2 * v1) 3) v1 v2))) (k0 : plst (h (70 + 2 * v1) 1) (h (70 + 2 * v1) 3) v1 v2 = 0 → K 1 (qup (qup h (71 + 2 * v1) v2 (qcut (h (70 + 2 * v1) 2) v3)) 0 12 0)) :
    RunI X (d + 3) mX10_write [(2, 0), (0, v1), (0, v2), (1, v3)] sh pt h K := by
  refine b_X10_write hst (x_place hst (fun a b => (hm a b).1) ⟨fun c => ?_, fun c => ?_⟩)
  · have c2 := c
    unfold plst at c2
    have hp : (0 ≤ v1 ∧ v1 < 4) ∧ 0 ≤ v2 ∧ v2 < h (70 + 2 * v1) 3 := by
      split at c2
      · omega
      · split at c2
        · omega
        · split at c2 <;> omega
    have hm1 := hm hp.1.1 hp.1.2
    have hw := isW_of hp.1.1 hp.1.2
    have e71 : 70 + 2 * v1 + 1 = 71 + 2 * v1 := by omega
    have k0 := k0 c
    refine ⟨hp.1, b_X8_put hst hw ?_⟩
    have fin : ∀ r : Int, r = qcut (h (70 + 2 * v1) 2) v3 → (0 ≤ v2 ∧ v2 < 40) ∧ ∀ h4 : qM, h4 = qup h (70 + 2 * v1 + 1) v2 r → RunI X (d + 2) mX10_agree [(2, 0)] sh pt h4 (fun r6 h5 => (0 ≤ r6 ∧ r6 ≤ 1) ∧ K r6 h5) := by
      intro r er
      refine ⟨by omega, fun h4 e4 => b_X10_agree hst (fun h5 e5 => ⟨by omega, ?_⟩)⟩
      rw [e5, e4, er, e71]
      exact k0
    unfold qcut at fin
    refine b_X8_cut hst hw ⟨fun c => fin _ ?_, fun c => fin _ ?_, fun c => fin _ ?_, fun c => fin _ ?_⟩
    · rw [if_pos c]
    · rw [if_neg (by omega), if_pos c]
    · rw [if_neg (by omega), if_neg (by omega), if_pos c]
    · rw [if_neg (by omega), if_neg (by omega), if_neg (by omega)]
  · exact b_X10_refuse hst (fun h1 e1 => ⟨by omega, by rw [e1]; exact k1 c⟩)
theorem x_read {K : Int → qM → Prop} {v1 v2 : Int} (hst : St sh pt) (hm : 0 ≤ v1 → v1 < 4 → 0 ≤ h (70 + 2 * v1) 3 ∧ h (70 + 2 * v1) 3 ≤ 40)
    (k1 : plst (h (70 + 2 * v1) 1) (h (70 + 2 * v1) 3) v1 v2 ≠ 0 → K (-1) (qup h 0 12 (plst (h (70 + 2 * v1) 1) (h (70 + 2 * v1) 3) v1 v2))) (k0 : plst (h (70 + 2 * v1) 1) (h (70 + 2 * v1) 3) v1 v2 = 0 → K (h (71 + 2 * v1) v2) (qup h 0 12 0)) :
    RunL X (d + 2) mX10_read [(2, 0), (0, v1), (0, v2)] sh pt h K := by
  refine b_X10_read hst (x_place hst hm ⟨fun c => fun h1 e1 => ?_, fun c => ?_⟩)
  · have c2 := c
    unfold plst at c2
    have hp : (0 ≤ v1 ∧ v1 < 4) ∧ 0 ≤ v2 ∧ v2 < h (70 + 2 * v1) 3 := by
      split at c2
      · omega
      · split at c2
        · omega
        · split at c2 <;> omega
    have hm1 := hm hp.1.1 hp.1.2
    have e71 : 70 + 2 * v1 + 1 = 71 + 2 * v1 := by omega
    refine ⟨hp.1, by omega, ?_⟩
    rw [e1, qup_of (by omega), e71]
    exact k0 c
  · exact b_X10_none hst (fun h1 e1 => by rw [e1]; exact k1 c)
end
