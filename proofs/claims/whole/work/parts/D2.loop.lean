/-! the law: its loop -/
section
variable {X : qX} {D : Nat} {sh : qS} {pt h : qM}
theorem cI {y y2 : qMT} {A A2 : List qV} {E : qS → qM → qM → Prop} (hst : St sh pt) (bk : ∀ h2, Inv sh pt h2 → E sh pt h2) (k : RunI X D y A sh pt h (fun r h1 => RunI X D y2 A2 sh pt h1 (fun r1 h2 => r1 = r ∧ Inv sh pt h2))) : Run X D 0 0 y A (sh, pt, h) (fun r g => ∃ v sh1 pt1 h1, r = some (0, v) ∧ g = (sh1, pt1, h1) ∧ St sh1 pt1 ∧ RunI X D y2 A2 sh1 pt1 h1 (fun v1 h2 => v1 = v ∧ E sh1 pt1 h2)) :=
  Ev.mono (fun _ _ ⟨v, h1, e1, e2, z⟩ => ⟨v, sh, pt, h1, e1, e2, hst, RunI.mono (fun _ h2 q => ⟨q.1, bk h2 q.2⟩) z⟩) k
theorem cL {y y2 : qMT} {A A2 : List qV} {E : qS → qM → qM → Prop} (hst : St sh pt) (bk : ∀ h2, Inv sh pt h2 → E sh pt h2) (k : RunL X D y A sh pt h (fun r h1 => RunL X D y2 A2 sh pt h1 (fun r1 h2 => r1 = r ∧ Inv sh pt h2))) : Run X D 0 0 y A (sh, pt, h) (fun r g => ∃ v sh1 pt1 h1, r = some (1, v) ∧ g = (sh1, pt1, h1) ∧ St sh1 pt1 ∧ RunL X D y2 A2 sh1 pt1 h1 (fun v1 h2 => v1 = v ∧ E sh1 pt1 h2)) :=
  Ev.mono (fun _ _ ⟨v, h1, e1, e2, z⟩ => ⟨v, sh, pt, h1, e1, e2, hst, RunL.mono (fun _ h2 q => ⟨q.1, bk h2 q.2⟩) z⟩) k
theorem cP {y y2 : qMT} {A A2 : List qV} {E : qS → qM → qM → Prop} (bk : ∀ pt1 h2, (∀ i, pt1 28 i = pt 28 i) → Inv sh pt1 h2 → E sh pt1 h2) (k : Run X D 0 0 y A (sh, pt, h) (fun r g => ∃ r1 pt1 h1, r = some (0, r1) ∧ g = (sh, pt1, h1) ∧ (∀ i, pt1 28 i = pt 28 i) ∧ St sh pt1 ∧ RunI X D y2 A2 sh pt1 h1 (fun r2 h2 => r2 = r1 ∧ Inv sh pt1 h2))) : Run X D 0 0 y A (sh, pt, h) (fun r g => ∃ v sh1 pt1 h1, r = some (0, v) ∧ g = (sh1, pt1, h1) ∧ St sh1 pt1 ∧ RunI X D y2 A2 sh1 pt1 h1 (fun v1 h2 => v1 = v ∧ E sh1 pt1 h2)) :=
  Ev.mono (fun _ _ ⟨v, pt1, h1, e1, e2, p28, st1, z⟩ => ⟨v, sh, pt1, h1, e1, e2, st1, RunI.mono (fun _ h2 q => ⟨q.1, bk pt1 h2 p28 q.2⟩) z⟩) k
end
section
variable {X : qX} {d : Nat} {Q : Option qV → qG → Prop}
/-- what is left of the room: nothing where the rows of the way are made, and else theirs -/
def lBu (sh : qS) (pt : qM) (rc rs : Nat) : Prop := Sw sh pt ∨ (3 ≤ rc ∧ 57600 ≤ rs)
theorem law_case {sh : qS} {pt h : qM} {rc rs : Nat} {s : Int} (hq : ∀ j, qI (X.2.2 j)) (hl : lHd X s) (v : Inv sh pt h) (bu : lBu sh pt rc rs) (bk : ∀ sh1 pt1 h2 rc1 rs1, Inv sh1 pt1 h2 → lBu sh1 pt1 rc1 rs1 → Ev X (d + 21 + 1) rc1 rs1 mL_law 1379 [(2, -2), (2, 0), (2, 78), (0, s)] [] (sh1, pt1, h2) Q) :
    Ev X (d + 21 + 1) rc rs mL_law 184 [(2, -2), (2, 0), (2, 78), (0, s)] [] (sh, pt, h) Q ∧ Ev X (d + 21 + 1) rc rs mL_law 197 [(2, -2), (2, 0), (2, 78), (0, s)] [] (sh, pt, h) Q ∧ Ev X (d + 21 + 1) rc rs mL_law 240 [(2, -2), (2, 0), (2, 78), (0, s)] [] (sh, pt, h) Q ∧ Ev X (d + 21 + 1) rc rs mL_law 313 [(2, -2), (2, 0), (2, 78), (0, s)] [] (sh, pt, h) Q ∧ Ev X (d + 21 + 1) rc rs mL_law 347 [(2, -2), (2, 0), (2, 78), (0, s)] [] (sh, pt, h) Q ∧ Ev X (d + 21 + 1) rc rs mL_law 410 [(2, -2), (2, 0), (2, 78), (0, s)] [] (sh, pt, h) Q ∧ Ev X (d + 21 + 1) rc rs mL_law 453 [(2, -2), (2, 0), (2, 78), (0, s)] [] (sh, pt, h) Q ∧ Ev X (d + 21 + 1) rc rs mL_law 486 [(2, -2), (2, 0), (2, 78), (0, s)] [] (sh, pt, h) Q ∧ Ev X (d + 21 + 1) rc rs mL_law 549 [(2, -2), (2, 0), (2, 78), (0, s)] [] (sh, pt, h) Q ∧ Ev X (d + 21 + 1) rc rs mL_law 572 [(2, -2), (2, 0), (2, 78), (0, s)] [] (sh, pt, h) Q ∧ Ev X (d + 21 + 1) rc rs mL_law 635 [(2, -2), (2, 0), (2, 78), (0, s)] [] (sh, pt, h) Q ∧ Ev X (d + 21 + 1) rc rs mL_law 658 [(2, -2), (2, 0), (2, 78), (0, s)] [] (sh, pt, h) Q ∧ Ev X (d + 21 + 1) rc rs mL_law 681 [(2, -2), (2, 0), (2, 78), (0, s)] [] (sh, pt, h) Q ∧ Ev X (d + 21 + 1) rc rs mL_law 694 [(2, -2), (2, 0), (2, 78), (0, s)] [] (sh, pt, h) Q ∧ Ev X (d + 21 + 1) rc rs mL_law 717 [(2, -2), (2, 0), (2, 78), (0, s)] [] (sh, pt, h) Q ∧ Ev X (d + 21 + 1) rc rs mL_law 760 [(2, -2), (2, 0), (2, 78), (0, s)] [] (sh, pt, h) Q ∧ Ev X (d + 21 + 1) rc rs mL_law 783 [(2, -2), (2, 0), (2, 78), (0, s)] [] (sh, pt, h) Q ∧ Ev X (d + 21 + 1) rc rs mL_law 816 [(2, -2), (2, 0), (2, 78), (0, s)] [] (sh, pt, h) Q ∧ Ev X (d + 21 + 1) rc rs mL_law 849 [(2, -2), (2, 0), (2, 78), (0, s)] [] (sh, pt, h) Q ∧ Ev X (d + 21 + 1) rc rs mL_law 882 [(2, -2), (2, 0), (2, 78), (0, s)] [] (sh, pt, h) Q ∧ Ev X (d + 21 + 1) rc rs mL_law 925 [(2, -2), (2, 0), (2, 78), (0, s)] [] (sh, pt, h) Q ∧ Ev X (d + 21 + 1) rc rs mL_law 968 [(2, -2), (2, 0), (2, 78), (0, s)] [] (sh, pt, h) Q ∧ Ev X (d + 21 + 1) rc rs mL_law 991 [(2, -2), (2, 0), (2, 78), (0, s)] [] (sh, pt, h) Q ∧ Ev X (d + 21 + 1) rc rs mL_law 1044 [(2, -2), (2, 0), (2, 78), (0, s)] [] (sh, pt, h) Q ∧ Ev X (d + 21 + 1) rc rs mL_law 1067 [(2, -2), (2, 0), (2, 78), (0, s)] [] (sh, pt, h) Q ∧ Ev X (d + 21 + 1) rc rs mL_law 1090 [(2, -2), (2, 0), (2, 78), (0, s)] [] (sh, pt, h) Q ∧ Ev X (d + 21 + 1) rc rs mL_law 1143 [(2, -2), (2, 0), (2, 78), (0, s)] [] (sh, pt, h) Q ∧ Ev X (d + 21 + 1) rc rs mL_law 1176 [(2, -2), (2, 0), (2, 78), (0, s)] [] (sh, pt, h) Q ∧ Ev X (d + 21 + 1) rc rs mL_law 1219 [(2, -2), (2, 0), (2, 78), (0, s)] [] (sh, pt, h) Q ∧ Ev X (d + 21 + 1) rc rs mL_law 1272 [(2, -2), (2, 0), (2, 78), (0, s)] [] (sh, pt, h) Q ∧ Ev X (d + 21 + 1) rc rs mL_law 1305 [(2, -2), (2, 0), (2, 78), (0, s)] [] (sh, pt, h) Q ∧ Ev X (d + 21 + 1) rc rs mL_law 1328 [(2, -2), (2, 0), (2, 78), (0, s)] [] (sh, pt, h) Q ∧ Ev X (d + 21 + 1) rc rs mL_law 1342 [(2, -2), (2, 0), (2, 78), (0, s)] [] (sh, pt, h) Q ∧ Ev X (d + 21 + 1) rc rs mL_law 1356 [(2, -2), (2, 0), (2, 78), (0, s)] [] (sh, pt, h) Q := by
  have hst : St sh pt := by
    obtain ⟨_, _, _, _, z⟩ := id v
    exact z.2.1
  have b0 : ∀ h2, Inv sh pt h2 → Ev X (d + 21 + 1) rc rs mL_law 1379 [(2, -2), (2, 0), (2, 78), (0, s)] [] (sh, pt, h2) Q := fun h2 z => bk sh pt h2 rc rs z bu
  have b1 : ∀ pt1 h2, (∀ i, pt1 28 i = pt 28 i) → Inv sh pt1 h2 → Ev X (d + 21 + 1) rc rs mL_law 1379 [(2, -2), (2, 0), (2, 78), (0, s)] [] (sh, pt1, h2) Q := fun pt1 h2 p28 z => bk sh pt1 h2 rc rs z (by
    rcases bu with w | w
    · exact Or.inl (Sw_pt w p28)
    · exact Or.inr w)
  have k0 : Ev X (d + 21 + 1) rc rs mL_law 184 [(2, -2), (2, 0), (2, 78), (0, s)] [] (sh, pt, h) Q := l_status (mc := 0) (ms := 0) hl hst (cI (E := fun sh1 pt1 h2 => Ev X (d + 21 + 1) rc rs mL_law 1379 [(2, -2), (2, 0), (2, 78), (0, s)] [] (sh1, pt1, h2) Q) hst b0 (p_status v))
  have k1 : Ev X (d + 21 + 1) rc rs mL_law 197 [(2, -2), (2, 0), (2, 78), (0, s)] [] (sh, pt, h) Q := l_tray (mc := 0) (ms := 0) hl hst (cI (E := fun sh1 pt1 h2 => Ev X (d + 21 + 1) rc rs mL_law 1379 [(2, -2), (2, 0), (2, 78), (0, s)] [] (sh1, pt1, h2) Q) hst b0 (p_tray v))
  have k2 : Ev X (d + 21 + 1) rc rs mL_law 240 [(2, -2), (2, 0), (2, 78), (0, s)] [] (sh, pt, h) Q := l_write (mc := 0) (ms := 0) hl hst (cI (E := fun sh1 pt1 h2 => Ev X (d + 21 + 1) rc rs mL_law 1379 [(2, -2), (2, 0), (2, 78), (0, s)] [] (sh1, pt1, h2) Q) hst b0 (p_write v))
  have k3 : Ev X (d + 21 + 1) rc rs mL_law 313 [(2, -2), (2, 0), (2, 78), (0, s)] [] (sh, pt, h) Q := l_read (mc := 0) (ms := 0) hl hst (cL (E := fun sh1 pt1 h2 => Ev X (d + 21 + 1) rc rs mL_law 1379 [(2, -2), (2, 0), (2, 78), (0, s)] [] (sh1, pt1, h2) Q) hst b0 (p_read v))
  have k4 : Ev X (d + 21 + 1) rc rs mL_law 347 [(2, -2), (2, 0), (2, 78), (0, s)] [] (sh, pt, h) Q := l_pour (mc := 0) (ms := 0) hl hst (cI (E := fun sh1 pt1 h2 => Ev X (d + 21 + 1) rc rs mL_law 1379 [(2, -2), (2, 0), (2, 78), (0, s)] [] (sh1, pt1, h2) Q) hst b0 (p_pour (hq _) (hq _) (hq _) v))
  have k5 : Ev X (d + 21 + 1) rc rs mL_law 410 [(2, -2), (2, 0), (2, 78), (0, s)] [] (sh, pt, h) Q := l_marcher (mc := 0) (ms := 0) hl hst (cI (E := fun sh1 pt1 h2 => Ev X (d + 21 + 1) rc rs mL_law 1379 [(2, -2), (2, 0), (2, 78), (0, s)] [] (sh1, pt1, h2) Q) hst b0 (p_marcher v))
  have k6 : Ev X (d + 21 + 1) rc rs mL_law 453 [(2, -2), (2, 0), (2, 78), (0, s)] [] (sh, pt, h) Q := l_prop (mc := 0) (ms := 0) hl hst (cI (E := fun sh1 pt1 h2 => Ev X (d + 21 + 1) rc rs mL_law 1379 [(2, -2), (2, 0), (2, 78), (0, s)] [] (sh1, pt1, h2) Q) hst b0 (p_prop v))
  have k7 : Ev X (d + 21 + 1) rc rs mL_law 486 [(2, -2), (2, 0), (2, 78), (0, s)] [] (sh, pt, h) Q := l_group (mc := 0) (ms := 0) hl hst (cI (E := fun sh1 pt1 h2 => Ev X (d + 21 + 1) rc rs mL_law 1379 [(2, -2), (2, 0), (2, 78), (0, s)] [] (sh1, pt1, h2) Q) hst b0 (p_group (hq _) v))
  have k8 : Ev X (d + 21 + 1) rc rs mL_law 549 [(2, -2), (2, 0), (2, 78), (0, s)] [] (sh, pt, h) Q := l_steps (mc := 0) (ms := 0) hl hst (cI (E := fun sh1 pt1 h2 => Ev X (d + 21 + 1) rc rs mL_law 1379 [(2, -2), (2, 0), (2, 78), (0, s)] [] (sh1, pt1, h2) Q) hst b0 (p_steps v))
  have k9 : Ev X (d + 21 + 1) rc rs mL_law 572 [(2, -2), (2, 0), (2, 78), (0, s)] [] (sh, pt, h) Q := l_feed (mc := 0) (ms := 0) hl hst (cI (E := fun sh1 pt1 h2 => Ev X (d + 21 + 1) rc rs mL_law 1379 [(2, -2), (2, 0), (2, 78), (0, s)] [] (sh1, pt1, h2) Q) hst b0 (p_feed (hq _) (hq _) (hq _) (hq _) (hq _) v))
  have k10 : Ev X (d + 21 + 1) rc rs mL_law 635 [(2, -2), (2, 0), (2, 78), (0, s)] [] (sh, pt, h) Q := l_orders (mc := 0) (ms := 0) hl hst (cP (E := fun sh1 pt1 h2 => Ev X (d + 21 + 1) rc rs mL_law 1379 [(2, -2), (2, 0), (2, 78), (0, s)] [] (sh1, pt1, h2) Q) b1 (p_orders v))
  have k11 : Ev X (d + 21 + 1) rc rs mL_law 658 [(2, -2), (2, 0), (2, 78), (0, s)] [] (sh, pt, h) Q := l_fault (mc := 0) (ms := 0) hl hst (cI (E := fun sh1 pt1 h2 => Ev X (d + 21 + 1) rc rs mL_law 1379 [(2, -2), (2, 0), (2, 78), (0, s)] [] (sh1, pt1, h2) Q) hst b0 (p_fault v))
  have k12 : Ev X (d + 21 + 1) rc rs mL_law 681 [(2, -2), (2, 0), (2, 78), (0, s)] [] (sh, pt, h) Q := l_run (mc := 0) (ms := 0) hl hst (cP (E := fun sh1 pt1 h2 => Ev X (d + 21 + 1) rc rs mL_law 1379 [(2, -2), (2, 0), (2, 78), (0, s)] [] (sh1, pt1, h2) Q) b1 (p_run v))
  have k13 : Ev X (d + 21 + 1) rc rs mL_law 694 [(2, -2), (2, 0), (2, 78), (0, s)] [] (sh, pt, h) Q := l_error (mc := 0) (ms := 0) hl hst (cI (E := fun sh1 pt1 h2 => Ev X (d + 21 + 1) rc rs mL_law 1379 [(2, -2), (2, 0), (2, 78), (0, s)] [] (sh1, pt1, h2) Q) hst b0 (p_error v))
  have k14 : Ev X (d + 21 + 1) rc rs mL_law 717 [(2, -2), (2, 0), (2, 78), (0, s)] [] (sh, pt, h) Q := l_at (mc := 0) (ms := 0) hl hst (cI (E := fun sh1 pt1 h2 => Ev X (d + 21 + 1) rc rs mL_law 1379 [(2, -2), (2, 0), (2, 78), (0, s)] [] (sh1, pt1, h2) Q) hst b0 (p_at v))
  have k15 : Ev X (d + 21 + 1) rc rs mL_law 760 [(2, -2), (2, 0), (2, 78), (0, s)] [] (sh, pt, h) Q := l_told (mc := 0) (ms := 0) hl hst (cI (E := fun sh1 pt1 h2 => Ev X (d + 21 + 1) rc rs mL_law 1379 [(2, -2), (2, 0), (2, 78), (0, s)] [] (sh1, pt1, h2) Q) hst b0 (p_told v))
  have k16 : Ev X (d + 21 + 1) rc rs mL_law 783 [(2, -2), (2, 0), (2, 78), (0, s)] [] (sh, pt, h) Q := l_clash (mc := 0) (ms := 0) hl hst (cI (E := fun sh1 pt1 h2 => Ev X (d + 21 + 1) rc rs mL_law 1379 [(2, -2), (2, 0), (2, 78), (0, s)] [] (sh1, pt1, h2) Q) hst b0 (p_clash (hq _) v))
  have k17 : Ev X (d + 21 + 1) rc rs mL_law 816 [(2, -2), (2, 0), (2, 78), (0, s)] [] (sh, pt, h) Q := l_dressed (mc := 0) (ms := 0) hl hst (cI (E := fun sh1 pt1 h2 => Ev X (d + 21 + 1) rc rs mL_law 1379 [(2, -2), (2, 0), (2, 78), (0, s)] [] (sh1, pt1, h2) Q) hst b0 (p_dressed v))
  have k18 : Ev X (d + 21 + 1) rc rs mL_law 849 [(2, -2), (2, 0), (2, 78), (0, s)] [] (sh, pt, h) Q := l_like (mc := 0) (ms := 0) hl hst (cI (E := fun sh1 pt1 h2 => Ev X (d + 21 + 1) rc rs mL_law 1379 [(2, -2), (2, 0), (2, 78), (0, s)] [] (sh1, pt1, h2) Q) hst b0 (p_like v))
  have k19 : Ev X (d + 21 + 1) rc rs mL_law 882 [(2, -2), (2, 0), (2, 78), (0, s)] [] (sh, pt, h) Q := l_seen (mc := 0) (ms := 0) hl hst (cI (E := fun sh1 pt1 h2 => Ev X (d + 21 + 1) rc rs mL_law 1379 [(2, -2), (2, 0), (2, 78), (0, s)] [] (sh1, pt1, h2) Q) hst b0 (p_seen v))
  have k20 : Ev X (d + 21 + 1) rc rs mL_law 925 [(2, -2), (2, 0), (2, 78), (0, s)] [] (sh, pt, h) Q := l_goes (mc := 0) (ms := 0) hl hst (cI (E := fun sh1 pt1 h2 => Ev X (d + 21 + 1) rc rs mL_law 1379 [(2, -2), (2, 0), (2, 78), (0, s)] [] (sh1, pt1, h2) Q) hst b0 (p_goes v))
  have k21 : Ev X (d + 21 + 1) rc rs mL_law 968 [(2, -2), (2, 0), (2, 78), (0, s)] [] (sh, pt, h) Q := l_spotOf (mc := 0) (ms := 0) hl hst (cI (E := fun sh1 pt1 h2 => Ev X (d + 21 + 1) rc rs mL_law 1379 [(2, -2), (2, 0), (2, 78), (0, s)] [] (sh1, pt1, h2) Q) hst b0 (p_spotOf v))
  have k22 : Ev X (d + 21 + 1) rc rs mL_law 991 [(2, -2), (2, 0), (2, 78), (0, s)] [] (sh, pt, h) Q := by
    by_cases sw : Sw sh pt
    · exact l_path (mc := 0) (ms := 0) hl hst (Ev.mono (fun _ _ ⟨r1, sh1, pt1, h1, e1, e2, w1, w2, st1, z⟩ => ⟨r1, sh1, pt1, h1, e1, e2, st1, RunI.mono (fun _ h2 q => ⟨q.1, bk sh1 pt1 h2 rc rs q.2 (Or.inl (w1 sw))⟩) z⟩) (p_path v (Or.inl ⟨sw, rfl, rfl⟩)))
    · have bb : 3 ≤ rc ∧ 57600 ≤ rs := by
        rcases bu with w | w
        · exact absurd w sw
        · exact w
      by_cases vl : vlP (h 2 3) (X.2.2 (s + 1)) (X.2.2 (s + 2)) (X.2.2 (s + 3)) (X.2.2 (s + 4))
      · obtain ⟨rc1, e1⟩ : ∃ rc1, rc = rc1 + 3 := ⟨rc - 3, by omega⟩
        obtain ⟨rs1, e2⟩ : ∃ rs1, rs = rs1 + 57600 := ⟨rs - 57600, by omega⟩
        rw [e1, e2]
        exact l_path (mc := 3) (ms := 57600) hl hst (Ev.mono (fun _ _ ⟨r1, sh1, pt1, h1, e1, e2, w1, w2, st1, z⟩ => ⟨r1, sh1, pt1, h1, e1, e2, st1, RunI.mono (fun _ h2 q => ⟨q.1, bk sh1 pt1 h2 rc1 rs1 q.2 (Or.inl (w2 vl))⟩) z⟩) (p_path v (Or.inr (Or.inr ⟨rfl, rfl⟩))))
      · exact l_path (mc := 0) (ms := 0) hl hst (Ev.mono (fun _ _ ⟨r1, sh1, pt1, h1, e1, e2, w1, w2, st1, z⟩ => ⟨r1, sh1, pt1, h1, e1, e2, st1, RunI.mono (fun _ h2 q => ⟨q.1, bk sh1 pt1 h2 rc rs q.2 (Or.inr bb)⟩) z⟩) (p_path v (Or.inr (Or.inl ⟨vl, rfl, rfl⟩))))
  have k23 : Ev X (d + 21 + 1) rc rs mL_law 1044 [(2, -2), (2, 0), (2, 78), (0, s)] [] (sh, pt, h) Q := l_move (mc := 0) (ms := 0) hl hst (cI (E := fun sh1 pt1 h2 => Ev X (d + 21 + 1) rc rs mL_law 1379 [(2, -2), (2, 0), (2, 78), (0, s)] [] (sh1, pt1, h2) Q) hst b0 (p_move v))
  have k24 : Ev X (d + 21 + 1) rc rs mL_law 1067 [(2, -2), (2, 0), (2, 78), (0, s)] [] (sh, pt, h) Q := l_person (mc := 0) (ms := 0) hl hst (cI (E := fun sh1 pt1 h2 => Ev X (d + 21 + 1) rc rs mL_law 1379 [(2, -2), (2, 0), (2, 78), (0, s)] [] (sh1, pt1, h2) Q) hst b0 (p_person (hq _) v))
  have k25 : Ev X (d + 21 + 1) rc rs mL_law 1090 [(2, -2), (2, 0), (2, 78), (0, s)] [] (sh, pt, h) Q := l_away (mc := 0) (ms := 0) hl hst (cI (E := fun sh1 pt1 h2 => Ev X (d + 21 + 1) rc rs mL_law 1379 [(2, -2), (2, 0), (2, 78), (0, s)] [] (sh1, pt1, h2) Q) hst b0 (p_away v))
  have k26 : Ev X (d + 21 + 1) rc rs mL_law 1143 [(2, -2), (2, 0), (2, 78), (0, s)] [] (sh, pt, h) Q := l_filled (mc := 0) (ms := 0) hl hst (cI (E := fun sh1 pt1 h2 => Ev X (d + 21 + 1) rc rs mL_law 1379 [(2, -2), (2, 0), (2, 78), (0, s)] [] (sh1, pt1, h2) Q) hst b0 (p_filled v))
  have k27 : Ev X (d + 21 + 1) rc rs mL_law 1176 [(2, -2), (2, 0), (2, 78), (0, s)] [] (sh, pt, h) Q := l_who (mc := 0) (ms := 0) hl hst (cI (E := fun sh1 pt1 h2 => Ev X (d + 21 + 1) rc rs mL_law 1379 [(2, -2), (2, 0), (2, 78), (0, s)] [] (sh1, pt1, h2) Q) hst b0 (p_who v))
  have k28 : Ev X (d + 21 + 1) rc rs mL_law 1219 [(2, -2), (2, 0), (2, 78), (0, s)] [] (sh, pt, h) Q := l_mark (mc := 0) (ms := 0) hl hst (cI (E := fun sh1 pt1 h2 => Ev X (d + 21 + 1) rc rs mL_law 1379 [(2, -2), (2, 0), (2, 78), (0, s)] [] (sh1, pt1, h2) Q) hst b0 (p_mark v))
  have k29 : Ev X (d + 21 + 1) rc rs mL_law 1272 [(2, -2), (2, 0), (2, 78), (0, s)] [] (sh, pt, h) Q := l_weight (mc := 0) (ms := 0) hl hst (cI (E := fun sh1 pt1 h2 => Ev X (d + 21 + 1) rc rs mL_law 1379 [(2, -2), (2, 0), (2, 78), (0, s)] [] (sh1, pt1, h2) Q) hst b0 (p_weight v))
  have k30 : Ev X (d + 21 + 1) rc rs mL_law 1305 [(2, -2), (2, 0), (2, 78), (0, s)] [] (sh, pt, h) Q := l_total (mc := 0) (ms := 0) hl hst (cI (E := fun sh1 pt1 h2 => Ev X (d + 21 + 1) rc rs mL_law 1379 [(2, -2), (2, 0), (2, 78), (0, s)] [] (sh1, pt1, h2) Q) hst b0 (p_total v))
  have k31 : Ev X (d + 21 + 1) rc rs mL_law 1328 [(2, -2), (2, 0), (2, 78), (0, s)] [] (sh, pt, h) Q := l_upper (mc := 0) (ms := 0) hl hst (cL (E := fun sh1 pt1 h2 => Ev X (d + 21 + 1) rc rs mL_law 1379 [(2, -2), (2, 0), (2, 78), (0, s)] [] (sh1, pt1, h2) Q) hst b0 (p_upper v))
  have k32 : Ev X (d + 21 + 1) rc rs mL_law 1342 [(2, -2), (2, 0), (2, 78), (0, s)] [] (sh, pt, h) Q := l_lower (mc := 0) (ms := 0) hl hst (cL (E := fun sh1 pt1 h2 => Ev X (d + 21 + 1) rc rs mL_law 1379 [(2, -2), (2, 0), (2, 78), (0, s)] [] (sh1, pt1, h2) Q) hst b0 (p_lower v))
  have k33 : Ev X (d + 21 + 1) rc rs mL_law 1356 [(2, -2), (2, 0), (2, 78), (0, s)] [] (sh, pt, h) Q := l_rank (mc := 0) (ms := 0) hl hst (cI (E := fun sh1 pt1 h2 => Ev X (d + 21 + 1) rc rs mL_law 1379 [(2, -2), (2, 0), (2, 78), (0, s)] [] (sh1, pt1, h2) Q) hst b0 (p_rank v))
  exact ⟨k0, k1, k2, k3, k4, k5, k6, k7, k8, k9, k10, k11, k12, k13, k14, k15, k16, k17, k18, k19, k20, k21, k22, k23, k24, k25, k26, k27, k28, k29, k30, k31, k32, k33⟩
theorem law_loop (hq : ∀ j, qI (X.2.2 j)) (hL : X.2.1 ≤ 3072) (kQ : ∀ g, Q (some (0, 1)) g) : ∀ (n : Nat) (s : Int) (sh : qS) (pt h : qM) (rc rs : Nat), (X.2.1 : Int) - s < n → 0 ≤ s → s ≤ (X.2.1 : Int) → Inv sh pt h → lBu sh pt rc rs → Ev X (d + 21 + 1) rc rs mL_law 18 [(2, -2), (2, 0), (2, 78), (0, s)] [] (sh, pt, h) Q := by
  intro n
  induction n with
  | zero => intro s sh pt h rc rs a b c; omega
  | succ n ih =>
    intro s sh pt h rc rs a b c v bu
    refine ev_iload_n 19 rfl dL_law_18 rfl rfl ?_
    refine ev_aload_n 20 rfl dL_law_19 rfl rfl ?_
    refine ev_alen_ro 21 rfl dL_law_20 qro_s ?_
    refine ev_bipush 23 rfl dL_law_21 (by decide) (by decide) ?_
    refine ev_isub 24 rfl dL_law_23 ⟨by omega, by omega⟩ ?_
    refine ev_icmp_gt (tgt := 1385) 27 rfl dL_law_24 (by decide) (fun cd => ?_) (fun cd => ?_)
    · refine ev_iconst 1386 rfl dL_law_1385 (by decide) ?_
      exact ev_ireturn dL_law_1386 (Or.inr ⟨rfl, by decide, by decide⟩) (kQ _)
    · have hl : lHd X s := ⟨b, by omega, by omega⟩
      have bk : ∀ sh1 pt1 h2 rc1 rs1, Inv sh1 pt1 h2 → lBu sh1 pt1 rc1 rs1 → Ev X (d + 21 + 1) rc1 rs1 mL_law 1379 [(2, -2), (2, 0), (2, 78), (0, s)] [] (sh1, pt1, h2) Q := fun sh1 pt1 h2 rc1 rs1 v1 bu1 => by
        refine ev_iinc (i := 3) 1382 rfl dL_law_1379 rfl (lH_2 hl) (by decide) rfl ?_
        exact ev_goto (tgt := 18) dL_law_1382 (by decide) (ih (s + 6) sh1 pt1 h2 rc1 rs1 (by omega) (by omega) (by omega) v1 bu1)
      have k := law_case hq hl v bu bk
      refine ev_aload_n 28 rfl dL_law_27 rfl rfl ?_
      refine ev_iload_n 29 rfl dL_law_28 rfl rfl ?_
      refine ev_iaload_ro 30 rfl dL_law_29 qro_s b (by omega) ?_
      refine ev_bipush 32 rfl dL_law_30 (by decide) (by decide) ?_
      refine ev_iand 33 rfl dL_law_32 ?_
      generalize qiand (X.2.2 s) 63 = o
      by_cases io : 0 ≤ o ∧ o ≤ 33
      · obtain ⟨o', rfl⟩ : ∃ o' : Nat, o = o' := ⟨o.toNat, by omega⟩
        have o1 : o' ≤ 33 := by omega

        by_cases c0 : o' = 0
        · subst c0
          exact ev_tableIn (tgt := 184) (off := 151) dL_law_33 (by decide) (by decide) rfl (by decide) k.1
        by_cases c1 : o' = 1
        · subst c1
          exact ev_tableIn (tgt := 197) (off := 164) dL_law_33 (by decide) (by decide) rfl (by decide) k.2.1
        by_cases c2 : o' = 2
        · subst c2
          exact ev_tableIn (tgt := 240) (off := 207) dL_law_33 (by decide) (by decide) rfl (by decide) k.2.2.1
        by_cases c3 : o' = 3
        · subst c3
          exact ev_tableIn (tgt := 313) (off := 280) dL_law_33 (by decide) (by decide) rfl (by decide) k.2.2.2.1
        by_cases c4 : o' = 4
        · subst c4
          exact ev_tableIn (tgt := 347) (off := 314) dL_law_33 (by decide) (by decide) rfl (by decide) k.2.2.2.2.1
        by_cases c5 : o' = 5
        · subst c5
          exact ev_tableIn (tgt := 410) (off := 377) dL_law_33 (by decide) (by decide) rfl (by decide) k.2.2.2.2.2.1
        by_cases c6 : o' = 6
        · subst c6
          exact ev_tableIn (tgt := 453) (off := 420) dL_law_33 (by decide) (by decide) rfl (by decide) k.2.2.2.2.2.2.1
        by_cases c7 : o' = 7
        · subst c7
          exact ev_tableIn (tgt := 486) (off := 453) dL_law_33 (by decide) (by decide) rfl (by decide) k.2.2.2.2.2.2.2.1
        by_cases c8 : o' = 8
        · subst c8
          exact ev_tableIn (tgt := 549) (off := 516) dL_law_33 (by decide) (by decide) rfl (by decide) k.2.2.2.2.2.2.2.2.1
        by_cases c9 : o' = 9
        · subst c9
          exact ev_tableIn (tgt := 572) (off := 539) dL_law_33 (by decide) (by decide) rfl (by decide) k.2.2.2.2.2.2.2.2.2.1
        by_cases c10 : o' = 10
        · subst c10
          exact ev_tableIn (tgt := 635) (off := 602) dL_law_33 (by decide) (by decide) rfl (by decide) k.2.2.2.2.2.2.2.2.2.2.1
        by_cases c11 : o' = 11
        · subst c11
          exact ev_tableIn (tgt := 658) (off := 625) dL_law_33 (by decide) (by decide) rfl (by decide) k.2.2.2.2.2.2.2.2.2.2.2.1
        by_cases c12 : o' = 12
        · subst c12
          exact ev_tableIn (tgt := 681) (off := 648) dL_law_33 (by decide) (by decide) rfl (by decide) k.2.2.2.2.2.2.2.2.2.2.2.2.1
        by_cases c13 : o' = 13
        · subst c13
          exact ev_tableIn (tgt := 694) (off := 661) dL_law_33 (by decide) (by decide) rfl (by decide) k.2.2.2.2.2.2.2.2.2.2.2.2.2.1
        by_cases c14 : o' = 14
        · subst c14
          exact ev_tableIn (tgt := 717) (off := 684) dL_law_33 (by decide) (by decide) rfl (by decide) k.2.2.2.2.2.2.2.2.2.2.2.2.2.2.1
        by_cases c15 : o' = 15
        · subst c15
          exact ev_tableIn (tgt := 760) (off := 727) dL_law_33 (by decide) (by decide) rfl (by decide) k.2.2.2.2.2.2.2.2.2.2.2.2.2.2.2.1
        by_cases c16 : o' = 16
        · subst c16
          exact ev_tableIn (tgt := 783) (off := 750) dL_law_33 (by decide) (by decide) rfl (by decide) k.2.2.2.2.2.2.2.2.2.2.2.2.2.2.2.2.1
        by_cases c17 : o' = 17
        · subst c17
          exact ev_tableIn (tgt := 816) (off := 783) dL_law_33 (by decide) (by decide) rfl (by decide) k.2.2.2.2.2.2.2.2.2.2.2.2.2.2.2.2.2.1
        by_cases c18 : o' = 18
        · subst c18
          exact ev_tableIn (tgt := 849) (off := 816) dL_law_33 (by decide) (by decide) rfl (by decide) k.2.2.2.2.2.2.2.2.2.2.2.2.2.2.2.2.2.2.1
        by_cases c19 : o' = 19
        · subst c19
          exact ev_tableIn (tgt := 882) (off := 849) dL_law_33 (by decide) (by decide) rfl (by decide) k.2.2.2.2.2.2.2.2.2.2.2.2.2.2.2.2.2.2.2.1
        by_cases c20 : o' = 20
        · subst c20
          exact ev_tableIn (tgt := 925) (off := 892) dL_law_33 (by decide) (by decide) rfl (by decide) k.2.2.2.2.2.2.2.2.2.2.2.2.2.2.2.2.2.2.2.2.1
        by_cases c21 : o' = 21
        · subst c21
          exact ev_tableIn (tgt := 968) (off := 935) dL_law_33 (by decide) (by decide) rfl (by decide) k.2.2.2.2.2.2.2.2.2.2.2.2.2.2.2.2.2.2.2.2.2.1
        by_cases c22 : o' = 22
        · subst c22
          exact ev_tableIn (tgt := 991) (off := 958) dL_law_33 (by decide) (by decide) rfl (by decide) k.2.2.2.2.2.2.2.2.2.2.2.2.2.2.2.2.2.2.2.2.2.2.1
        by_cases c23 : o' = 23
        · subst c23
          exact ev_tableIn (tgt := 1044) (off := 1011) dL_law_33 (by decide) (by decide) rfl (by decide) k.2.2.2.2.2.2.2.2.2.2.2.2.2.2.2.2.2.2.2.2.2.2.2.1
        by_cases c24 : o' = 24
        · subst c24
          exact ev_tableIn (tgt := 1067) (off := 1034) dL_law_33 (by decide) (by decide) rfl (by decide) k.2.2.2.2.2.2.2.2.2.2.2.2.2.2.2.2.2.2.2.2.2.2.2.2.1
        by_cases c25 : o' = 25
        · subst c25
          exact ev_tableIn (tgt := 1090) (off := 1057) dL_law_33 (by decide) (by decide) rfl (by decide) k.2.2.2.2.2.2.2.2.2.2.2.2.2.2.2.2.2.2.2.2.2.2.2.2.2.1
        by_cases c26 : o' = 26
        · subst c26
          exact ev_tableIn (tgt := 1143) (off := 1110) dL_law_33 (by decide) (by decide) rfl (by decide) k.2.2.2.2.2.2.2.2.2.2.2.2.2.2.2.2.2.2.2.2.2.2.2.2.2.2.1
        by_cases c27 : o' = 27
        · subst c27
          exact ev_tableIn (tgt := 1176) (off := 1143) dL_law_33 (by decide) (by decide) rfl (by decide) k.2.2.2.2.2.2.2.2.2.2.2.2.2.2.2.2.2.2.2.2.2.2.2.2.2.2.2.1
        by_cases c28 : o' = 28
        · subst c28
          exact ev_tableIn (tgt := 1219) (off := 1186) dL_law_33 (by decide) (by decide) rfl (by decide) k.2.2.2.2.2.2.2.2.2.2.2.2.2.2.2.2.2.2.2.2.2.2.2.2.2.2.2.2.1
        by_cases c29 : o' = 29
        · subst c29
          exact ev_tableIn (tgt := 1272) (off := 1239) dL_law_33 (by decide) (by decide) rfl (by decide) k.2.2.2.2.2.2.2.2.2.2.2.2.2.2.2.2.2.2.2.2.2.2.2.2.2.2.2.2.2.1
        by_cases c30 : o' = 30
        · subst c30
          exact ev_tableIn (tgt := 1305) (off := 1272) dL_law_33 (by decide) (by decide) rfl (by decide) k.2.2.2.2.2.2.2.2.2.2.2.2.2.2.2.2.2.2.2.2.2.2.2.2.2.2.2.2.2.2.1
        by_cases c31 : o' = 31
        · subst c31
          exact ev_tableIn (tgt := 1328) (off := 1295) dL_law_33 (by decide) (by decide) rfl (by decide) k.2.2.2.2.2.2.2.2.2.2.2.2.2.2.2.2.2.2.2.2.2.2.2.2.2.2.2.2.2.2.2.1
        by_cases c32 : o' = 32
        · subst c32
          exact ev_tableIn (tgt := 1342) (off := 1309) dL_law_33 (by decide) (by decide) rfl (by decide) k.2.2.2.2.2.2.2.2.2.2.2.2.2.2.2.2.2.2.2.2.2.2.2.2.2.2.2.2.2.2.2.2.1
        by_cases c33 : o' = 33
        · subst c33
          exact ev_tableIn (tgt := 1356) (off := 1323) dL_law_33 (by decide) (by decide) rfl (by decide) k.2.2.2.2.2.2.2.2.2.2.2.2.2.2.2.2.2.2.2.2.2.2.2.2.2.2.2.2.2.2.2.2.2
        exact absurd o1 (by omega)
      · exact ev_tableOut (tgt := 1379) dL_law_33 (by omega) (by decide) (bk sh pt h rc rs v bu)
end
