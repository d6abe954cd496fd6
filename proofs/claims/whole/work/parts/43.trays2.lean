section
variable {X : qX} {d : Nat} {sh : qS} {pt h : qM}
def plsm (many v1 v2 : Int) : Int := if ¬ (0 ≤ v1 ∧ v1 < 4) then 1 else if many < 0 then 3 else if 0 ≤ v2 ∧ v2 < many then 0 else 4
theorem plsm_0 {many v1 v2 : Int} (c : plsm many v1 v2 ≤ 0) : (0 ≤ v1 ∧ v1 < 4) ∧ 0 ≤ v2 ∧ v2 < many := by
  unfold plsm at c
  split at c
  · omega
  · split at c
    · omega
    · split at c <;> omega
theorem m_placed {K : Int → qM → Prop} {v1 v2 : Int} (hst : St sh pt) (k : K (plsm (h 80 v1) v1 v2) h) : RunI X (d + 1) mX11_placed [(2, 78), (0, v1), (0, v2)] sh pt h K := by
  unfold plsm at k
  refine b_X11_placed hst  ?_
  refine b_X11_trayed hst  ?_
  refine And.intro (fun c1_ => ?_) (fun c1_ => ?_)
  · refine And.intro (fun c_ => absurd c_ (by decide)) (fun _ => ?_)
    first | (rw [if_pos (by omega)] at k; exact k) | (rw [if_neg (by omega), if_pos (by omega)] at k; exact k) | (rw [if_neg (by omega), if_neg (by omega), if_pos (by omega)] at k; exact k) | (rw [if_neg (by omega), if_neg (by omega), if_neg (by omega)] at k; exact k)
  · refine And.intro (fun c2_ => ?_) (fun c2_ => ?_)
    · refine And.intro (by first | omega | exact ⟨by omega, by omega⟩) ?_
      refine And.intro (fun c3_ => ?_) (fun c3_ => ?_)
      · refine And.intro (fun _ => ?_) (fun c_ => absurd c_ (by decide))
        refine And.intro (fun c4_ => ?_) (fun c4_ => ?_)
        · first | (rw [if_pos (by omega)] at k; exact k) | (rw [if_neg (by omega), if_pos (by omega)] at k; exact k) | (rw [if_neg (by omega), if_neg (by omega), if_pos (by omega)] at k; exact k) | (rw [if_neg (by omega), if_neg (by omega), if_neg (by omega)] at k; exact k)
        · refine And.intro (by first | omega | exact ⟨by omega, by omega⟩) ?_
          refine And.intro (fun c5_ => ?_) (fun c5_ => ?_)
          · first | (rw [if_pos (by omega)] at k; exact k) | (rw [if_neg (by omega), if_pos (by omega)] at k; exact k) | (rw [if_neg (by omega), if_neg (by omega), if_pos (by omega)] at k; exact k) | (rw [if_neg (by omega), if_neg (by omega), if_neg (by omega)] at k; exact k)
          · first | (rw [if_pos (by omega)] at k; exact k) | (rw [if_neg (by omega), if_pos (by omega)] at k; exact k) | (rw [if_neg (by omega), if_neg (by omega), if_pos (by omega)] at k; exact k) | (rw [if_neg (by omega), if_neg (by omega), if_neg (by omega)] at k; exact k)
      · refine And.intro (fun c_ => absurd c_ (by decide)) (fun _ => ?_)
        first | (rw [if_pos (by omega)] at k; exact k) | (rw [if_neg (by omega), if_pos (by omega)] at k; exact k) | (rw [if_neg (by omega), if_neg (by omega), if_pos (by omega)] at k; exact k) | (rw [if_neg (by omega), if_neg (by omega), if_neg (by omega)] at k; exact k)
    · refine And.intro (fun c_ => absurd c_ (by decide)) (fun _ => ?_)
      first | (rw [if_pos (by omega)] at k; exact k) | (rw [if_neg (by omega), if_pos (by omega)] at k; exact k) | (rw [if_neg (by omega), if_neg (by omega), if_pos (by omega)] at k; exact k) | (rw [if_neg (by omega), if_neg (by omega), if_neg (by omega)] at k; exact k)
theorem m_write {K : Int → qM → Prop} {v1 v2 v3 : Int} (hst : St sh pt) (hm : 0 ≤ v1 → v1 < 4 → h 80 v1 ≤ 40) (k1 : plsm (h 80 v1) v1 v2 ≠ 0 → K 0 (qup (qup h 78 1 0) 78 0 (plsm (h 80 v1) v1 v2)))
    (k0 : plsm (h 80 v1) v1 v2 = 0 → K 1 (qup (qup (qup h 78 1 0) 78 0 0) 81 (40 * v1 + v2) (qcut (h 79 v1) v3))) : RunI X (d + 2) mX11_write [(2, 78), (0, v1), (0, v2), (1, v3)] sh pt h K := by
  refine b_X11_write hst (fun h1 e1 => m_placed hst (fun h4 e4 => ?_))
  have e2 : h1 80 v1 = h 80 v1 := by rw [e1, qup_of (by omega)]
  rw [e2] at e4
  have e3 : h4 78 0 = plsm (h 80 v1) v1 v2 := by rw [e4, qup_at]
  have e5 : h4 79 v1 = h 79 v1 := by rw [e4, e1, qup_of (by omega), qup_of (by omega)]
  rw [e3]
  refine ⟨fun c => ?_, fun c => ?_⟩
  · have hp := plsm_0 c
    have hm1 := hm hp.1.1 hp.1.2
    have c0 : plsm (h 80 v1) v1 v2 = 0 := by
      unfold plsm
      rw [if_neg (by omega), if_neg (by omega), if_pos hp.2]
    have k0 := k0 c0
    rw [c0] at e4
    refine ⟨⟨by omega, by omega⟩, ⟨by omega, by omega⟩, hp.1, ?_⟩
    rw [e5]
    have fin : ∀ r : Int, r = qcut (h 79 v1) v3 → (0 ≤ 40 * v1 + v2 ∧ 40 * v1 + v2 < 160) ∧ ∀ h9 : qM, h9 = qup h4 81 (40 * v1 + v2) r → K 1 h9 := by
      intro r er
      refine ⟨by omega, fun h9 e9 => ?_⟩
      rw [e9, er, e4, e1]
      exact k0
    unfold qcut at fin
    refine b_X11_cut hst ⟨fun c => ⟨fun c2 => ⟨fun c3 => fin _ ?_, fun c3 => fin _ ?_⟩, fun c2 => fin _ ?_⟩, fun c => fin _ ?_⟩
    · rw [if_neg c, if_neg c2, if_neg c3]
    · rw [if_neg c, if_neg c2, if_pos c3]
    · rw [if_neg c, if_pos c2]
    · rw [if_pos c]
  · rw [e4, e1]
    exact k1 (by omega)
theorem m_read {K : Int → qM → Prop} {v1 v2 : Int} (hst : St sh pt) (hm : 0 ≤ v1 → v1 < 4 → h 80 v1 ≤ 40) (k1 : plsm (h 80 v1) v1 v2 ≠ 0 → K (-1) (qup (qup h 78 1 0) 78 0 (plsm (h 80 v1) v1 v2)))
    (k0 : plsm (h 80 v1) v1 v2 = 0 → K (h 81 (40 * v1 + v2)) (qup (qup h 78 1 0) 78 0 0)) : RunL X (d + 2) mX11_read [(2, 78), (0, v1), (0, v2)] sh pt h K := by
  refine b_X11_read hst (fun h1 e1 => m_placed hst (fun h4 e4 => ?_))
  have e2 : h1 80 v1 = h 80 v1 := by rw [e1, qup_of (by omega)]
  rw [e2] at e4
  have e3 : h4 78 0 = plsm (h 80 v1) v1 v2 := by rw [e4, qup_at]
  rw [e3]
  refine ⟨fun c => ?_, fun c => ?_⟩
  · have hp := plsm_0 c
    have hm1 := hm hp.1.1 hp.1.2
    have c0 : plsm (h 80 v1) v1 v2 = 0 := by
      unfold plsm
      rw [if_neg (by omega), if_neg (by omega), if_pos hp.2]
    rw [c0] at e4
    refine ⟨⟨by omega, by omega⟩, ⟨by omega, by omega⟩, by omega, ?_⟩
    have e5 : h4 81 (40 * v1 + v2) = h 81 (40 * v1 + v2) := by rw [e4, e1, qup_of (by omega), qup_of (by omega)]
    rw [e5, e4, e1]
    exact k0 c0
  · rw [e4, e1]
    exact k1 (by omega)
/-- what pour() says first -/
def pst (l1 l2 s1 s2 m1 m2 v1 v2 v3 v4 v5 : Int) : Int := if ¬ (0 ≤ v1 ∧ v1 < 4 ∧ 0 ≤ v3 ∧ v3 < 4) then 1 else if l1 = 0 ∨ l2 = 0 then 3 else if s1 ≠ s2 then 11 else if v5 < 0 then 6 else if 0 ≤ v2 ∧ 0 ≤ v4 ∧ v2 + v5 ≤ m1 ∧ v4 + v5 ≤ m2 then 0 else 4
theorem x_pour {K : Int → qM → Prop} {v1 v2 v3 v4 v5 : Int} (hst : St sh pt) (hm : ∀ v : Int, 0 ≤ v → v < 4 → 0 ≤ h (70 + 2 * v) 3 ∧ h (70 + 2 * v) 3 ≤ 40) (q5 : qI v5)
    (k1 : ∀ w, w = pst (h (70 + 2 * v1) 1) (h (70 + 2 * v3) 1) (h (70 + 2 * v1) 2) (h (70 + 2 * v3) 2) (h (70 + 2 * v1) 3) (h (70 + 2 * v3) 3) v1 v2 v3 v4 v5 → w ≠ 0 → K 0 (qup h 0 12 w))
    (k0 : pst (h (70 + 2 * v1) 1) (h (70 + 2 * v3) 1) (h (70 + 2 * v1) 2) (h (70 + 2 * v3) 2) (h (70 + 2 * v1) 3) (h (70 + 2 * v3) 3) v1 v2 v3 v4 v5 = 0 → K 1 (qup (qcp h (71 + 2 * v1) v2 (71 + 2 * v3) v4 v5) 0 12 0)) : RunI X (d + 2) mX10_pour [(2, 0), (0, v1), (0, v2), (0, v3), (0, v4), (0, v5)] sh pt h K := by
  have e1 : 70 + 2 * v1 + 1 = 71 + 2 * v1 := by omega
  have e3 : 70 + 2 * v3 + 1 = 71 + 2 * v3 := by omega
  unfold pst at k0 k1
  refine b_X10_pour hst  ?_
  refine b_X10_isTray hst  ?_
  refine And.intro (fun c1_ => ?_) (fun c1_ => ?_)
  · refine And.intro (fun _ => ?_) (fun c_ => absurd c_ (by decide))
    refine b_X10_refuse hst  ?_
    intro h2_ eh2_
    subst eh2_
    refine And.intro (by first | omega | exact ⟨by omega, by omega⟩ | (have := hm v1 (by omega) (by omega); have := hm v3 (by omega) (by omega); exact ⟨by omega, by omega⟩) | (have := hm v1 (by omega) (by omega); have := hm v3 (by omega) (by omega); omega)) ?_
    first | (refine k1 1 ?_ (by decide); rw [if_pos (by omega)]) | (refine k1 3 ?_ (by decide); rw [if_neg (by omega), if_pos (by omega)]) | (refine k1 11 ?_ (by decide); rw [if_neg (by omega), if_neg (by omega), if_pos (by omega)]) | (refine k1 6 ?_ (by decide); rw [if_neg (by omega), if_neg (by omega), if_neg (by omega), if_pos (by omega)]) | (refine k1 4 ?_ (by decide); rw [if_neg (by omega), if_neg (by omega), if_neg (by omega), if_neg (by omega), if_neg (by omega)]) | (rw [if_neg (by omega), if_neg (by omega), if_neg (by omega), if_neg (by omega), if_pos (by omega)] at k0; rw [e1, e3]; exact k0 rfl)
  · refine And.intro (fun c3_ => ?_) (fun c3_ => ?_)
    · refine And.intro (fun _ => ?_) (fun c_ => absurd c_ (by decide))
      refine b_X10_refuse hst  ?_
      intro h4_ eh4_
      subst eh4_
      refine And.intro (by first | omega | exact ⟨by omega, by omega⟩ | (have := hm v1 (by omega) (by omega); have := hm v3 (by omega) (by omega); exact ⟨by omega, by omega⟩) | (have := hm v1 (by omega) (by omega); have := hm v3 (by omega) (by omega); omega)) ?_
      first | (refine k1 1 ?_ (by decide); rw [if_pos (by omega)]) | (refine k1 3 ?_ (by decide); rw [if_neg (by omega), if_pos (by omega)]) | (refine k1 11 ?_ (by decide); rw [if_neg (by omega), if_neg (by omega), if_pos (by omega)]) | (refine k1 6 ?_ (by decide); rw [if_neg (by omega), if_neg (by omega), if_neg (by omega), if_pos (by omega)]) | (refine k1 4 ?_ (by decide); rw [if_neg (by omega), if_neg (by omega), if_neg (by omega), if_neg (by omega), if_neg (by omega)]) | (rw [if_neg (by omega), if_neg (by omega), if_neg (by omega), if_neg (by omega), if_pos (by omega)] at k0; rw [e1, e3]; exact k0 rfl)
    · refine And.intro (fun c_ => absurd c_ (by decide)) (fun _ => ?_)
      refine b_X10_isTray hst  ?_
      refine And.intro (fun c5_ => ?_) (fun c5_ => ?_)
      · refine And.intro (fun c_ => absurd c_ (by decide)) (fun _ => ?_)
        refine b_X10_refuse hst  ?_
        intro h6_ eh6_
        subst eh6_
        refine And.intro (by first | omega | exact ⟨by omega, by omega⟩ | (have := hm v1 (by omega) (by omega); have := hm v3 (by omega) (by omega); exact ⟨by omega, by omega⟩) | (have := hm v1 (by omega) (by omega); have := hm v3 (by omega) (by omega); omega)) ?_
        first | (refine k1 1 ?_ (by decide); rw [if_pos (by omega)]) | (refine k1 3 ?_ (by decide); rw [if_neg (by omega), if_pos (by omega)]) | (refine k1 11 ?_ (by decide); rw [if_neg (by omega), if_neg (by omega), if_pos (by omega)]) | (refine k1 6 ?_ (by decide); rw [if_neg (by omega), if_neg (by omega), if_neg (by omega), if_pos (by omega)]) | (refine k1 4 ?_ (by decide); rw [if_neg (by omega), if_neg (by omega), if_neg (by omega), if_neg (by omega), if_neg (by omega)]) | (rw [if_neg (by omega), if_neg (by omega), if_neg (by omega), if_neg (by omega), if_pos (by omega)] at k0; rw [e1, e3]; exact k0 rfl)
      · refine And.intro (fun c7_ => ?_) (fun c7_ => ?_)
        · refine And.intro (fun c_ => absurd c_ (by decide)) (fun _ => ?_)
          refine b_X10_refuse hst  ?_
          intro h8_ eh8_
          subst eh8_
          refine And.intro (by first | omega | exact ⟨by omega, by omega⟩ | (have := hm v1 (by omega) (by omega); have := hm v3 (by omega) (by omega); exact ⟨by omega, by omega⟩) | (have := hm v1 (by omega) (by omega); have := hm v3 (by omega) (by omega); omega)) ?_
          first | (refine k1 1 ?_ (by decide); rw [if_pos (by omega)]) | (refine k1 3 ?_ (by decide); rw [if_neg (by omega), if_pos (by omega)]) | (refine k1 11 ?_ (by decide); rw [if_neg (by omega), if_neg (by omega), if_pos (by omega)]) | (refine k1 6 ?_ (by decide); rw [if_neg (by omega), if_neg (by omega), if_neg (by omega), if_pos (by omega)]) | (refine k1 4 ?_ (by decide); rw [if_neg (by omega), if_neg (by omega), if_neg (by omega), if_neg (by omega), if_neg (by omega)]) | (rw [if_neg (by omega), if_neg (by omega), if_neg (by omega), if_neg (by omega), if_pos (by omega)] at k0; rw [e1, e3]; exact k0 rfl)
        · refine And.intro (fun _ => ?_) (fun c_ => absurd c_ (by decide))
          refine And.intro (by first | omega | exact ⟨by omega, by omega⟩ | (have := hm v1 (by omega) (by omega); have := hm v3 (by omega) (by omega); exact ⟨by omega, by omega⟩) | (have := hm v1 (by omega) (by omega); have := hm v3 (by omega) (by omega); omega)) ?_
          refine And.intro (by first | omega | exact ⟨by omega, by omega⟩ | (have := hm v1 (by omega) (by omega); have := hm v3 (by omega) (by omega); exact ⟨by omega, by omega⟩) | (have := hm v1 (by omega) (by omega); have := hm v3 (by omega) (by omega); omega)) ?_
          refine And.intro (fun c9_ => ?_) (fun c9_ => ?_)
          · refine b_X10_refuse hst  ?_
            intro h10_ eh10_
            subst eh10_
            refine And.intro (by first | omega | exact ⟨by omega, by omega⟩ | (have := hm v1 (by omega) (by omega); have := hm v3 (by omega) (by omega); exact ⟨by omega, by omega⟩) | (have := hm v1 (by omega) (by omega); have := hm v3 (by omega) (by omega); omega)) ?_
            first | (refine k1 1 ?_ (by decide); rw [if_pos (by omega)]) | (refine k1 3 ?_ (by decide); rw [if_neg (by omega), if_pos (by omega)]) | (refine k1 11 ?_ (by decide); rw [if_neg (by omega), if_neg (by omega), if_pos (by omega)]) | (refine k1 6 ?_ (by decide); rw [if_neg (by omega), if_neg (by omega), if_neg (by omega), if_pos (by omega)]) | (refine k1 4 ?_ (by decide); rw [if_neg (by omega), if_neg (by omega), if_neg (by omega), if_neg (by omega), if_neg (by omega)]) | (rw [if_neg (by omega), if_neg (by omega), if_neg (by omega), if_neg (by omega), if_pos (by omega)] at k0; rw [e1, e3]; exact k0 rfl)
          · refine And.intro (fun c11_ => ?_) (fun c11_ => ?_)
            · refine And.intro (fun c12_ => ?_) (fun c12_ => ?_)
              · refine And.intro (fun c13_ => ?_) (fun c13_ => ?_)
                · refine b_X8_hasRange hst (isW_of (by omega) (by omega)) ?_
                  refine And.intro (fun c14_ => ?_) (fun c14_ => ?_)
                  · refine And.intro (fun _ => ?_) (fun c_ => absurd c_ (by decide))
                    refine b_X10_refuse hst  ?_
                    intro h15_ eh15_
                    subst eh15_
                    refine And.intro (by first | omega | exact ⟨by omega, by omega⟩ | (have := hm v1 (by omega) (by omega); have := hm v3 (by omega) (by omega); exact ⟨by omega, by omega⟩) | (have := hm v1 (by omega) (by omega); have := hm v3 (by omega) (by omega); omega)) ?_
                    first | (refine k1 1 ?_ (by decide); rw [if_pos (by omega)]) | (refine k1 3 ?_ (by decide); rw [if_neg (by omega), if_pos (by omega)]) | (refine k1 11 ?_ (by decide); rw [if_neg (by omega), if_neg (by omega), if_pos (by omega)]) | (refine k1 6 ?_ (by decide); rw [if_neg (by omega), if_neg (by omega), if_neg (by omega), if_pos (by omega)]) | (refine k1 4 ?_ (by decide); rw [if_neg (by omega), if_neg (by omega), if_neg (by omega), if_neg (by omega), if_neg (by omega)]) | (rw [if_neg (by omega), if_neg (by omega), if_neg (by omega), if_neg (by omega), if_pos (by omega)] at k0; rw [e1, e3]; exact k0 rfl)
                  · refine And.intro (by first | omega | exact ⟨by omega, by omega⟩ | (have := hm v1 (by omega) (by omega); have := hm v3 (by omega) (by omega); exact ⟨by omega, by omega⟩) | (have := hm v1 (by omega) (by omega); have := hm v3 (by omega) (by omega); omega)) ?_
                    refine And.intro (fun c16_ => ?_) (fun c16_ => ?_)
                    · refine And.intro (fun _ => ?_) (fun c_ => absurd c_ (by decide))
                      refine b_X10_refuse hst  ?_
                      intro h17_ eh17_
                      subst eh17_
                      refine And.intro (by first | omega | exact ⟨by omega, by omega⟩ | (have := hm v1 (by omega) (by omega); have := hm v3 (by omega) (by omega); exact ⟨by omega, by omega⟩) | (have := hm v1 (by omega) (by omega); have := hm v3 (by omega) (by omega); omega)) ?_
                      first | (refine k1 1 ?_ (by decide); rw [if_pos (by omega)]) | (refine k1 3 ?_ (by decide); rw [if_neg (by omega), if_pos (by omega)]) | (refine k1 11 ?_ (by decide); rw [if_neg (by omega), if_neg (by omega), if_pos (by omega)]) | (refine k1 6 ?_ (by decide); rw [if_neg (by omega), if_neg (by omega), if_neg (by omega), if_pos (by omega)]) | (refine k1 4 ?_ (by decide); rw [if_neg (by omega), if_neg (by omega), if_neg (by omega), if_neg (by omega), if_neg (by omega)]) | (rw [if_neg (by omega), if_neg (by omega), if_neg (by omega), if_neg (by omega), if_pos (by omega)] at k0; rw [e1, e3]; exact k0 rfl)
                    · refine And.intro (fun c_ => absurd c_ (by decide)) (fun _ => ?_)
                      refine b_X8_hasRange hst (isW_of (by omega) (by omega)) ?_
                      refine And.intro (fun c18_ => ?_) (fun c18_ => ?_)
                      · refine And.intro (fun c_ => absurd c_ (by decide)) (fun _ => ?_)
                        refine b_X10_refuse hst  ?_
                        intro h19_ eh19_
                        subst eh19_
                        refine And.intro (by first | omega | exact ⟨by omega, by omega⟩ | (have := hm v1 (by omega) (by omega); have := hm v3 (by omega) (by omega); exact ⟨by omega, by omega⟩) | (have := hm v1 (by omega) (by omega); have := hm v3 (by omega) (by omega); omega)) ?_
                        first | (refine k1 1 ?_ (by decide); rw [if_pos (by omega)]) | (refine k1 3 ?_ (by decide); rw [if_neg (by omega), if_pos (by omega)]) | (refine k1 11 ?_ (by decide); rw [if_neg (by omega), if_neg (by omega), if_pos (by omega)]) | (refine k1 6 ?_ (by decide); rw [if_neg (by omega), if_neg (by omega), if_neg (by omega), if_pos (by omega)]) | (refine k1 4 ?_ (by decide); rw [if_neg (by omega), if_neg (by omega), if_neg (by omega), if_neg (by omega), if_neg (by omega)]) | (rw [if_neg (by omega), if_neg (by omega), if_neg (by omega), if_neg (by omega), if_pos (by omega)] at k0; rw [e1, e3]; exact k0 rfl)
                      · refine And.intro (by first | omega | exact ⟨by omega, by omega⟩ | (have := hm v1 (by omega) (by omega); have := hm v3 (by omega) (by omega); exact ⟨by omega, by omega⟩) | (have := hm v1 (by omega) (by omega); have := hm v3 (by omega) (by omega); omega)) ?_
                        refine And.intro (fun c20_ => ?_) (fun c20_ => ?_)
                        · refine And.intro (fun c_ => absurd c_ (by decide)) (fun _ => ?_)
                          refine b_X10_refuse hst  ?_
                          intro h21_ eh21_
                          subst eh21_
                          refine And.intro (by first | omega | exact ⟨by omega, by omega⟩ | (have := hm v1 (by omega) (by omega); have := hm v3 (by omega) (by omega); exact ⟨by omega, by omega⟩) | (have := hm v1 (by omega) (by omega); have := hm v3 (by omega) (by omega); omega)) ?_
                          first | (refine k1 1 ?_ (by decide); rw [if_pos (by omega)]) | (refine k1 3 ?_ (by decide); rw [if_neg (by omega), if_pos (by omega)]) | (refine k1 11 ?_ (by decide); rw [if_neg (by omega), if_neg (by omega), if_pos (by omega)]) | (refine k1 6 ?_ (by decide); rw [if_neg (by omega), if_neg (by omega), if_neg (by omega), if_pos (by omega)]) | (refine k1 4 ?_ (by decide); rw [if_neg (by omega), if_neg (by omega), if_neg (by omega), if_neg (by omega), if_neg (by omega)]) | (rw [if_neg (by omega), if_neg (by omega), if_neg (by omega), if_neg (by omega), if_pos (by omega)] at k0; rw [e1, e3]; exact k0 rfl)
                        · refine And.intro (fun _ => ?_) (fun c_ => absurd c_ (by decide))
                          refine And.intro (by first | omega | exact ⟨by omega, by omega⟩ | (have := hm v1 (by omega) (by omega); have := hm v3 (by omega) (by omega); exact ⟨by omega, by omega⟩) | (have := hm v1 (by omega) (by omega); have := hm v3 (by omega) (by omega); omega)) ?_
                          intro h22_ eh22_
                          subst eh22_
                          refine b_X10_agree hst  ?_
                          intro h23_ eh23_
                          subst eh23_
                          refine And.intro (by first | omega | exact ⟨by omega, by omega⟩ | (have := hm v1 (by omega) (by omega); have := hm v3 (by omega) (by omega); exact ⟨by omega, by omega⟩) | (have := hm v1 (by omega) (by omega); have := hm v3 (by omega) (by omega); omega)) ?_
                          first | (refine k1 1 ?_ (by decide); rw [if_pos (by omega)]) | (refine k1 3 ?_ (by decide); rw [if_neg (by omega), if_pos (by omega)]) | (refine k1 11 ?_ (by decide); rw [if_neg (by omega), if_neg (by omega), if_pos (by omega)]) | (refine k1 6 ?_ (by decide); rw [if_neg (by omega), if_neg (by omega), if_neg (by omega), if_pos (by omega)]) | (refine k1 4 ?_ (by decide); rw [if_neg (by omega), if_neg (by omega), if_neg (by omega), if_neg (by omega), if_neg (by omega)]) | (rw [if_neg (by omega), if_neg (by omega), if_neg (by omega), if_neg (by omega), if_pos (by omega)] at k0; rw [e1, e3]; exact k0 rfl)
                · refine b_X10_refuse hst  ?_
                  intro h24_ eh24_
                  subst eh24_
                  refine And.intro (by first | omega | exact ⟨by omega, by omega⟩ | (have := hm v1 (by omega) (by omega); have := hm v3 (by omega) (by omega); exact ⟨by omega, by omega⟩) | (have := hm v1 (by omega) (by omega); have := hm v3 (by omega) (by omega); omega)) ?_
                  first | (refine k1 1 ?_ (by decide); rw [if_pos (by omega)]) | (refine k1 3 ?_ (by decide); rw [if_neg (by omega), if_pos (by omega)]) | (refine k1 11 ?_ (by decide); rw [if_neg (by omega), if_neg (by omega), if_pos (by omega)]) | (refine k1 6 ?_ (by decide); rw [if_neg (by omega), if_neg (by omega), if_neg (by omega), if_pos (by omega)]) | (refine k1 4 ?_ (by decide); rw [if_neg (by omega), if_neg (by omega), if_neg (by omega), if_neg (by omega), if_neg (by omega)]) | (rw [if_neg (by omega), if_neg (by omega), if_neg (by omega), if_neg (by omega), if_pos (by omega)] at k0; rw [e1, e3]; exact k0 rfl)
              · refine b_X10_refuse hst  ?_
                intro h25_ eh25_
                subst eh25_
                refine And.intro (by first | omega | exact ⟨by omega, by omega⟩ | (have := hm v1 (by omega) (by omega); have := hm v3 (by omega) (by omega); exact ⟨by omega, by omega⟩) | (have := hm v1 (by omega) (by omega); have := hm v3 (by omega) (by omega); omega)) ?_
                first | (refine k1 1 ?_ (by decide); rw [if_pos (by omega)]) | (refine k1 3 ?_ (by decide); rw [if_neg (by omega), if_pos (by omega)]) | (refine k1 11 ?_ (by decide); rw [if_neg (by omega), if_neg (by omega), if_pos (by omega)]) | (refine k1 6 ?_ (by decide); rw [if_neg (by omega), if_neg (by omega), if_neg (by omega), if_pos (by omega)]) | (refine k1 4 ?_ (by decide); rw [if_neg (by omega), if_neg (by omega), if_neg (by omega), if_neg (by omega), if_neg (by omega)]) | (rw [if_neg (by omega), if_neg (by omega), if_neg (by omega), if_neg (by omega), if_pos (by omega)] at k0; rw [e1, e3]; exact k0 rfl)
            · refine b_X10_refuse hst  ?_
              intro h26_ eh26_
              subst eh26_
              refine And.intro (by first | omega | exact ⟨by omega, by omega⟩ | (have := hm v1 (by omega) (by omega); have := hm v3 (by omega) (by omega); exact ⟨by omega, by omega⟩) | (have := hm v1 (by omega) (by omega); have := hm v3 (by omega) (by omega); omega)) ?_
              first | (refine k1 1 ?_ (by decide); rw [if_pos (by omega)]) | (refine k1 3 ?_ (by decide); rw [if_neg (by omega), if_pos (by omega)]) | (refine k1 11 ?_ (by decide); rw [if_neg (by omega), if_neg (by omega), if_pos (by omega)]) | (refine k1 6 ?_ (by decide); rw [if_neg (by omega), if_neg (by omega), if_neg (by omega), if_pos (by omega)]) | (refine k1 4 ?_ (by decide); rw [if_neg (by omega), if_neg (by omega), if_neg (by omega), if_neg (by omega), if_neg (by omega)]) | (rw [if_neg (by omega), if_neg (by omega), if_neg (by omega), if_neg (by omega), if_pos (by omega)] at k0; rw [e1, e3]; exact k0 rfl)
theorem m_pour_l {K : Int → qM → Prop} {v1 v2 v3 v4 v5 v6 : Int} (hst : St sh pt) (hv : 0 ≤ v1 ∧ v1 < 4 ∧ 0 ≤ v3 ∧ v3 < 4 ∧ 0 ≤ v2 ∧ 0 ≤ v4 ∧ v2 + v5 ≤ 40 ∧ v4 + v5 ≤ 40) (h6 : (v6 = 0 ∧ v4 ≤ v2) ∨ (v6 = 1 ∧ v2 < v4))
    (k : ∀ h1, Fr (fun a i => a = 81 ∧ 40 * v3 + v4 ≤ i ∧ i < 40 * v3 + v4 + v5) h h1 → (∀ j : Int, 0 ≤ j → j < v5 → h1 81 (40 * v3 + v4 + j) = h 81 (40 * v1 + v2 + j)) → K 1 h1) :
    ∀ (m : Nat) (i : Int) (h1 : qM), i + m = v5 → 0 ≤ i → Fr (fun a i => a = 81 ∧ 40 * v3 + v4 ≤ i ∧ i < 40 * v3 + v4 + v5) h h1 → (∀ j : Int, 0 ≤ j → j < v5 → h1 81 (40 * v3 + v4 + j) = if (v6 = 0 ∧ j < i) ∨ (v6 = 1 ∧ v5 - i ≤ j) then h 81 (40 * v1 + v2 + j) else h 81 (40 * v3 + v4 + j)) → EvI X (d + 1) mX11_pour 158 [(2, 78), (0, v1), (0, v2), (0, v3), (0, v4), (0, v5), (0, v6), (0, i), (8, -1)] [] sh pt h1 K := by
  intro m
  induction m with
  | zero =>
    intro i h1 hi h0 hF hv1
    refine b_X11_pour_158 hst ⟨fun _ => k h1 hF (fun j a b => ?_), fun c => absurd c (by omega)⟩
    rw [hv1 j a b, if_pos (by omega)]
  | succ m ih =>
    intro i h1 hi h0 hF hv1
    have go : ∀ u : Int, ((v6 = 0 ∧ u = i) ∨ (v6 = 1 ∧ u = v5 - 1 - i)) → EvI X (d + 1) mX11_pour 182 [(2, 78), (0, v1), (0, v2), (0, v3), (0, v4), (0, v5), (0, v6), (0, i), (8, -1)] [(0, u)] sh pt h1 K := by
      intro u hu
      refine b_X11_pour_182 hst ⟨⟨by omega, by omega⟩, ⟨by omega, by omega⟩, ⟨by omega, by omega⟩, ⟨by omega, by omega⟩, ⟨by omega, by omega⟩, ⟨by omega, by omega⟩, by omega, by omega, fun h3 e3 => ⟨⟨by omega, by omega⟩, ?_⟩⟩
      have src : h1 81 (40 * v1 + v2 + u) = h 81 (40 * v1 + v2 + u) := by
        by_cases hin : 40 * v3 + v4 ≤ 40 * v1 + v2 + u ∧ 40 * v1 + v2 + u < 40 * v3 + v4 + v5
        · have e := hv1 (40 * v1 + v2 + u - (40 * v3 + v4)) (by omega) (by omega)
          have e2 : 40 * v3 + v4 + (40 * v1 + v2 + u - (40 * v3 + v4)) = 40 * v1 + v2 + u := by omega
          rw [e2, if_neg (by omega)] at e
          exact e
        · exact hF _ _ (by omega)
      rw [src] at e3
      refine ih (i + 1) h3 (by omega) (by omega) (by rw [e3]; exact hF.up ⟨rfl, by omega, by omega⟩) (fun j a b => ?_)
      by_cases e : j = u
      · subst e
        rw [e3, qup_at, if_pos (by omega)]
      · rw [e3, qup_of (by omega), hv1 j a b]
        by_cases q : (v6 = 0 ∧ j < i) ∨ (v6 = 1 ∧ v5 - i ≤ j)
        · rw [if_pos q, if_pos (by omega)]
        · rw [if_neg q, if_neg (by omega)]
    refine b_X11_pour_158 hst ⟨fun c => absurd c (by omega), fun _ => ⟨fun c => go i (by omega), fun c => ⟨⟨by omega, by omega⟩, ⟨by omega, by omega⟩, go _ (by omega)⟩⟩⟩
def pstm (m1 m2 s1 s2 v1 v2 v3 v4 v5 : Int) : Int := if ¬ (0 ≤ v1 ∧ v1 < 4 ∧ 0 ≤ v3 ∧ v3 < 4) then 1 else if m1 < 0 ∨ m2 < 0 then 3 else if s1 ≠ s2 then 11 else if v5 < 0 then 6 else if 0 ≤ v2 ∧ 0 ≤ v4 ∧ v2 + v5 ≤ m1 ∧ v4 + v5 ≤ m2 then 0 else 4
theorem m_pour {K : Int → qM → Prop} {v1 v2 v3 v4 v5 : Int} (hst : St sh pt) (hm : ∀ v : Int, 0 ≤ v → v < 4 → h 80 v ≤ 40) (q2 : qI v2) (q4 : qI v4) (q5 : qI v5)
    (k1 : ∀ w, w = pstm (h 80 v1) (h 80 v3) (h 79 v1) (h 79 v3) v1 v2 v3 v4 v5 → w ≠ 0 → K 0 (qup (qup (qup h 78 1 0) 78 0 0) 78 0 w))
    (k0 : pstm (h 80 v1) (h 80 v3) (h 79 v1) (h 79 v3) v1 v2 v3 v4 v5 = 0 → ∀ h1, Fr (fun a i => a = 81 ∧ 40 * v3 + v4 ≤ i ∧ i < 40 * v3 + v4 + v5) (qup (qup h 78 1 0) 78 0 0) h1 → (∀ j : Int, 0 ≤ j → j < v5 → h1 81 (40 * v3 + v4 + j) = h 81 (40 * v1 + v2 + j)) → K 1 h1) : RunI X (d + 1) mX11_pour [(2, 78), (0, v1), (0, v2), (0, v3), (0, v4), (0, v5)] sh pt h K := by
  have g : ∀ a i : Int, a ≠ 78 → qup (qup h 78 1 0) 78 0 0 a i = h a i := fun a i q => by rw [qup_of (fun z => q z.1), qup_of (fun z => q z.1)]
  have r1 := g 80 v1 (by decide)
  have r2 := g 80 v3 (by decide)
  have r3 := g 79 v1 (by decide)
  have r4 := g 79 v3 (by decide)
  unfold pstm at k0 k1
  refine b_X11_pour hst  ?_
  intro h1_ eh1_
  subst eh1_
  intro h2_ eh2_
  subst eh2_
  refine And.intro (fun c3_ => ?_) (fun c3_ => ?_)
  · refine b_X11_no hst  ?_
    intro h4_ eh4_
    subst eh4_
    refine And.intro (by first | omega | exact ⟨by omega, by omega⟩ | (have := hm v1 (by omega) (by omega); have := hm v3 (by omega) (by omega); exact ⟨by omega, by omega⟩) | (have := hm v1 (by omega) (by omega); have := hm v3 (by omega) (by omega); omega)) ?_
    first | (refine k1 1 ?_ (by decide); rw [if_pos (by omega)]) | (refine k1 3 ?_ (by decide); rw [if_neg (by omega), if_pos (by omega)]) | (refine k1 11 ?_ (by decide); rw [if_neg (by omega), if_neg (by omega), if_pos (by omega)]) | (refine k1 6 ?_ (by decide); rw [if_neg (by omega), if_neg (by omega), if_neg (by omega), if_pos (by omega)]) | (refine k1 4 ?_ (by decide); rw [if_neg (by omega), if_neg (by omega), if_neg (by omega), if_neg (by omega), if_neg (by omega)])
  · refine And.intro (fun c5_ => ?_) (fun c5_ => ?_)
    · refine b_X11_no hst  ?_
      intro h6_ eh6_
      subst eh6_
      refine And.intro (by first | omega | exact ⟨by omega, by omega⟩ | (have := hm v1 (by omega) (by omega); have := hm v3 (by omega) (by omega); exact ⟨by omega, by omega⟩) | (have := hm v1 (by omega) (by omega); have := hm v3 (by omega) (by omega); omega)) ?_
      first | (refine k1 1 ?_ (by decide); rw [if_pos (by omega)]) | (refine k1 3 ?_ (by decide); rw [if_neg (by omega), if_pos (by omega)]) | (refine k1 11 ?_ (by decide); rw [if_neg (by omega), if_neg (by omega), if_pos (by omega)]) | (refine k1 6 ?_ (by decide); rw [if_neg (by omega), if_neg (by omega), if_neg (by omega), if_pos (by omega)]) | (refine k1 4 ?_ (by decide); rw [if_neg (by omega), if_neg (by omega), if_neg (by omega), if_neg (by omega), if_neg (by omega)])
    · refine And.intro (fun c7_ => ?_) (fun c7_ => ?_)
      · refine b_X11_no hst  ?_
        intro h8_ eh8_
        subst eh8_
        refine And.intro (by first | omega | exact ⟨by omega, by omega⟩ | (have := hm v1 (by omega) (by omega); have := hm v3 (by omega) (by omega); exact ⟨by omega, by omega⟩) | (have := hm v1 (by omega) (by omega); have := hm v3 (by omega) (by omega); omega)) ?_
        first | (refine k1 1 ?_ (by decide); rw [if_pos (by omega)]) | (refine k1 3 ?_ (by decide); rw [if_neg (by omega), if_pos (by omega)]) | (refine k1 11 ?_ (by decide); rw [if_neg (by omega), if_neg (by omega), if_pos (by omega)]) | (refine k1 6 ?_ (by decide); rw [if_neg (by omega), if_neg (by omega), if_neg (by omega), if_pos (by omega)]) | (refine k1 4 ?_ (by decide); rw [if_neg (by omega), if_neg (by omega), if_neg (by omega), if_neg (by omega), if_neg (by omega)])
      · refine And.intro (fun c9_ => ?_) (fun c9_ => ?_)
        · refine And.intro (by first | omega | exact ⟨by omega, by omega⟩ | (have := hm v1 (by omega) (by omega); have := hm v3 (by omega) (by omega); exact ⟨by omega, by omega⟩) | (have := hm v1 (by omega) (by omega); have := hm v3 (by omega) (by omega); omega)) ?_
          refine And.intro (fun c10_ => ?_) (fun c10_ => ?_)
          · refine b_X11_no hst  ?_
            intro h11_ eh11_
            subst eh11_
            refine And.intro (by first | omega | exact ⟨by omega, by omega⟩ | (have := hm v1 (by omega) (by omega); have := hm v3 (by omega) (by omega); exact ⟨by omega, by omega⟩) | (have := hm v1 (by omega) (by omega); have := hm v3 (by omega) (by omega); omega)) ?_
            first | (refine k1 1 ?_ (by decide); rw [if_pos (by omega)]) | (refine k1 3 ?_ (by decide); rw [if_neg (by omega), if_pos (by omega)]) | (refine k1 11 ?_ (by decide); rw [if_neg (by omega), if_neg (by omega), if_pos (by omega)]) | (refine k1 6 ?_ (by decide); rw [if_neg (by omega), if_neg (by omega), if_neg (by omega), if_pos (by omega)]) | (refine k1 4 ?_ (by decide); rw [if_neg (by omega), if_neg (by omega), if_neg (by omega), if_neg (by omega), if_neg (by omega)])
          · refine And.intro (by first | omega | exact ⟨by omega, by omega⟩ | (have := hm v1 (by omega) (by omega); have := hm v3 (by omega) (by omega); exact ⟨by omega, by omega⟩) | (have := hm v1 (by omega) (by omega); have := hm v3 (by omega) (by omega); omega)) ?_
            refine And.intro (fun c12_ => ?_) (fun c12_ => ?_)
            · refine And.intro (by first | omega | exact ⟨by omega, by omega⟩ | (have := hm v1 (by omega) (by omega); have := hm v3 (by omega) (by omega); exact ⟨by omega, by omega⟩) | (have := hm v1 (by omega) (by omega); have := hm v3 (by omega) (by omega); omega)) ?_
              refine And.intro (by first | omega | exact ⟨by omega, by omega⟩ | (have := hm v1 (by omega) (by omega); have := hm v3 (by omega) (by omega); exact ⟨by omega, by omega⟩) | (have := hm v1 (by omega) (by omega); have := hm v3 (by omega) (by omega); omega)) ?_
              refine And.intro (fun c13_ => ?_) (fun c13_ => ?_)
              · refine And.intro (fun c14_ => ?_) (fun c14_ => ?_)
                · refine And.intro (fun c15_ => ?_) (fun c15_ => ?_)
                  · refine b_X11_no hst  ?_
                    intro h16_ eh16_
                    subst eh16_
                    refine And.intro (by first | omega | exact ⟨by omega, by omega⟩ | (have := hm v1 (by omega) (by omega); have := hm v3 (by omega) (by omega); exact ⟨by omega, by omega⟩) | (have := hm v1 (by omega) (by omega); have := hm v3 (by omega) (by omega); omega)) ?_
                    first | (refine k1 1 ?_ (by decide); rw [if_pos (by omega)]) | (refine k1 3 ?_ (by decide); rw [if_neg (by omega), if_pos (by omega)]) | (refine k1 11 ?_ (by decide); rw [if_neg (by omega), if_neg (by omega), if_pos (by omega)]) | (refine k1 6 ?_ (by decide); rw [if_neg (by omega), if_neg (by omega), if_neg (by omega), if_pos (by omega)]) | (refine k1 4 ?_ (by decide); rw [if_neg (by omega), if_neg (by omega), if_neg (by omega), if_neg (by omega), if_neg (by omega)])
                  · refine And.intro (fun c17_ => ?_) (fun c17_ => ?_)
                    · refine b_X11_no hst  ?_
                      intro h18_ eh18_
                      subst eh18_
                      refine And.intro (by first | omega | exact ⟨by omega, by omega⟩ | (have := hm v1 (by omega) (by omega); have := hm v3 (by omega) (by omega); exact ⟨by omega, by omega⟩) | (have := hm v1 (by omega) (by omega); have := hm v3 (by omega) (by omega); omega)) ?_
                      first | (refine k1 1 ?_ (by decide); rw [if_pos (by omega)]) | (refine k1 3 ?_ (by decide); rw [if_neg (by omega), if_pos (by omega)]) | (refine k1 11 ?_ (by decide); rw [if_neg (by omega), if_neg (by omega), if_pos (by omega)]) | (refine k1 6 ?_ (by decide); rw [if_neg (by omega), if_neg (by omega), if_neg (by omega), if_pos (by omega)]) | (refine k1 4 ?_ (by decide); rw [if_neg (by omega), if_neg (by omega), if_neg (by omega), if_neg (by omega), if_neg (by omega)])
                    · refine And.intro (by first | omega | exact ⟨by omega, by omega⟩ | (have := hm v1 (by omega) (by omega); have := hm v3 (by omega) (by omega); exact ⟨by omega, by omega⟩) | (have := hm v1 (by omega) (by omega); have := hm v3 (by omega) (by omega); omega)) ?_
                      refine And.intro (by first | omega | exact ⟨by omega, by omega⟩ | (have := hm v1 (by omega) (by omega); have := hm v3 (by omega) (by omega); exact ⟨by omega, by omega⟩) | (have := hm v1 (by omega) (by omega); have := hm v3 (by omega) (by omega); omega)) ?_
                      refine And.intro (fun c19_ => ?_) (fun c19_ => ?_)
                      · refine b_X11_no hst  ?_
                        intro h20_ eh20_
                        subst eh20_
                        refine And.intro (by first | omega | exact ⟨by omega, by omega⟩ | (have := hm v1 (by omega) (by omega); have := hm v3 (by omega) (by omega); exact ⟨by omega, by omega⟩) | (have := hm v1 (by omega) (by omega); have := hm v3 (by omega) (by omega); omega)) ?_
                        first | (refine k1 1 ?_ (by decide); rw [if_pos (by omega)]) | (refine k1 3 ?_ (by decide); rw [if_neg (by omega), if_pos (by omega)]) | (refine k1 11 ?_ (by decide); rw [if_neg (by omega), if_neg (by omega), if_pos (by omega)]) | (refine k1 6 ?_ (by decide); rw [if_neg (by omega), if_neg (by omega), if_neg (by omega), if_pos (by omega)]) | (refine k1 4 ?_ (by decide); rw [if_neg (by omega), if_neg (by omega), if_neg (by omega), if_neg (by omega), if_neg (by omega)])
                      · refine And.intro (by first | omega | exact ⟨by omega, by omega⟩ | (have := hm v1 (by omega) (by omega); have := hm v3 (by omega) (by omega); exact ⟨by omega, by omega⟩) | (have := hm v1 (by omega) (by omega); have := hm v3 (by omega) (by omega); omega)) ?_
                        refine And.intro (by first | omega | exact ⟨by omega, by omega⟩ | (have := hm v1 (by omega) (by omega); have := hm v3 (by omega) (by omega); exact ⟨by omega, by omega⟩) | (have := hm v1 (by omega) (by omega); have := hm v3 (by omega) (by omega); omega)) ?_
                        refine And.intro (fun c21_ => ?_) (fun c21_ => ?_)
                        · refine And.intro (fun c22_ => ?_) (fun c22_ => ?_)
                          · have l1 := hm v1 (by omega) (by omega)
                            have l3 := hm v3 (by omega) (by omega)
                            rw [if_neg (by omega), if_neg (by omega), if_neg (by omega), if_neg (by omega), if_pos (by omega)] at k0
                            refine m_pour_l hst (by omega) (by omega) (fun h1 hF hz => k0 rfl h1 hF (fun j a b => (hz j a b).trans (g _ _ (by decide)))) v5.toNat 0 _ (by omega) (by omega) Fr.rf (fun j a b => ?_)
                            rw [if_neg (by omega)]
                          · have l1 := hm v1 (by omega) (by omega)
                            have l3 := hm v3 (by omega) (by omega)
                            rw [if_neg (by omega), if_neg (by omega), if_neg (by omega), if_neg (by omega), if_pos (by omega)] at k0
                            refine m_pour_l hst (by omega) (by omega) (fun h1 hF hz => k0 rfl h1 hF (fun j a b => (hz j a b).trans (g _ _ (by decide)))) v5.toNat 0 _ (by omega) (by omega) Fr.rf (fun j a b => ?_)
                            rw [if_neg (by omega)]
                        · refine b_X11_no hst  ?_
                          intro h23_ eh23_
                          subst eh23_
                          refine And.intro (by first | omega | exact ⟨by omega, by omega⟩ | (have := hm v1 (by omega) (by omega); have := hm v3 (by omega) (by omega); exact ⟨by omega, by omega⟩) | (have := hm v1 (by omega) (by omega); have := hm v3 (by omega) (by omega); omega)) ?_
                          first | (refine k1 1 ?_ (by decide); rw [if_pos (by omega)]) | (refine k1 3 ?_ (by decide); rw [if_neg (by omega), if_pos (by omega)]) | (refine k1 11 ?_ (by decide); rw [if_neg (by omega), if_neg (by omega), if_pos (by omega)]) | (refine k1 6 ?_ (by decide); rw [if_neg (by omega), if_neg (by omega), if_neg (by omega), if_pos (by omega)]) | (refine k1 4 ?_ (by decide); rw [if_neg (by omega), if_neg (by omega), if_neg (by omega), if_neg (by omega), if_neg (by omega)])
                · refine b_X11_no hst  ?_
                  intro h24_ eh24_
                  subst eh24_
                  refine And.intro (by first | omega | exact ⟨by omega, by omega⟩ | (have := hm v1 (by omega) (by omega); have := hm v3 (by omega) (by omega); exact ⟨by omega, by omega⟩) | (have := hm v1 (by omega) (by omega); have := hm v3 (by omega) (by omega); omega)) ?_
                  first | (refine k1 1 ?_ (by decide); rw [if_pos (by omega)]) | (refine k1 3 ?_ (by decide); rw [if_neg (by omega), if_pos (by omega)]) | (refine k1 11 ?_ (by decide); rw [if_neg (by omega), if_neg (by omega), if_pos (by omega)]) | (refine k1 6 ?_ (by decide); rw [if_neg (by omega), if_neg (by omega), if_neg (by omega), if_pos (by omega)]) | (refine k1 4 ?_ (by decide); rw [if_neg (by omega), if_neg (by omega), if_neg (by omega), if_neg (by omega), if_neg (by omega)])
              · refine b_X11_no hst  ?_
                intro h25_ eh25_
                subst eh25_
                refine And.intro (by first | omega | exact ⟨by omega, by omega⟩ | (have := hm v1 (by omega) (by omega); have := hm v3 (by omega) (by omega); exact ⟨by omega, by omega⟩) | (have := hm v1 (by omega) (by omega); have := hm v3 (by omega) (by omega); omega)) ?_
                first | (refine k1 1 ?_ (by decide); rw [if_pos (by omega)]) | (refine k1 3 ?_ (by decide); rw [if_neg (by omega), if_pos (by omega)]) | (refine k1 11 ?_ (by decide); rw [if_neg (by omega), if_neg (by omega), if_pos (by omega)]) | (refine k1 6 ?_ (by decide); rw [if_neg (by omega), if_neg (by omega), if_neg (by omega), if_pos (by omega)]) | (refine k1 4 ?_ (by decide); rw [if_neg (by omega), if_neg (by omega), if_neg (by omega), if_neg (by omega), if_neg (by omega)])
            · refine b_X11_no hst  ?_
              intro h26_ eh26_
              subst eh26_
              refine And.intro (by first | omega | exact ⟨by omega, by omega⟩ | (have := hm v1 (by omega) (by omega); have := hm v3 (by omega) (by omega); exact ⟨by omega, by omega⟩) | (have := hm v1 (by omega) (by omega); have := hm v3 (by omega) (by omega); omega)) ?_
              first | (refine k1 1 ?_ (by decide); rw [if_pos (by omega)]) | (refine k1 3 ?_ (by decide); rw [if_neg (by omega), if_pos (by omega)]) | (refine k1 11 ?_ (by decide); rw [if_neg (by omega), if_neg (by omega), if_pos (by omega)]) | (refine k1 6 ?_ (by decide); rw [if_neg (by omega), if_neg (by omega), if_neg (by omega), if_pos (by omega)]) | (refine k1 4 ?_ (by decide); rw [if_neg (by omega), if_neg (by omega), if_neg (by omega), if_neg (by omega), if_neg (by omega)])
        · refine b_X11_no hst  ?_
          intro h27_ eh27_
          subst eh27_
          refine And.intro (by first | omega | exact ⟨by omega, by omega⟩ | (have := hm v1 (by omega) (by omega); have := hm v3 (by omega) (by omega); exact ⟨by omega, by omega⟩) | (have := hm v1 (by omega) (by omega); have := hm v3 (by omega) (by omega); omega)) ?_
          first | (refine k1 1 ?_ (by decide); rw [if_pos (by omega)]) | (refine k1 3 ?_ (by decide); rw [if_neg (by omega), if_pos (by omega)]) | (refine k1 11 ?_ (by decide); rw [if_neg (by omega), if_neg (by omega), if_pos (by omega)]) | (refine k1 6 ?_ (by decide); rw [if_neg (by omega), if_neg (by omega), if_neg (by omega), if_pos (by omega)]) | (refine k1 4 ?_ (by decide); rw [if_neg (by omega), if_neg (by omega), if_neg (by omega), if_neg (by omega), if_neg (by omega)])
end
