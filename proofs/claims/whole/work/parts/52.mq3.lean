/-! like, seen, at of the reference; both faces -/
noncomputable def atF (g : Int) (E N F : Int → Int → Int) (T M v1 v2 v3 : Int) : Int × Int := if g = 0 then (-1, 8) else if ¬ (0 ≤ v1 ∧ v1 ≤ T ∧ 0 ≤ v2 ∧ v2 < M) then (-1, 2) else if v3 = 0 then (E v1 v2, 0) else if v3 = 1 then (N v1 v2, 0) else if v3 = 2 then (F v1 v2, 0) else (-1, 5)
noncomputable def toldF (g : Int) (E N : Int → Int → Int) (p : Int → Int → Int) (l w T M v : Int) : Int × Int := if ¬ (0 ≤ v ∧ v ≤ 4) then (-1, 5) else if g = 0 then (-1, 8) else if v = 0 then (clO E N T M, 0) else if v = 1 then (hiO p E N T M, 0) else if v = 2 then (saO E N T M l, 0) else if v = 3 then (w, 0) else (gsO E N T M, 0)
noncomputable def clashF (g : Int) (E N : Int → Int → Int) (T M k v : Int) : Int × Int := if ¬ (0 ≤ v ∧ v ≤ 2) then (-1, 5) else if g = 0 then (-1, 8) else if k < 0 then (-1, 8) else if 0 ≤ fcO E N T M k then (-1, 8) else (deC v (-1 - fcO E N T M k), 0)
noncomputable def drsF (g : Int) (E N : Int → Int → Int) (G T M s v1 v2 : Int) : Int × Int := if g = 0 then (-1, 8) else if ¬ (0 ≤ v1 ∧ v1 < G ∧ 0 ≤ v2 ∧ v2 ≤ T) then (-1, 2) else if qishl 1 M ≤ s then (-1, 2) else (drs (tb s) E N v2 M.toNat 0 0 0 0 0, 0)
noncomputable def likeF (g : Int) (E N : Int → Int → Int) (T M v1 v2 : Int) : Int × Int := if g = 0 then (-1, 8) else if ¬ (0 ≤ v1 ∧ v1 ≤ T ∧ 0 ≤ v2 ∧ v2 ≤ T) then (-1, 2) else if lkO E N M v1 v2 < 0 then (-1, 8) else (lkO E N M v1 v2, 0)
noncomputable def seenF (g : Int) (E N : Int → Int → Int) (T M v1 v2 v3 : Int) : Int × Int := if g = 0 then (-1, 8) else if ¬ (0 ≤ v1 ∧ v1 ≤ T) then (-1, 2) else if ¬ (0 ≤ v2 ∧ v2 < 60 ∧ 1 ≤ v3 ∧ v3 ≤ 40) then (-1, 5) else (seO E N M v1 v2 v3, 0)
def cg (h : qM) (c g : Int) (E N F : Int → Int → Int) (T M : Int) : Prop := (g = 0 ∧ h c 3 = 0) ∨ (g = 1 ∧ h c 3 = 1 ∧ crel h c E N F T M ∧ h c 4 = M ∧ h c 5 = T ∧ 0 ≤ M ∧ 0 ≤ T)
def mg (h : qM) (g : Int) (E N F : Int → Int → Int) (T M : Int) : Prop := (g = 0 ∧ h 78 50 = -1) ∨ (g = 1 ∧ mrel h E N F T M ∧ mhd h T M)
theorem drs_01 {S : Int → Bool} {E N : Int → Int → Int} {t : Int} : ∀ (k : Nat) (m c b x y : Int), drs S E N t k m c b x y = 0 ∨ drs S E N t k m c b x y = 1 := by
  intro k
  induction k with
  | zero => intro m c b x y; exact Or.inr rfl
  | succ k ih =>
    intro m c b x y
    unfold drs
    (repeat' split) <;> first | exact ih _ _ _ _ _ | exact Or.inl rfl
section
variable {X : qX} {d : Nat} {sh : qS} {pt h : qM} {c g : Int} {E N F : Int → Int → Int} {T M : Int}
theorem mg_ms {s : Int} (q : mg h g E N F T M) : mg (ms h s) g E N F T M := by
  rcases q with q | q
  · exact Or.inl ⟨q.1, by rw [ms_of2 (by decide)]; exact q.2⟩
  · exact Or.inr ⟨q.1, mrel_ms q.2.1, mhd_ms q.2.2⟩
/-! the class -/
theorem x_at {K : Int → qM → Prop} {v1 v2 v3 : Int} (hst : St sh pt) (e10 : pt 0 10 = c) (hc : isC c) (q : cg h c g E N F T M) (k : ∀ r s, (r, s) = atF g E N F T M v1 v2 v3 → K r (qup h 0 12 s)) : RunI X (d + 1) mX10_at [(2, 0), (0, v1), (0, v2), (0, v3)] sh pt h K := by
  rcases q with ⟨g0, q⟩ | ⟨g1, q, cr, hM, hT, M0, T0⟩
  · refine b_X10_at hst e10 hc ⟨fun z => absurd q z, fun _ => b_X10_none hst (fun h1 e1 => ?_)⟩
    rw [e1]
    exact k _ _ (by rw [atF, if_pos g0])
  · refine b_X10_at hst e10 hc ?_
    refine And.intro (fun c1_ => ?_) (fun c1_ => ?_)
    · refine b_X0_hasCount hst hc ?_
      refine And.intro (fun c2_ => ?_) (fun c2_ => ?_)
      · refine And.intro (fun _ => ?_) (fun c_ => absurd c_ (by decide))
        refine b_X10_none hst  ?_
        intro h3_ eh3_
        subst eh3_
        refine k _ _ ?_
        unfold atF
        (repeat' split) <;> first | rfl | (exfalso; omega)
      · refine And.intro (fun c4_ => ?_) (fun c4_ => ?_)
        · refine And.intro (fun _ => ?_) (fun c_ => absurd c_ (by decide))
          refine b_X10_none hst  ?_
          intro h5_ eh5_
          subst eh5_
          refine k _ _ ?_
          unfold atF
          (repeat' split) <;> first | rfl | (exfalso; omega)
        · refine And.intro (fun c_ => absurd c_ (by decide)) (fun _ => ?_)
          refine b_X0_hasMarcher hst hc ?_
          refine And.intro (fun c6_ => ?_) (fun c6_ => ?_)
          · refine And.intro (fun c_ => absurd c_ (by decide)) (fun _ => ?_)
            refine b_X10_none hst  ?_
            intro h7_ eh7_
            subst eh7_
            refine k _ _ ?_
            unfold atF
            (repeat' split) <;> first | rfl | (exfalso; omega)
          · refine And.intro (fun c8_ => ?_) (fun c8_ => ?_)
            · refine And.intro (fun c_ => absurd c_ (by decide)) (fun _ => ?_)
              refine b_X10_none hst  ?_
              intro h9_ eh9_
              subst eh9_
              refine k _ _ ?_
              unfold atF
              (repeat' split) <;> first | rfl | (exfalso; omega)
            · refine And.intro (fun _ => ?_) (fun c_ => absurd c_ (by decide))
              refine And.intro (fun c10_ => ?_) (fun c10_ => ?_)
              · refine And.intro (fun c11_ => ?_) (fun c11_ => ?_)
                · refine And.intro (fun c12_ => ?_) (fun c12_ => ?_)
                  · refine b_X10_none hst  ?_
                    intro h13_ eh13_
                    subst eh13_
                    refine k _ _ ?_
                    unfold atF
                    (repeat' split) <;> first | rfl | (exfalso; omega)
                  · refine x_faceOf hst hc cr (by omega) (by omega) (by omega) (by omega) ?_
                    refine b_X10_answer hst  ?_
                    intro h14_ eh14_
                    subst eh14_
                    refine k _ _ ?_
                    unfold atF
                    (repeat' split) <;> first | rfl | (exfalso; omega)
                · refine x_northOf hst hc cr (by omega) (by omega) (by omega) (by omega) ?_
                  refine b_X10_answer hst  ?_
                  intro h15_ eh15_
                  subst eh15_
                  refine k _ _ ?_
                  unfold atF
                  (repeat' split) <;> first | rfl | (exfalso; omega)
              · refine x_eastOf hst hc cr (by omega) (by omega) (by omega) (by omega) ?_
                refine b_X10_answer hst  ?_
                intro h16_ eh16_
                subst eh16_
                refine k _ _ ?_
                unfold atF
                (repeat' split) <;> first | rfl | (exfalso; omega)
    · refine b_X10_none hst  ?_
      intro h17_ eh17_
      subst eh17_
      refine k _ _ ?_
      unfold atF
      (repeat' split) <;> first | rfl | (exfalso; omega)
theorem x_told {K : Int → qM → Prop} {v l w : Int} {p : Int → Int → Int} (hst : St sh pt) (e10 : pt 0 10 = c) (hc : isC c) (q : cg h c g E N F T M) (hl : h 2 9 = l) (hw : g = 1 → h c 6 = w) (hb : ∀ n, 0 ≤ n → n < 40 → 0 ≤ h 6 n ∧ h 6 n ≤ 1152921504606846975) (hp : ∀ e n, 0 ≤ e → e < 60 → 0 ≤ n → n < 40 → (tb (h 6 n) e = true ↔ p e n ≠ 0)) (k : ∀ r s, (r, s) = toldF g E N p l w T M v → K r (qup h 0 12 s)) : RunI X (d + 3) mX10_told [(2, 0), (0, v)] sh pt h K := by
  rcases q with ⟨g0, q⟩ | ⟨g1, q, cr, hM, hT, M0, T0⟩
  · refine b_X10_told hst e10 hc ⟨fun z => b_X10_none hst (fun h1 e1 => ?_), fun z => ⟨fun z2 => ⟨fun z3 => absurd q z3, fun _ => b_X10_none hst (fun h1 e1 => ?_)⟩, fun z2 => b_X10_none hst (fun h1 e1 => ?_)⟩⟩
    all_goals
      rw [e1]
      refine k _ _ ?_
      unfold toldF
      (repeat' split) <;> first | rfl | (exfalso; omega)
  · have hw := hw g1
    refine b_X10_told hst e10 hc ?_
    refine And.intro (fun c1_ => ?_) (fun c1_ => ?_)
    · refine b_X10_none hst  ?_
      intro h2_ eh2_
      subst eh2_
      refine k _ _ ?_
      unfold toldF
      (repeat' split) <;> first | rfl | (exfalso; omega) | (rw [hw])
    · refine And.intro (fun c3_ => ?_) (fun c3_ => ?_)
      · refine And.intro (fun c4_ => ?_) (fun c4_ => ?_)
        · refine ⟨fun c5_ => ?_, fun c5_ => ?_, fun c5_ => ?_, fun c5_ => ?_, fun c5_ => ?_⟩
          · refine x_clashes hst hc cr hM hT M0 T0 ?_
            refine b_X10_answer hst  ?_
            intro h6_ eh6_
            subst eh6_
            refine k _ _ ?_
            unfold toldF
            (repeat' split) <;> first | rfl | (exfalso; omega) | (rw [hw])
          · refine x_hits hst hc cr hM hT M0 T0 hb hp ?_
            refine b_X10_answer hst  ?_
            intro h7_ eh7_
            subst eh7_
            refine k _ _ ?_
            unfold toldF
            (repeat' split) <;> first | rfl | (exfalso; omega) | (rw [hw])
          · rw [hl]
            refine x_stepsAbove hst hc cr hM hT M0 T0 ?_
            refine b_X10_answer hst  ?_
            intro h8_ eh8_
            subst eh8_
            refine k _ _ ?_
            unfold toldF
            (repeat' split) <;> first | rfl | (exfalso; omega) | (rw [hw])
          · refine b_X10_answer hst  ?_
            intro h9_ eh9_
            subst eh9_
            refine k _ _ ?_
            unfold toldF
            (repeat' split) <;> first | rfl | (exfalso; omega) | (rw [hw])
          · refine x_greatestStep hst hc cr hM hT M0 T0 ?_
            refine b_X10_answer hst  ?_
            intro h10_ eh10_
            subst eh10_
            refine k _ _ ?_
            unfold toldF
            (repeat' split) <;> first | rfl | (exfalso; omega) | (rw [hw])
        · refine b_X10_none hst  ?_
          intro h11_ eh11_
          subst eh11_
          refine k _ _ ?_
          unfold toldF
          (repeat' split) <;> first | rfl | (exfalso; omega) | (rw [hw])
      · refine b_X10_none hst  ?_
        intro h12_ eh12_
        subst eh12_
        refine k _ _ ?_
        unfold toldF
        (repeat' split) <;> first | rfl | (exfalso; omega) | (rw [hw])
theorem x_clash {K : Int → qM → Prop} {v1 v2 : Int} (hst : St sh pt) (e10 : pt 0 10 = c) (hc : isC c) (q : cg h c g E N F T M) (q1 : qI v1) (k : ∀ r s, (r, s) = clashF g E N T M v1 v2 → K r (qup h 0 12 s)) : RunI X (d + 3) mX10_clash [(2, 0), (0, v1), (0, v2)] sh pt h K := by
  have n37 : (-1, 8) = clashF g E N T M v1 v2 → EvI X (d + 3) mX10_clash 37 [(2, 0), (8, -1), (0, v2), (8, -1)] [(0, -1)] sh pt h K := fun e => by
    refine b_X10_clash_37 hst ⟨fun z => absurd rfl z, fun _ => b_X10_none hst (fun h1 e1 => ?_)⟩
    rw [e1]
    exact k _ _ e
  rcases q with ⟨g0, q⟩ | ⟨g1, q, cr, hM, hT, M0, T0⟩
  · refine b_X10_clash hst e10 hc ⟨fun z => b_X10_none hst (fun h1 e1 => ?_), fun z => ⟨fun z2 => ⟨fun z3 => n37 ?_, fun z => absurd q z⟩, fun z2 => b_X10_none hst (fun h1 e1 => ?_)⟩⟩
    · rw [e1]
      refine k _ _ ?_
      rw [clashF, if_pos (by omega)]
    · rw [clashF, if_neg (by omega), if_pos g0]
    · rw [e1]
      refine k _ _ ?_
      rw [clashF, if_pos (by omega)]
  · refine b_X10_clash hst e10 hc ⟨fun z => b_X10_none hst (fun h1 e1 => ?_), fun z => ⟨fun z2 => ⟨fun z3 => absurd z3 (by omega), fun _ => x_findClash hst hc cr hM hT M0 T0 q1 (fun f1 => n37 ?_) (fun f1 f2 => n37 ?_) (fun f1 f2 => ?_)⟩, fun z2 => b_X10_none hst (fun h1 e1 => ?_)⟩⟩
    · rw [e1]
      refine k _ _ ?_
      rw [clashF, if_pos (by omega)]
    · rw [clashF, if_neg (by omega), if_neg (by omega), if_pos f1]
    · rw [clashF, if_neg (by omega), if_neg (by omega), if_neg (by omega), if_pos f2]
    · have e : clashF g E N T M v1 v2 = (deC v2 (-1 - fcO E N T M v1), 0) := by rw [clashF, if_neg (by omega), if_neg (by omega), if_neg (by omega), if_neg (by omega)]
      rw [e] at k
      refine b_X10_clash_37 hst ⟨fun _ => ⟨fun y1 => ⟨fun y2 => b_X0_greaterOfClash hst ⟨by omega, b_X10_answer hst (fun h1 e1 => ?_)⟩, fun y2 => b_X0_lesserOfClash hst ⟨by omega, by omega, b_X10_answer hst (fun h1 e1 => ?_)⟩⟩, fun y1 => b_X0_countOfClash hst ⟨by omega, b_X10_answer hst (fun h1 e1 => ?_)⟩⟩, fun z => absurd z (by omega)⟩
      · rw [e1]
        refine k _ _ ?_
        rw [deC, if_neg y1, if_neg y2]
      · rw [e1]
        refine k _ _ ?_
        rw [deC, if_neg y1, if_pos y2]
      · rw [e1]
        refine k _ _ ?_
        rw [deC, if_pos y1]
    · rw [e1]
      refine k _ _ ?_
      rw [clashF, if_pos (by omega)]
theorem x_dressed {K : Int → qM → Prop} {v1 v2 G s : Int} (hst : St sh pt) (e10 : pt 0 10 = c) (hc : isC c) (q : cg h c g E N F T M) (hG : h 2 8 = G) (G1 : G ≤ 8) (hs : 0 ≤ v1 → v1 < G → h 8 v1 = s ∧ 0 ≤ s ∧ s ≤ 2147483647) (k : ∀ r w, (r, w) = drsF g E N G T M s v1 v2 → K r (qup h 0 12 w)) : RunI X (d + 2) mX10_dressed [(2, 0), (0, v1), (0, v2)] sh pt h K := by
  rcases q with ⟨g0, q⟩ | ⟨g1, q, cr, hM, hT, M0, T0⟩
  · refine b_X10_dressed hst e10 hc ⟨fun z => absurd q z, fun _ => b_X10_none hst (fun h1 e1 => ?_)⟩
    rw [e1]
    exact k _ _ (by rw [drsF, if_pos g0])
  · have bb := cr.1
    refine b_X10_dressed hst e10 hc ⟨fun _ => ⟨fun z => b_X10_none hst (fun h1 e1 => ?_), fun z => ⟨fun z2 => b_X10_none hst (fun h1 e1 => ?_), fun z2 => b_X0_hasCount hst hc ⟨fun y1 => ⟨fun y => absurd rfl y, fun _ => b_X10_none hst (fun h1 e1 => ?_)⟩, fun y1 => ⟨fun y2 => ⟨fun y => absurd rfl y, fun _ => b_X10_none hst (fun h1 e1 => ?_)⟩, fun y2 => ⟨fun _ => ⟨by omega, b_X0_hasAll hst hc ⟨fun x1 => ⟨fun x => absurd rfl x, fun _ => b_X10_none hst (fun h1 e1 => ?_)⟩, fun x1 => ⟨fun _ => ?_, fun x => absurd x (by decide)⟩⟩⟩, fun y => absurd y (by decide)⟩⟩⟩⟩⟩, fun z => absurd z (by omega)⟩
    · rw [e1]
      exact k _ _ (by rw [drsF, if_neg (by omega), if_pos (by omega)])
    · rw [e1]
      exact k _ _ (by rw [drsF, if_neg (by omega), if_pos (by omega)])
    · rw [e1]
      exact k _ _ (by rw [drsF, if_neg (by omega), if_pos (by omega)])
    · rw [e1]
      exact k _ _ (by rw [drsF, if_neg (by omega), if_pos (by omega)])
    · have s1 := hs z (by omega)
      rw [e1]
      rw [s1.1, hM] at x1
      have z0 := q_set0 (v := s) (m := M) s1.2.1 s1.2.2 M0 (by omega)
      exact k _ _ (by rw [drsF, if_neg (by omega), if_neg (by omega), if_pos (Int.not_lt.mp (fun w => x1 (z0.mpr w)))])
    · have s1 := hs z (by omega)
      rw [s1.1, hM] at x1
      rw [s1.1]
      have z0 := q_set0 (v := s) (m := M) s1.2.1 s1.2.2 M0 (by omega)
      have e : drsF g E N G T M s v1 v2 = (drs (tb s) E N v2 M.toNat 0 0 0 0 0, 0) := by rw [drsF, if_neg (by omega), if_neg (by omega), if_neg (Int.not_le.mpr (z0.mp x1))]
      rw [e] at k
      refine x_isDressed hst hc cr hM M0 y1 (by omega) s1.2.1 s1.2.2 ?_
      have e2 := drs_01 (S := tb s) (E := E) (N := N) (t := v2) M.toNat 0 0 0 0 0
      refine ⟨fun w => b_X10_answer hst (fun h1 e1 => ?_), fun w => b_X10_answer hst (fun h1 e1 => ?_)⟩
      · rw [e1]
        exact k _ _ (by rw [w])
      · rw [e1]
        exact k _ _ (by rw [show drs (tb s) E N v2 M.toNat 0 0 0 0 0 = 1 by omega])
theorem x_like {K : Int → qM → Prop} {v1 v2 : Int} (hst : St sh pt) (e10 : pt 0 10 = c) (hc : isC c) (q : cg h c g E N F T M) (k : ∀ r s, (r, s) = likeF g E N T M v1 v2 → ∀ h1, Fr (fun a _ => a = c + 2 ∨ a = c + 3) h h1 → K r (qup h1 0 12 s)) : RunI X (d + 5) mX10_like [(2, 0), (0, v1), (0, v2)] sh pt h K := by
  rcases q with ⟨g0, q⟩ | ⟨g1, q, cr, hM, hT, M0, T0⟩
  · refine b_X10_like hst e10 hc ⟨fun z => absurd q z, fun _ => b_X10_none hst (fun h1 e1 => ?_)⟩
    rw [e1]
    exact k _ _ (by rw [likeF, if_pos g0]) _ Fr.rf
  · refine b_X10_like hst e10 hc ?_
    refine And.intro (fun c1_ => ?_) (fun c1_ => ?_)
    · refine b_X0_hasCount hst hc ?_
      refine And.intro (fun c2_ => ?_) (fun c2_ => ?_)
      · refine And.intro (fun _ => ?_) (fun c_ => absurd c_ (by decide))
        refine b_X10_none hst  ?_
        intro h3_ eh3_
        subst eh3_
        refine k _ _ ?_ _ Fr.rf
        unfold likeF
        (repeat' split) <;> first | rfl | (exfalso; omega)
      · refine And.intro (fun c4_ => ?_) (fun c4_ => ?_)
        · refine And.intro (fun _ => ?_) (fun c_ => absurd c_ (by decide))
          refine b_X10_none hst  ?_
          intro h5_ eh5_
          subst eh5_
          refine k _ _ ?_ _ Fr.rf
          unfold likeF
          (repeat' split) <;> first | rfl | (exfalso; omega)
        · refine And.intro (fun c_ => absurd c_ (by decide)) (fun _ => ?_)
          refine b_X0_hasCount hst hc ?_
          refine And.intro (fun c6_ => ?_) (fun c6_ => ?_)
          · refine And.intro (fun c_ => absurd c_ (by decide)) (fun _ => ?_)
            refine b_X10_none hst  ?_
            intro h7_ eh7_
            subst eh7_
            refine k _ _ ?_ _ Fr.rf
            unfold likeF
            (repeat' split) <;> first | rfl | (exfalso; omega)
          · refine And.intro (fun c8_ => ?_) (fun c8_ => ?_)
            · refine And.intro (fun c_ => absurd c_ (by decide)) (fun _ => ?_)
              refine b_X10_none hst  ?_
              intro h9_ eh9_
              subst eh9_
              refine k _ _ ?_ _ Fr.rf
              unfold likeF
              (repeat' split) <;> first | rfl | (exfalso; omega)
            · refine And.intro (fun _ => ?_) (fun c_ => absurd c_ (by decide))
              refine x_likeness hst hc cr hM M0 (by omega) (by omega) (by omega) (by omega) (fun r1 r2 => ?_)
              have fr : Fr (fun a _ => a = c + 2 ∨ a = c + 3) h (qrow (qrow h (c + 3) r2) (c + 2) r1) := (Fr.rf.row (fun _ => Or.inr rfl)).row (fun _ => Or.inl rfl)
              have bd := lkO_bd (E := E) (N := N) (M := M) (t := v1) (u := v2)
              refine ⟨fun z => b_X10_answer hst (fun h1 e1 => ?_), fun z => b_X10_none hst (fun h1 e1 => ?_)⟩
              · rw [e1]
                exact k _ _ (by rw [likeF, if_neg (by omega), if_neg (by omega), if_neg (by omega)]) _ fr
              · rw [e1]
                exact k _ _ (by rw [likeF, if_neg (by omega), if_neg (by omega), if_pos (by omega)]) _ fr
    · refine b_X10_none hst  ?_
      intro h10_ eh10_
      subst eh10_
      refine k _ _ ?_ _ Fr.rf
      unfold likeF
      (repeat' split) <;> first | rfl | (exfalso; omega)
theorem x_seen {K : Int → qM → Prop} {v1 v2 v3 : Int} (hst : St sh pt) (e10 : pt 0 10 = c) (hc : isC c) (q : cg h c g E N F T M) (k : ∀ r s, (r, s) = seenF g E N T M v1 v2 v3 → K r (qup h 0 12 s)) : RunI X (d + 3) mX10_seen [(2, 0), (0, v1), (0, v2), (0, v3)] sh pt h K := by
  rcases q with ⟨g0, q⟩ | ⟨g1, q, cr, hM, hT, M0, T0⟩
  · refine b_X10_seen hst e10 hc ⟨fun z => absurd q z, fun _ => b_X10_none hst (fun h1 e1 => ?_)⟩
    rw [e1]
    exact k _ _ (by rw [seenF, if_pos g0])
  · refine b_X10_seen hst e10 hc ?_
    refine And.intro (fun c1_ => ?_) (fun c1_ => ?_)
    · refine b_X0_hasCount hst hc ?_
      refine And.intro (fun c2_ => ?_) (fun c2_ => ?_)
      · refine And.intro (fun c_ => absurd c_ (by decide)) (fun _ => ?_)
        refine b_X10_none hst  ?_
        intro h3_ eh3_
        subst eh3_
        refine k _ _ ?_
        unfold seenF
        (repeat' split) <;> first | rfl | (exfalso; omega)
      · refine And.intro (fun c4_ => ?_) (fun c4_ => ?_)
        · refine And.intro (fun c_ => absurd c_ (by decide)) (fun _ => ?_)
          refine b_X10_none hst  ?_
          intro h5_ eh5_
          subst eh5_
          refine k _ _ ?_
          unfold seenF
          (repeat' split) <;> first | rfl | (exfalso; omega)
        · refine And.intro (fun _ => ?_) (fun c_ => absurd c_ (by decide))
          refine And.intro (fun c6_ => ?_) (fun c6_ => ?_)
          · refine b_X10_none hst  ?_
            intro h7_ eh7_
            subst eh7_
            refine k _ _ ?_
            unfold seenF
            (repeat' split) <;> first | rfl | (exfalso; omega)
          · refine And.intro (fun c8_ => ?_) (fun c8_ => ?_)
            · refine b_X10_none hst  ?_
              intro h9_ eh9_
              subst eh9_
              refine k _ _ ?_
              unfold seenF
              (repeat' split) <;> first | rfl | (exfalso; omega)
            · refine And.intro (fun c10_ => ?_) (fun c10_ => ?_)
              · refine b_X10_none hst  ?_
                intro h11_ eh11_
                subst eh11_
                refine k _ _ ?_
                unfold seenF
                (repeat' split) <;> first | rfl | (exfalso; omega)
              · refine And.intro (fun c12_ => ?_) (fun c12_ => ?_)
                · refine x_seenFrom hst hc cr hM M0 (by omega) (by omega) ⟨by omega, by omega⟩ ⟨by omega, by omega⟩ ?_
                  refine b_X10_answer hst  ?_
                  intro h13_ eh13_
                  subst eh13_
                  refine k _ _ ?_
                  unfold seenF
                  (repeat' split) <;> first | rfl | (exfalso; omega)
                · refine b_X10_none hst  ?_
                  intro h14_ eh14_
                  subst eh14_
                  refine k _ _ ?_
                  unfold seenF
                  (repeat' split) <;> first | rfl | (exfalso; omega)
    · refine b_X10_none hst  ?_
      intro h15_ eh15_
      subst eh15_
      refine k _ _ ?_
      unfold seenF
      (repeat' split) <;> first | rfl | (exfalso; omega)
/-! the reference -/
theorem m_at {K : Int → qM → Prop} {v1 v2 v3 : Int} (hst : St sh pt) (q : mg h g E N F T M) (k : ∀ r s, (r, s) = atF g E N F T M v1 v2 v3 → K r (ms h s)) : RunI X (d + 2) mX11_at [(2, 78), (0, v1), (0, v2), (0, v3)] sh pt h K := by
  refine b_X11_at hst (fun h1 e1 h2 e2 => ?_)
  have e3 : h2 = ms h 0 := by rw [e2, e1]; rfl
  subst e3
  have q2 := mg_ms (s := 0) q
  rcases q2 with ⟨g0, q⟩ | ⟨g1, mr, hT, hM⟩
  · refine ⟨fun z => absurd z (by omega), fun _ => m_refuse hst ?_⟩
    exact k _ _ (by rw [atF, if_pos g0])
  · have bb := mr.1
    have cl : ∀ (a : Int) (K2 : Int → qM → Prop), 0 ≤ v1 → v1 ≤ T → 0 ≤ v2 → v2 < M → ((0 ≤ 20 * v1 + v2 ∧ 20 * v1 + v2 < 3020) ∧ K (ms h 0 a (20 * v1 + v2)) (ms h 0)) → RunI X (d + 1) mX11_cell [(0, v1), (0, v2)] sh pt (ms h 0) (fun r h11 => (0 ≤ r ∧ r < 3020) ∧ K (h11 a r) h11) := fun a K2 a1 a2 a3 a4 kk => b_X11_cell hst ⟨⟨by omega, by omega⟩, ⟨by omega, by omega⟩, kk⟩
    refine ⟨fun _ => b_X11_isCount hst (b_X11_isIn hst ⟨fun y1 => ⟨by decide, fun _ => m_refuse hst ?_, fun y => absurd rfl y⟩, fun y1 => ⟨fun y2 => ⟨by decide, fun _ => m_refuse hst ?_, fun y => absurd rfl y⟩, fun y2 => ⟨by decide, fun y => absurd y (by decide), fun _ => ⟨⟨by omega, by omega⟩, b_X11_isIn hst ⟨fun w1 => ⟨fun w => absurd rfl w, fun _ => m_refuse hst ?_⟩, fun w1 => ⟨fun w2 => ⟨fun w => absurd rfl w, fun _ => m_refuse hst ?_⟩, fun w2 => ⟨fun _ => ⟨fun u => ⟨fun u1 => ⟨fun u2 => m_refuse hst ?_, fun u2 => ?_⟩, fun u1 => ?_⟩, fun u => ?_⟩, fun w => absurd w (by decide)⟩⟩⟩⟩⟩⟩⟩), fun z => absurd z (by omega)⟩
    · exact k _ _ (by rw [atF, if_neg (by omega), if_pos (by omega)])
    · exact k _ _ (by rw [atF, if_neg (by omega), if_pos (by omega)])
    · exact k _ _ (by rw [atF, if_neg (by omega), if_pos (by omega)])
    · exact k _ _ (by rw [atF, if_neg (by omega), if_pos (by omega)])
    · exact k _ _ (by rw [atF, if_neg (by omega), if_neg (by omega), if_neg (by omega), if_neg (by omega), if_neg (by omega)])
    · have z := mr.2 v1 v2 y1 (by omega) w1 (by omega)
      refine cl _ K y1 (by omega) w1 (by omega) ⟨by omega, ?_⟩
      rw [z.2.2.1]
      exact k _ _ (by rw [atF, if_neg (by omega), if_neg (by omega), if_neg (by omega), if_neg (by omega), if_pos (by omega)])
    · have z := mr.2 v1 v2 y1 (by omega) w1 (by omega)
      refine cl _ K y1 (by omega) w1 (by omega) ⟨by omega, ?_⟩
      rw [z.2.1]
      exact k _ _ (by rw [atF, if_neg (by omega), if_neg (by omega), if_neg (by omega), if_pos (by omega)])
    · have z := mr.2 v1 v2 y1 (by omega) w1 (by omega)
      refine cl _ K y1 (by omega) w1 (by omega) ⟨by omega, ?_⟩
      rw [z.1]
      exact k _ _ (by rw [atF, if_neg (by omega), if_neg (by omega), if_pos (by omega)])
theorem m_told9 {K : Int → qM → Prop} {v l w : Int} {p : Int → Int → Int} (hst : St sh pt) (q : mg h g E N F T M) (hp : ∀ e n : Int, 0 ≤ e → e < 60 → 0 ≤ n → n < 40 → h 86 (40 * e + n) = p e n) (hl : h 78 10 = l) (hw : g = 1 → h 78 52 = w) (k : ∀ r s, (r, s) = toldF g E N p l w T M v → K r (ms h s)) : RunI X (d + 3) mX11_told [(2, 78), (0, v)] sh pt h K := by
  have e8 : ∀ s : Int, qup (qup (qup h 78 1 0) 78 0 0) 78 0 s = ms h s := fun s => ms_up
  rcases q with ⟨g0, q⟩ | ⟨g1, mr, hT, hM⟩
  · refine m_told (E := E) (N := N) (F := F) (T := T) (M := M) (l := l) hst ?_ ?_ (fun z => absurd z (by omega)) hp hl (fun z => absurd z (by omega)) (fun z => absurd z (by omega)) (fun z => absurd z (by omega)) (fun z => absurd z (by omega)) (fun z => absurd z (by omega))
    · intro z
      rw [e8]
      exact k _ _ (by rw [toldF, if_pos z])
    · intro z1 z2 z3
      rw [e8]
      exact k _ _ (by rw [toldF, if_neg (by omega), if_pos g0])
  · have bb := mr.1
    refine m_told (E := E) (N := N) (F := F) (T := T) (M := M) (l := l) hst ?_ (fun z1 z2 z3 => absurd z3 (by omega)) (fun _ => ⟨mr, hT, hM⟩) hp hl (fun z z2 => ?_) (fun z z2 => ?_) (fun z z2 => ?_) (fun z z2 => ?_) (fun z z2 => ?_)
    · intro z
      rw [e8]
      exact k _ _ (by rw [toldF, if_pos z])
    · exact k _ _ (by rw [hw g1, toldF, if_neg (by omega), if_neg (by omega), if_neg (by omega), if_neg (by omega), if_neg (by omega), if_pos z2])
    · exact k _ _ (by rw [toldF, if_neg (by omega), if_neg (by omega), if_pos z2])
    · exact k _ _ (by rw [toldF, if_neg (by omega), if_neg (by omega), if_neg (by omega), if_pos z2])
    · exact k _ _ (by rw [toldF, if_neg (by omega), if_neg (by omega), if_neg (by omega), if_neg (by omega), if_pos z2])
    · exact k _ _ (by rw [toldF, if_neg (by omega), if_neg (by omega), if_neg (by omega), if_neg (by omega), if_neg (by omega), if_neg (by omega)])
theorem m_clash {K : Int → qM → Prop} {v1 v2 : Int} (hst : St sh pt) (q : mg h g E N F T M) (q1 : qI v1) (k : ∀ r s, (r, s) = clashF g E N T M v1 v2 → K r (ms h s)) : RunI X (d + 3) mX11_clash [(2, 78), (0, v1), (0, v2)] sh pt h K := by
  refine b_X11_clash hst (fun h1 e1 h2 e2 => ?_)
  have e3 : h2 = ms h 0 := by rw [e2, e1]; rfl
  subst e3
  have q2 := mg_ms (s := 0) q
  refine b_X11_isIn hst ⟨fun z => ⟨fun y => absurd rfl y, fun _ => m_refuse hst (k _ _ (by rw [clashF, if_pos (by omega)]))⟩, fun z => ⟨fun z2 => ⟨fun y => absurd rfl y, fun _ => m_refuse hst (k _ _ (by rw [clashF, if_pos (by omega)]))⟩, fun z2 => ⟨fun _ => ?_, fun y => absurd y (by decide)⟩⟩⟩
  rcases q2 with ⟨g0, q⟩ | ⟨g1, mr, hh⟩
  · exact ⟨fun y => absurd y (by omega), fun _ => m_refuse hst (k _ _ (by rw [clashF, if_neg (by omega), if_pos g0]))⟩
  · have bb := mr.1
    have h2 := hh.2
    refine ⟨fun _ => ?_, fun y => absurd y (by omega)⟩
    by_cases k0 : v1 < 0
    · exact m_clash_n hst mr hh k0 (m_refuse hst (k _ _ (by rw [clashF, if_neg (by omega), if_neg (by omega), if_pos k0])))
    · exact m_clash_p hst mr hh (by omega) q1 (fun f => m_refuse hst (k _ _ (by rw [clashF, if_neg (by omega), if_neg (by omega), if_neg k0, if_pos f]))) (fun f => k _ _ (by rw [clashF, if_neg (by omega), if_neg (by omega), if_neg k0, if_neg (by omega)]))
theorem m_dressed {K : Int → qM → Prop} {v1 v2 G s : Int} (hst : St sh pt) (q : mg h g E N F T M) (hG : h 78 9 = G) (G0 : 0 ≤ G) (G1 : G ≤ 8) (hs : 0 ≤ v1 → v1 < G → h 85 v1 = s ∧ 0 ≤ s ∧ s ≤ 2147483647) (k : ∀ r w, (r, w) = drsF g E N G T M s v1 v2 → K r (ms h w)) : RunI X (d + 2) mX11_dressed [(2, 78), (0, v1), (0, v2)] sh pt h K := by
  refine b_X11_dressed hst (fun h1 e1 h2 e2 => ?_)
  have e3 : h2 = ms h 0 := by rw [e2, e1]; rfl
  subst e3
  have q2 := mg_ms (s := 0) q
  have hG2 : ms h 0 78 9 = G := by rw [ms_of2 (by decide)]; exact hG
  rcases q2 with ⟨g0, q⟩ | ⟨g1, mr, hh⟩
  · exact ⟨fun y => absurd y (by omega), fun _ => m_refuse hst (k _ _ (by rw [drsF, if_pos g0]))⟩
  · have bb := mr.1
    have h1 := hh.1
    have h2 := hh.2
    rw [hG2, h2]
    refine ⟨fun _ => ⟨⟨by omega, by omega⟩, b_X11_isIn hst ⟨fun y => ⟨fun _ => m_refuse hst (k _ _ (by rw [drsF, if_neg (by omega), if_pos (by omega)])), fun z => absurd rfl z⟩, fun y => ⟨fun y2 => ⟨fun _ => m_refuse hst (k _ _ (by rw [drsF, if_neg (by omega), if_pos (by omega)])), fun z => absurd rfl z⟩, fun y2 => ⟨fun z => absurd z (by decide), fun _ => b_X11_isCount hst (b_X11_isIn hst ⟨fun u => ⟨by decide, fun _ => m_refuse hst (k _ _ (by rw [drsF, if_neg (by omega), if_pos (by omega)])), fun z => absurd rfl z⟩, fun u => ⟨fun u2 => ⟨by decide, fun _ => m_refuse hst (k _ _ (by rw [drsF, if_neg (by omega), if_pos (by omega)])), fun z => absurd rfl z⟩, fun u2 => ⟨by decide, fun z => absurd z (by decide), fun _ => ⟨⟨by omega, by omega⟩, ?_⟩⟩⟩⟩)⟩⟩⟩⟩, fun y => absurd y (by omega)⟩
    have s1 := hs y (by omega)
    have s2 : ms h 0 85 v1 = s := by rw [ms_of (by decide)]; exact s1.1
    rw [s2, h2]
    refine ⟨fun w => ?_, fun w => m_refuse hst (k _ _ (by rw [drsF, if_neg (by omega), if_neg (by omega), if_pos w]))⟩
    refine m_dressed_l hst mr hh ⟨y, by omega⟩ s2 u (by omega) s1.2.1 s1.2.2 M.toNat 0 0 0 (-1) 0 0 (by decide) (by omega) (by decide) (by decide) (Or.inl ⟨rfl, rfl⟩) ?_
    exact k _ _ (by rw [drsF, if_neg (by omega), if_neg (by omega), if_neg (by omega)])
theorem m_same {K : Int → qM → Prop} {t w : Int} (hst : St sh pt) (hM : h 78 50 = M) (M1 : M ≤ 20) (w0 : 0 ≤ w) (w1 : w < 8) (k1 : (∀ j, 0 ≤ j → j < M → h 113 j = h 114 j) → K w h) (k0 : ¬ (∀ j, 0 ≤ j → j < M → h 113 j = h 114 j) → EvI X (d + 1) mX11_like 58 [(2, 78), (0, t), (8, -1), (0, w + 1), (8, -1), (8, -1)] [] sh pt h K) : ∀ (k : Nat) (i b : Int), 0 ≤ i → i + k = M → (b = 1 ∧ (∀ j, 0 ≤ j → j < i → h 113 j = h 114 j) ∨ b = 0 ∧ ¬ (∀ j, 0 ≤ j → j < i → h 113 j = h 114 j)) → EvI X (d + 1) mX11_like 80 [(2, 78), (0, t), (8, -1), (0, w), (0, b), (0, i)] [] sh pt h K := by
  intro k
  induction k with
  | zero =>
    intro i b i0 e q
    refine b_X11_like_80 hst ⟨fun _ => ⟨fun z => ⟨⟨by omega, by omega⟩, k0 (fun y => ?_)⟩, fun z => k1 (fun j a b => ?_)⟩, fun q => absurd q (by omega)⟩
    · rcases q with q | q
      · omega
      · exact q.2 (fun j a b => y j a (by omega))
    · rcases q with q | q
      · exact q.2 j a (by omega)
      · omega
  | succ k ih =>
    intro i b i0 e q
    refine b_X11_like_80 hst ⟨fun q => absurd q (by omega), fun _ => ⟨fun z => ⟨⟨by omega, by omega⟩, ih _ _ (by omega) (by omega) (Or.inr ⟨rfl, fun y => ?_⟩)⟩, fun z => ⟨by omega, by omega, fun z2 => ⟨⟨by omega, by omega⟩, ih _ _ (by omega) (by omega) (Or.inr ⟨rfl, fun y => z2 (y i i0 (by omega))⟩)⟩, fun z2 => ⟨⟨by omega, by omega⟩, ih _ _ (by omega) (by omega) (Or.inl ⟨rfl, fun j a b => ?_⟩)⟩⟩⟩⟩
    · rcases q with q | q
      · omega
      · exact q.2 (fun j a b => y j a (by omega))
    · by_cases e2 : j = i
      · rw [e2]; exact z2
      · rcases q with q | q
        · exact q.2 j a (by omega)
        · omega
theorem mhd_row {a : Int} {r : Int → Int} (mr : mhd h T M) (e : a = 113 ∨ a = 114) : mhd (qrow h a r) T M := by
  unfold mhd at mr ⊢
  rw [qrow_of (by omega), qrow_of (by omega)]
  exact mr
theorem qrow_ms {a s : Int} {r : Int → Int} (e : ¬ a = 78) : qup (qrow h a r) 78 0 s = qrow (qup h 78 0 s) a r := by
  funext x i
  unfold qup qrow
  by_cases e2 : x = a
  · rw [if_neg (fun z => e (by rw [← e2]; exact z.1)), if_pos e2, if_pos e2]
  · rw [if_neg e2, if_neg e2]
theorem m_like {K : Int → qM → Prop} {v1 v2 : Int} (hst : St sh pt) (q : mg h g E N F T M) (k : ∀ r s, (r, s) = likeF g E N T M v1 v2 → ∀ h1, Fr (fun a _ => a = 113 ∨ a = 114) (ms h s) h1 → K r h1) : RunI X (d + 2) mX11_like [(2, 78), (0, v1), (0, v2)] sh pt h K := by
  refine b_X11_like hst (fun h1 e1 h2 e2 => ?_)
  have e3 : h2 = ms h 0 := by rw [e2, e1]; rfl
  subst e3
  have q2 := mg_ms (s := 0) q
  rcases q2 with ⟨g0, q⟩ | ⟨g1, mr, hh⟩
  · exact ⟨fun y => absurd y (by omega), fun _ => m_refuse hst (k _ _ (by rw [likeF, if_pos g0]) _ Fr.rf)⟩
  · have bb := mr.1
    have h1 := hh.1
    have h2 := hh.2
    refine ⟨fun _ => b_X11_isCount hst (b_X11_isIn hst ⟨fun y => ⟨by decide, fun _ => m_refuse hst (k _ _ (by rw [likeF, if_neg (by omega), if_pos (by omega)]) _ Fr.rf), fun z => absurd rfl z⟩, fun y => ⟨fun y2 => ⟨by decide, fun _ => m_refuse hst (k _ _ (by rw [likeF, if_neg (by omega), if_pos (by omega)]) _ Fr.rf), fun z => absurd rfl z⟩, fun y2 => ⟨by decide, fun z => absurd z (by decide), fun _ => b_X11_isCount hst (b_X11_isIn hst ⟨fun u => ⟨by decide, fun z => absurd rfl z, fun _ => m_refuse hst (k _ _ (by rw [likeF, if_neg (by omega), if_pos (by omega)]) _ Fr.rf)⟩, fun u => ⟨fun u2 => ⟨by decide, fun z => absurd rfl z, fun _ => m_refuse hst (k _ _ (by rw [likeF, if_neg (by omega), if_pos (by omega)]) _ Fr.rf)⟩, fun u2 => ⟨by decide, fun _ => m_figure hst (Or.inr rfl) mr hh u (by omega) (by decide) (by decide) (fun r2 f2 => ?_), fun z => absurd z (by decide)⟩⟩⟩)⟩⟩⟩), fun y => absurd y (by omega)⟩
    have e9 : likeF g E N T M v1 v2 = if lkO E N M v1 v2 < 0 then (-1, 8) else (lkO E N M v1 v2, 0) := by rw [likeF, if_neg (by omega), if_neg (by omega)]
    rw [e9] at k
    have z : ∀ (k : Nat) (w : Int) (r1 : Int → Int), 0 ≤ w → w + k = 8 → (∀ r1 : Int → Int, (fo (fun w a => if 0 ≤ a ∨ smB E N M v1 w v2 = 0 then a else w) w 8 (-1) < 0 → K (-1) (qrow (qrow (ms h 8) 114 r2) 113 r1)) ∧ (0 ≤ fo (fun w a => if 0 ≤ a ∨ smB E N M v1 w v2 = 0 then a else w) w 8 (-1) → K (fo (fun w a => if 0 ≤ a ∨ smB E N M v1 w v2 = 0 then a else w) w 8 (-1)) (qrow (qrow (ms h 0) 114 r2) 113 r1))) → EvI X (d + 2) mX11_like 58 [(2, 78), (0, v1), (8, -1), (0, w), (8, -1), (8, -1)] [] sh pt (qrow (qrow (ms h 0) 114 r2) 113 r1) K := by
      intro k
      induction k with
      | zero =>
        intro w r1 w0 e kk
        rw [fo_end (by omega)] at kk
        refine b_X11_like_58 hst ⟨fun _ => b_X11_refuse hst (fun h1 e1 => ?_), fun q => absurd q (by omega)⟩
        rw [e1, qrow_ms (by decide), qrow_ms (by decide), ms_up]
        exact (kk r1).1 (by decide)
      | succ k ih =>
        intro w r1 w0 e kk
        have mr3 : mrel (qrow (qrow (ms h 0) 114 r2) 113 r1) E N F T M := mrel_row (mrel_row mr (Or.inr rfl)) (Or.inl rfl)
        have hh3 : mhd (qrow (qrow (ms h 0) 114 r2) 113 r1) T M := mhd_row (mhd_row hh (Or.inr rfl)) (Or.inl rfl)
        refine b_X11_like_58 hst ⟨fun q => absurd q (by omega), fun _ => m_figure hst (Or.inl rfl) mr3 hh3 y (by omega) w0 (by omega) (fun r3 f3 => ?_)⟩
        rw [qrow_qrow]
        have hh4 : mhd (qrow (qrow (ms h 0) 114 r2) 113 r3) T M := mhd_row (mhd_row hh (Or.inr rfl)) (Or.inl rfl)
        have g1 : ∀ j, qrow (qrow (ms h 0) 114 r2) 113 r3 113 j = r3 j := fun j => qrow_at
        have g2 : ∀ j, qrow (qrow (ms h 0) 114 r2) 113 r3 114 j = r2 j := fun j => by rw [qrow_of (by decide), qrow_at]
        rw [fo_step (by omega)] at kk
        try dsimp only at kk
        refine m_same hst hh4.2 bb.2.2.2 w0 (by omega) (fun sm => ?_) (fun sm => ?_) M.toNat 0 1 (by decide) (by omega) (Or.inl ⟨rfl, fun j a b => absurd a (by omega)⟩)
        · have s : same E N M v1 w v2 := fun j a b => by
            have := sm j a b
            rw [g1, g2, f3 j a b, f2 j a b] at this
            exact this
          rw [smB_t s, if_neg (by omega)] at kk
          have e9 : fo (fun w a => if 0 ≤ a ∨ smB E N M v1 w v2 = 0 then a else w) (w + 1) 8 w = w := by
            refine fo_inv (fun _ a => a = w) (fun j a _ _ q => ?_) (by omega) rfl
            try dsimp only at q ⊢
            rw [if_pos (by omega)]
            exact q
          rw [e9] at kk
          exact (kk r3).2 w0
        · have s : ¬ same E N M v1 w v2 := fun s => sm (fun j a b => by
            rw [g1, g2, f3 j a b, f2 j a b]
            exact s j a b)
          rw [smB_f s, if_pos (by omega)] at kk
          exact ih (w + 1) r3 (by omega) (by omega) kk
    have e0 : qrow (ms h 0) 114 r2 = qrow (qrow (ms h 0) 114 r2) 113 (qrow (ms h 0) 114 r2 113) := qrow_id.symm
    have z0 := z 8 0 (qrow (ms h 0) 114 r2 113) (by decide) (by decide) (fun r1 => ⟨fun w => ?_, fun w => ?_⟩)
    · rw [← e0] at z0
      exact z0
    · have w : lkO E N M v1 v2 < 0 := w
      exact k _ _ (by rw [if_pos w]) _ ((Fr.rf.row (fun _ => Or.inr rfl)).row (fun _ => Or.inl rfl))
    · have w : 0 ≤ lkO E N M v1 v2 := w
      exact k _ _ (by rw [if_neg (by omega)]; rfl) _ ((Fr.rf.row (fun _ => Or.inr rfl)).row (fun _ => Or.inl rfl))
theorem m_hides {K : Int → qM → Prop} {t j m x b : Int} (hst : St sh pt) (mr : mrel h E N F T M) (t0 : 0 ≤ t) (t1 : t ≤ T) (j0 : 0 ≤ j) (j1 : j < M) (m0 : 0 ≤ m) (m1 : m < M) (x0 : 0 ≤ x ∧ x < 60) (b0 : 1 ≤ b ∧ b ≤ 40) (k1 : hid E N t x b m j → K 1 h) (k0 : ¬ hid E N t x b m j → K 0 h) : RunI X (d + 1) mX11_hides [(2, 78), (0, t), (0, j), (0, m), (0, x), (0, b)] sh pt h K := by
  have bb := mr.1
  have zm := mr.2 t m t0 t1 m0 m1
  have zj := mr.2 t j t0 t1 j0 j1
  have p1 := mul_bd (x := E t j - x) (y := N t m + b) (a := 60) (b := 80) (by omega) (by omega) (by omega) (by omega)
  have p2 := mul_bd (x := E t m - x) (y := N t j + b) (a := 60) (b := 80) (by omega) (by omega) (by omega) (by omega)
  rw [Int.mul_comm (E t j - x)] at p1
  refine b_X11_hides hst (b_X11_cell hst ⟨⟨by omega, by omega⟩, ⟨by omega, by omega⟩, by omega, ?_⟩)
  rw [zm.1]
  refine ⟨⟨by omega, by omega⟩, b_X11_cell hst ⟨⟨by omega, by omega⟩, ⟨by omega, by omega⟩, by omega, ?_⟩⟩
  rw [zm.2.1]
  refine ⟨⟨by omega, by omega⟩, b_X11_cell hst ⟨⟨by omega, by omega⟩, ⟨by omega, by omega⟩, by omega, ?_⟩⟩
  rw [zj.1]
  refine ⟨⟨by omega, by omega⟩, b_X11_cell hst ⟨⟨by omega, by omega⟩, ⟨by omega, by omega⟩, by omega, ?_⟩⟩
  rw [zj.2.1]
  exact ⟨⟨by omega, by omega⟩, ⟨by omega, by omega⟩, ⟨by omega, by omega⟩, fun q => k0 (fun z => q z.1), fun q => ⟨fun q2 => k0 (fun z => by have := z.2; omega), fun q2 => k1 ⟨q, q2⟩⟩⟩
theorem m_seen {K : Int → qM → Prop} {v1 v2 v3 : Int} (hst : St sh pt) (q : mg h g E N F T M) (k : ∀ r s, (r, s) = seenF g E N T M v1 v2 v3 → K r (ms h s)) : RunI X (d + 2) mX11_seen [(2, 78), (0, v1), (0, v2), (0, v3)] sh pt h K := by
  refine b_X11_seen hst (fun h1 e1 h2 e2 => ?_)
  have e3 : h2 = ms h 0 := by rw [e2, e1]; rfl
  subst e3
  have q2 := mg_ms (s := 0) q
  rcases q2 with ⟨g0, q⟩ | ⟨g1, mr, hh⟩
  · exact ⟨fun y => absurd y (by omega), fun _ => m_refuse hst (k _ _ (by rw [seenF, if_pos g0]))⟩
  · have bb := mr.1
    have h1 := hh.1
    have h2 := hh.2
    refine ⟨fun _ => b_X11_isCount hst (b_X11_isIn hst ⟨fun y => ⟨by decide, fun z => absurd rfl z, fun _ => m_refuse hst (k _ _ (by rw [seenF, if_neg (by omega), if_pos (by omega)]))⟩, fun y => ⟨fun y2 => ⟨by decide, fun z => absurd rfl z, fun _ => m_refuse hst (k _ _ (by rw [seenF, if_neg (by omega), if_pos (by omega)]))⟩, fun y2 => ⟨by decide, fun _ => b_X11_isIn hst ⟨fun u => ⟨fun _ => m_refuse hst (k _ _ (by rw [seenF, if_neg (by omega), if_neg (by omega), if_pos (by omega)])), fun z => absurd rfl z⟩, fun u => ⟨fun u2 => ⟨fun _ => m_refuse hst (k _ _ (by rw [seenF, if_neg (by omega), if_neg (by omega), if_pos (by omega)])), fun z => absurd rfl z⟩, fun u2 => ⟨fun z => absurd z (by decide), fun _ => b_X11_isIn hst ⟨fun w => ⟨fun z => absurd rfl z, fun _ => m_refuse hst (k _ _ (by rw [seenF, if_neg (by omega), if_neg (by omega), if_pos (by omega)]))⟩, fun w => ⟨fun w2 => ⟨fun z => absurd rfl z, fun _ => m_refuse hst (k _ _ (by rw [seenF, if_neg (by omega), if_neg (by omega), if_pos (by omega)]))⟩, fun w2 => ⟨fun _ => ?_, fun z => absurd z (by decide)⟩⟩⟩⟩⟩⟩, fun z => absurd z (by decide)⟩⟩⟩), fun y => absurd y (by omega)⟩
    have e9 : seenF g E N T M v1 v2 v3 = (seO E N M v1 v2 v3, 0) := by rw [seenF, if_neg (by omega), if_neg (by omega), if_neg (by omega)]
    rw [e9] at k
    have k := k _ _ rfl
    refine fo_loop (f := fun m a => a + seI E N M v1 v2 v3 m) (n := M) (fun m a => 0 ≤ a ∧ a ≤ m) (fun m a => EvI X (d + 2) mX11_seen 74 [(2, 78), (0, v1), (0, v2), (0, v3), (0, a), (0, m), (8, -1), (8, -1)] [] sh pt (ms h 0) K) ?_ bb.2.2.1 (by omega) (fun _ => b_X11_seen_74 hst ⟨fun _ => k, fun q => absurd q (by omega)⟩)
    intro m a m0 m1 j
    try dsimp only at j ⊢
    have s := seI_01 (E := E) (N := N) (M := M) (t := v1) (x := v2) (b := v3) (m := m) bb.2.2.1
    refine ⟨by omega, fun kk => b_X11_seen_74 hst ⟨fun q => absurd q (by omega), fun _ => ?_⟩⟩
    refine fo_loop (σ := Int) (f := fun k a => if a = 0 ∨ hid E N v1 v2 v3 m k then 0 else 1) (n := M) (a := 1) (fun j a => a = 0 ∨ a = 1) (fun j e => EvI X (d + 2) mX11_seen 89 [(2, 78), (0, v1), (0, v2), (0, v3), (0, a), (0, m), (0, e), (0, j)] [] sh pt (ms h 0) K) ?_ bb.2.2.1 (Or.inr rfl) ?_
    · intro j2 e j20 j21 q5
      try dsimp only at q5 ⊢
      by_cases e2 : e = 0 ∨ hid E N v1 v2 v3 m j2
      · rw [if_pos e2]
        refine ⟨Or.inl rfl, fun kk => b_X11_seen_89 hst ⟨fun q => absurd q (by omega), fun _ => ⟨fun z => ⟨⟨by omega, by omega⟩, kk⟩, fun z => m_hides hst mr y (by omega) j20 j21 m0 m1 ⟨u, by omega⟩ ⟨w, by omega⟩ (fun hd => ⟨fun _ => ⟨⟨by omega, by omega⟩, kk⟩, fun z => absurd z (by decide)⟩) (fun hd => ?_)⟩⟩⟩
        rcases e2 with e2 | e2
        · exact absurd e2 z
        · exact absurd e2 hd
      · rw [if_neg e2]
        refine ⟨Or.inr rfl, fun kk => b_X11_seen_89 hst ⟨fun q => absurd q (by omega), fun _ => ⟨fun z => absurd (Or.inl z) e2, fun z => m_hides hst mr y (by omega) j20 j21 m0 m1 ⟨u, by omega⟩ ⟨w, by omega⟩ (fun hd => absurd (Or.inr hd) e2) (fun hd => ⟨fun z => absurd rfl z, fun _ => ⟨⟨by omega, by omega⟩, kk⟩⟩)⟩⟩⟩
    · intro q5
      have e8 : fo (fun k a => if a = 0 ∨ hid E N v1 v2 v3 m k then 0 else 1) 0 M 1 = seI E N M v1 v2 v3 m := rfl
      try dsimp only at q5 ⊢
      rw [e8]
      refine b_X11_seen_89 hst ⟨fun _ => ⟨fun z => ⟨⟨by omega, by omega⟩, ⟨by omega, by omega⟩, ?_⟩, fun z => ⟨⟨by omega, by omega⟩, ⟨by omega, by omega⟩, ?_⟩⟩, fun q => absurd q (by omega)⟩
      · rw [z] at kk
        exact kk
      · rw [show seI E N M v1 v2 v3 m = 1 by omega] at kk
        exact kk
end
