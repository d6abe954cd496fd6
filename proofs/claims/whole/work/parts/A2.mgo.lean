/-! the reference goes one order: the memory is the class's below 78, S from there on -/
def mrg (b S : qM) : qM := fun a i => if a < 78 then b a i else S a i
theorem mrg_78 {b S : qM} {i : Int} : mrg b S 78 i = S 78 i := if_neg (by decide)
theorem mrg_82 {b S : qM} {i : Int} : mrg b S 82 i = S 82 i := if_neg (by decide)
theorem mrg_83 {b S : qM} {i : Int} : mrg b S 83 i = S 83 i := if_neg (by decide)
theorem mrg_84 {b S : qM} {i : Int} : mrg b S 84 i = S 84 i := if_neg (by decide)
theorem mrg_89 {b S : qM} {i : Int} : mrg b S 89 i = S 89 i := if_neg (by decide)
theorem mrg_90 {b S : qM} {i : Int} : mrg b S 90 i = S 90 i := if_neg (by decide)
theorem mrg_94 {b S : qM} {i : Int} : mrg b S 94 i = S 94 i := if_neg (by decide)
theorem mrg_95 {b S : qM} {i : Int} : mrg b S 95 i = S 95 i := if_neg (by decide)
theorem mrg_96 {b S : qM} {i : Int} : mrg b S 96 i = S 96 i := if_neg (by decide)
theorem mrg_97 {b S : qM} {i : Int} : mrg b S 97 i = S 97 i := if_neg (by decide)
theorem mrg_98 {b S : qM} {i : Int} : mrg b S 98 i = S 98 i := if_neg (by decide)
theorem mrg_99 {b S : qM} {i : Int} : mrg b S 99 i = S 99 i := if_neg (by decide)
theorem mrg_106 {b S : qM} {i : Int} : mrg b S 106 i = S 106 i := if_neg (by decide)
theorem mrg_107 {b S : qM} {i : Int} : mrg b S 107 i = S 107 i := if_neg (by decide)
theorem mrg_108 {b S : qM} {i : Int} : mrg b S 108 i = S 108 i := if_neg (by decide)
theorem mrg_109 {b S : qM} {i : Int} : mrg b S 109 i = S 109 i := if_neg (by decide)
theorem mrg_110 {b S : qM} {i : Int} : mrg b S 110 i = S 110 i := if_neg (by decide)
theorem mrg_111 {b S : qM} {i : Int} : mrg b S 111 i = S 111 i := if_neg (by decide)
theorem mrg_112 {b S : qM} {i : Int} : mrg b S 112 i = S 112 i := if_neg (by decide)
theorem mrgu_78 {b S : qM} {i v : Int} : qup (mrg b S) 78 i v = mrg b (qup S 78 i v) := by
  funext x y
  unfold qup mrg
  by_cases c : x < 78
  · rw [if_pos c, if_pos c, if_neg (by omega)]
  · rw [if_neg c, if_neg c]
theorem mrgu_106 {b S : qM} {i v : Int} : qup (mrg b S) 106 i v = mrg b (qup S 106 i v) := by
  funext x y
  unfold qup mrg
  by_cases c : x < 78
  · rw [if_pos c, if_pos c, if_neg (by omega)]
  · rw [if_neg c, if_neg c]
theorem mrgu_107 {b S : qM} {i v : Int} : qup (mrg b S) 107 i v = mrg b (qup S 107 i v) := by
  funext x y
  unfold qup mrg
  by_cases c : x < 78
  · rw [if_pos c, if_pos c, if_neg (by omega)]
  · rw [if_neg c, if_neg c]
theorem mrgu_108 {b S : qM} {i v : Int} : qup (mrg b S) 108 i v = mrg b (qup S 108 i v) := by
  funext x y
  unfold qup mrg
  by_cases c : x < 78
  · rw [if_pos c, if_pos c, if_neg (by omega)]
  · rw [if_neg c, if_neg c]
theorem mrgu_109 {b S : qM} {i v : Int} : qup (mrg b S) 109 i v = mrg b (qup S 109 i v) := by
  funext x y
  unfold qup mrg
  by_cases c : x < 78
  · rw [if_pos c, if_pos c, if_neg (by omega)]
  · rw [if_neg c, if_neg c]
theorem mrgu_110 {b S : qM} {i v : Int} : qup (mrg b S) 110 i v = mrg b (qup S 110 i v) := by
  funext x y
  unfold qup mrg
  by_cases c : x < 78
  · rw [if_pos c, if_pos c, if_neg (by omega)]
  · rw [if_neg c, if_neg c]
theorem mrgu_111 {b S : qM} {i v : Int} : qup (mrg b S) 111 i v = mrg b (qup S 111 i v) := by
  funext x y
  unfold qup mrg
  by_cases c : x < 78
  · rw [if_pos c, if_pos c, if_neg (by omega)]
  · rw [if_neg c, if_neg c]
theorem mrgu_112 {b S : qM} {i v : Int} : qup (mrg b S) 112 i v = mrg b (qup S 112 i v) := by
  funext x y
  unfold qup mrg
  by_cases c : x < 78
  · rw [if_pos c, if_pos c, if_neg (by omega)]
  · rw [if_neg c, if_neg c]
section
variable {X : qX} {d : Nat} {sh : qS} {pt h b S S0 : qM} {o i j n : Int}
theorem m_eOf {K : Int → qM → Prop} {f : Int} (hst : St sh pt) (k : K (eOf f) h) : RunI X d mX11_eastOf [(0, f)] sh pt h K := by
  unfold eOf at k
  refine b_X11_eastOf hst ⟨fun q => ?_, fun q => ⟨fun q2 => ⟨fun q3 => ?_, fun q3 => ?_⟩, fun q2 => ?_⟩⟩
  · rw [if_pos (by omega)] at k; exact k
  · rw [if_neg (by omega), if_neg (by omega)] at k; exact k
  · rw [if_neg (by omega), if_pos (by omega)] at k; exact k
  · rw [if_pos (by omega)] at k; exact k
theorem m_nOf {K : Int → qM → Prop} {f : Int} (hst : St sh pt) (k : K (nOf f) h) : RunI X d mX11_northOf [(0, f)] sh pt h K := by
  unfold nOf at k
  refine b_X11_northOf hst ⟨fun q => ?_, fun q => ⟨fun q2 => ⟨fun q3 => ?_, fun q3 => ⟨fun q4 => ?_, fun q4 => ?_⟩⟩, fun q2 => ?_⟩⟩
  · rw [if_pos (by omega)] at k; exact k
  · rw [if_neg (by omega), if_neg (by omega)] at k; exact k
  · rw [if_neg (by omega), if_neg (by omega)] at k; exact k
  · rw [if_neg (by omega), if_pos (by omega)] at k; exact k
  · rw [if_pos (by omega)] at k; exact k
theorem m_isSp {K : Int → qM → Prop} {e n : Int} (hst : St sh pt) (k1 : onG e n → K 1 h) (k0 : ¬ onG e n → K 0 h) : RunI X (d + 1) mX11_isSpot [(0, e), (0, n)] sh pt h K := by
  refine b_X11_isSpot hst  ?_
  refine b_X11_isIn hst  ?_
  refine And.intro (fun c1_ => ?_) (fun c1_ => ?_)
  · refine And.intro (fun _ => ?_) (fun c_ => absurd c_ (by decide))
    first | exact k1 ⟨⟨by omega, by omega⟩, by omega, by omega⟩ | exact k0 (fun z => by have := z.1; have := z.2; omega)
  · refine And.intro (fun c2_ => ?_) (fun c2_ => ?_)
    · refine And.intro (fun _ => ?_) (fun c_ => absurd c_ (by decide))
      first | exact k1 ⟨⟨by omega, by omega⟩, by omega, by omega⟩ | exact k0 (fun z => by have := z.1; have := z.2; omega)
    · refine And.intro (fun c_ => absurd c_ (by decide)) (fun _ => ?_)
      refine b_X11_isIn hst  ?_
      refine And.intro (fun c3_ => ?_) (fun c3_ => ?_)
      · refine And.intro (fun _ => ?_) (fun c_ => absurd c_ (by decide))
        first | exact k1 ⟨⟨by omega, by omega⟩, by omega, by omega⟩ | exact k0 (fun z => by have := z.1; have := z.2; omega)
      · refine And.intro (fun c4_ => ?_) (fun c4_ => ?_)
        · refine And.intro (fun _ => ?_) (fun c_ => absurd c_ (by decide))
          first | exact k1 ⟨⟨by omega, by omega⟩, by omega, by omega⟩ | exact k0 (fun z => by have := z.1; have := z.2; omega)
        · refine And.intro (fun c_ => absurd c_ (by decide)) (fun _ => ?_)
          first | exact k1 ⟨⟨by omega, by omega⟩, by omega, by omega⟩ | exact k0 (fun z => by have := z.1; have := z.2; omega)
theorem m_goesOne {K : qM → Prop} (hst : St sh pt) (c : OC S0 o) (g : GIV S0 o j i S) (i0 : 0 ≤ i) (i1 : i < S0 78 62) (j0 : 1 ≤ j) (j1 : j ≤ S0 95 o) (k : K (mrg b (gOne o i j (S0 95 o) S))) : RunV X (d + 2) mX11_goesOne [(2, 78), (0, o), (0, i), (0, j), (0, S0 95 o)] sh pt (mrg b S) K := by
  obtain ⟨e1, e2, e3⟩ := GIV_at g
  have nb := OC_n c
  have e63 : S 78 63 = S0 78 63 := e1 63 (by decide) (by decide) (by decide)
  have ek : S 94 o = S0 94 o := e3 94 o (by decide) (by decide)
  have eb : S 96 o = S0 96 o := e3 96 o (by decide) (by decide)
  have ec : S 97 o = S0 97 o := e3 97 o (by decide) (by decide)
  have cc := c.2.2.1
  have k5 := c.2.2.2.2
  have o0 := c.2.1.1
  have ok := c.2.1.2
  have sz := c.1.1
  have mi := c.1.2 i i0 i1
  have m0 := c.1.2 0 (by decide) (by omega)
  rw [← e2] at mi m0
  have zi : (0 ≤ S 109 (20 * S 78 63 + S 112 i) ∧ S 109 (20 * S 78 63 + S 112 i) < 60) ∧ (0 ≤ S 110 (20 * S 78 63 + S 112 i) ∧ S 110 (20 * S 78 63 + S 112 i) < 40) ∧ (0 ≤ S 111 (20 * S 78 63 + S 112 i) ∧ S 111 (20 * S 78 63 + S 112 i) < 8) := (GIV_B c g i0 i1 i i0 i1).2
  have z0 : (0 ≤ S 109 (20 * S 78 63 + S 112 0) ∧ S 109 (20 * S 78 63 + S 112 0) < 60) ∧ (0 ≤ S 110 (20 * S 78 63 + S 112 0) ∧ S 110 (20 * S 78 63 + S 112 0) < 40) ∧ (0 ≤ S 111 (20 * S 78 63 + S 112 0) ∧ S 111 (20 * S 78 63 + S 112 0) < 8) := (GIV_B c g i0 i1 0 (by decide) (by omega)).2
  have a1 : (-(399 + j) ≤ S 109 (20 * (S 78 63 + j - 1) + S 112 i) ∧ S 109 (20 * (S 78 63 + j - 1) + S 112 i) ≤ 399 + j) ∧ (-(399 + j) ≤ S 110 (20 * (S 78 63 + j - 1) + S 112 i) ∧ S 110 (20 * (S 78 63 + j - 1) + S 112 i) ≤ 399 + j) ∧ (0 ≤ S 111 (20 * (S 78 63 + j - 1) + S 112 i) ∧ S 111 (20 * (S 78 63 + j - 1) + S 112 i) < 8) := GIV_A c g i0 i1 j0 i i0 i1
  have ebd := eOf_bd (f := S 111 (20 * (S 78 63 + j - 1) + S 112 i))
  have nbd := nOf_bd (f := S 111 (20 * (S 78 63 + j - 1) + S 112 i))
  have fin : ∀ f e m, f = gF o i j S → e = gE o i j (S0 95 o) S → m = gN o i j (S0 95 o) S → K (mrg b (qup (qup (qup S 111 (20 * (S 78 63 + j) + S 112 i) f) 109 (20 * (S 78 63 + j) + S 112 i) e) 110 (20 * (S 78 63 + j) + S 112 i) m)) := by
    intro f e m q1 q2 q3
    subst q1
    subst q2
    subst q3
    exact k
  refine b_X11_goesOne hst ?_
  simp only [mrg_78, mrg_82, mrg_83, mrg_84, mrg_89, mrg_90, mrg_94, mrg_95, mrg_96, mrg_97, mrg_98, mrg_99, mrg_106, mrg_107, mrg_108, mrg_109, mrg_110, mrg_111, mrg_112, mrgu_78, mrgu_106, mrgu_107, mrgu_108, mrgu_109, mrgu_110, mrgu_111, mrgu_112]
  refine ⟨⟨i0, by omega⟩, b_X11_cell hst ⟨⟨by omega, by omega⟩, ⟨by omega, by omega⟩, ?_⟩⟩
  simp only [mrg_78, mrg_82, mrg_83, mrg_84, mrg_89, mrg_90, mrg_94, mrg_95, mrg_96, mrg_97, mrg_98, mrg_99, mrg_106, mrg_107, mrg_108, mrg_109, mrg_110, mrg_111, mrg_112, mrgu_78, mrgu_106, mrgu_107, mrgu_108, mrgu_109, mrgu_110, mrgu_111, mrgu_112]
  refine ⟨⟨by omega, by omega⟩, ⟨by omega, by omega⟩, ⟨i0, by omega⟩, b_X11_cell hst ⟨⟨by omega, by omega⟩, ⟨by omega, by omega⟩, ?_⟩⟩
  simp only [mrg_78, mrg_82, mrg_83, mrg_84, mrg_89, mrg_90, mrg_94, mrg_95, mrg_96, mrg_97, mrg_98, mrg_99, mrg_106, mrg_107, mrg_108, mrg_109, mrg_110, mrg_111, mrg_112, mrgu_78, mrgu_106, mrgu_107, mrgu_108, mrgu_109, mrgu_110, mrgu_111, mrgu_112]
  refine ⟨⟨by omega, by omega⟩, ⟨i0, by omega⟩, b_X11_cell hst ⟨⟨by omega, by omega⟩, ⟨by omega, by omega⟩, ?_⟩⟩
  simp only [mrg_78, mrg_82, mrg_83, mrg_84, mrg_89, mrg_90, mrg_94, mrg_95, mrg_96, mrg_97, mrg_98, mrg_99, mrg_106, mrg_107, mrg_108, mrg_109, mrg_110, mrg_111, mrg_112, mrgu_78, mrgu_106, mrgu_107, mrgu_108, mrgu_109, mrgu_110, mrgu_111, mrgu_112]
  refine b_X11_cell hst ⟨⟨by omega, by omega⟩, ⟨by omega, by omega⟩, ?_⟩
  simp only [mrg_78, mrg_82, mrg_83, mrg_84, mrg_89, mrg_90, mrg_94, mrg_95, mrg_96, mrg_97, mrg_98, mrg_99, mrg_106, mrg_107, mrg_108, mrg_109, mrg_110, mrg_111, mrg_112, mrgu_78, mrgu_106, mrgu_107, mrgu_108, mrgu_109, mrgu_110, mrgu_111, mrgu_112]
  refine ⟨⟨by omega, by omega⟩, ⟨by omega, by omega⟩, ⟨by omega, by omega⟩, ⟨by omega, by omega⟩, fun x15 ex15 => ⟨⟨by omega, by omega⟩, ⟨by omega, by omega⟩, ⟨by omega, by omega⟩, fun x18 ex18 => ?_⟩⟩
  have xb : -59 ≤ x15 ∧ x15 ≤ 59 := by omega
  have yb : -39 ≤ x18 ∧ x18 ≤ 39 := by omega
  have ex : xB S i = x15 := ex15.symm
  have ey : yB S i = x18 := ex18.symm
  refine ⟨⟨by omega, by omega⟩, fun h20 e20 => ?_⟩
  subst e20
  simp only [mrg_78, mrg_82, mrg_83, mrg_84, mrg_89, mrg_90, mrg_94, mrg_95, mrg_96, mrg_97, mrg_98, mrg_99, mrg_106, mrg_107, mrg_108, mrg_109, mrg_110, mrg_111, mrg_112, mrgu_78, mrgu_106, mrgu_107, mrgu_108, mrgu_109, mrgu_110, mrgu_111, mrgu_112, qup_ap, Int.reduceEq, Int.reduceNeg, false_and, and_false, true_and, and_true, and_self, reduceIte]
  have r9 : 0 ≤ 20 * (S 78 63 + j) + S 112 i ∧ 20 * (S 78 63 + j) + S 112 i < 3020 := by omega
  have gf : ¬ (S 94 o = 4 ∧ ¬ i = 0) → S 111 (20 * (S 78 63 + j - 1) + S 112 i) = gF o i j S := fun q => by rw [gF, if_neg q]; rfl
  have stay : ¬ S 94 o = 0 → ¬ S 94 o = 1 → ¬ S 94 o = 4 → ¬ (6 ≤ S 94 o ∧ S 94 o ≤ 9) → (0 ≤ 20 * (S 78 63 + j) + S 112 i ∧ 20 * (S 78 63 + j) + S 112 i < 3020) ∧ ∀ h41, h41 = mrg b (qup (qup S 111 (20 * (S 78 63 + j) + S 112 i) (S 111 (20 * (S 78 63 + j - 1) + S 112 i))) 109 (20 * (S 78 63 + j) + S 112 i) (S 109 (20 * (S 78 63 + j - 1) + S 112 i))) → (0 ≤ 20 * (S 78 63 + j) + S 112 i ∧ 20 * (S 78 63 + j) + S 112 i < 3020) ∧ ∀ h43, h43 = qup h41 110 (20 * (S 78 63 + j) + S 112 i) (S 110 (20 * (S 78 63 + j - 1) + S 112 i)) → K h43 := by
    intro q0 q1 q4 q6
    refine ⟨r9, fun h1 d1 => ⟨r9, fun h2 d2 => ?_⟩⟩
    subst d2
    subst d1
    simp only [mrg_78, mrg_82, mrg_83, mrg_84, mrg_89, mrg_90, mrg_94, mrg_95, mrg_96, mrg_97, mrg_98, mrg_99, mrg_106, mrg_107, mrg_108, mrg_109, mrg_110, mrg_111, mrg_112, mrgu_78, mrgu_106, mrgu_107, mrgu_108, mrgu_109, mrgu_110, mrgu_111, mrgu_112]
    exact fin _ _ _ (gf (by omega)) (by rw [gE, if_neg q0, if_neg q1, if_neg q4, if_neg q6]; rfl) (by rw [gN, if_neg q0, if_neg q1, if_neg q4, if_neg q6]; rfl)
  have bt : ∀ w1 w2 : Int, 6 ≤ S 94 o → S 94 o ≤ 9 → w1 = wE o i S → w2 = wN o i S → K (mrg b (qup (qup (qup S 111 (20 * (S 78 63 + j) + S 112 i) (S 111 (20 * (S 78 63 + j - 1) + S 112 i))) 109 (20 * (S 78 63 + j) + S 112 i) (btw (S 109 (20 * S 78 63 + S 112 i)) (S 109 (20 * S 78 63 + S 112 i) + w1) j (S0 95 o))) 110 (20 * (S 78 63 + j) + S 112 i) (btw (S 110 (20 * S 78 63 + S 112 i)) (S 110 (20 * S 78 63 + S 112 i) + w2) j (S0 95 o)))) := by
    intro w1 w2 q6 q9 d1 d2
    subst d1
    subst d2
    exact fin _ _ _ (gf (by omega)) (by rw [gE, if_neg (by omega), if_neg (by omega), if_neg (by omega), if_pos ⟨q6, q9⟩]; rfl) (by rw [gN, if_neg (by omega), if_neg (by omega), if_neg (by omega), if_pos ⟨q6, q9⟩]; rfl)
  unfold oKs at ok
  refine ⟨⟨by omega, by omega⟩, ⟨by omega, by omega⟩, o0, fun q => ?_, fun q => ?_, fun q => ?_, fun q => ?_, fun q => ?_, fun q => ?_, fun q => ?_, fun q => ?_, fun q => ?_, fun q => ?_, fun q => ?_⟩
  · refine m_eOf hst ⟨⟨by omega, by omega⟩, m_nOf hst ⟨⟨by omega, by omega⟩, r9, fun h1 d1 => ⟨r9, fun h2 d2 => ?_⟩⟩⟩
    subst d2
    subst d1
    simp only [mrg_78, mrg_82, mrg_83, mrg_84, mrg_89, mrg_90, mrg_94, mrg_95, mrg_96, mrg_97, mrg_98, mrg_99, mrg_106, mrg_107, mrg_108, mrg_109, mrg_110, mrg_111, mrg_112, mrgu_78, mrgu_106, mrgu_107, mrgu_108, mrgu_109, mrgu_110, mrgu_111, mrgu_112]
    exact fin _ _ _ (gf (by omega)) (by rw [gE, if_pos q]; rfl) (by rw [gN, if_pos q]; rfl)
  · refine m_eOf hst ⟨⟨by omega, by omega⟩, m_nOf hst ⟨⟨by omega, by omega⟩, r9, fun h1 d1 => ⟨r9, fun h2 d2 => ?_⟩⟩⟩
    subst d2
    subst d1
    simp only [mrg_78, mrg_82, mrg_83, mrg_84, mrg_89, mrg_90, mrg_94, mrg_95, mrg_96, mrg_97, mrg_98, mrg_99, mrg_106, mrg_107, mrg_108, mrg_109, mrg_110, mrg_111, mrg_112, mrgu_78, mrgu_106, mrgu_107, mrgu_108, mrgu_109, mrgu_110, mrgu_111, mrgu_112]
    exact fin _ _ _ (gf (by omega)) (by rw [gE, if_neg (by omega), if_pos q]; rfl) (by rw [gN, if_neg (by omega), if_pos q]; rfl)
  · exact stay (by omega) (by omega) (by omega) (by omega)
  · exact stay (by omega) (by omega) (by omega) (by omega)
  · refine ⟨fun y => ?_, fun y => ?_⟩
    · have m1 := c.1.2 (i - 1) (by omega) (by omega)
      rw [← e2] at m1
      refine ⟨⟨by omega, by omega⟩, ⟨by omega, by omega⟩, ⟨by omega, by omega⟩, ⟨by omega, by omega⟩, b_X11_cell hst ⟨⟨by omega, by omega⟩, ⟨by omega, by omega⟩, ?_⟩⟩
      simp only [mrg_78, mrg_82, mrg_83, mrg_84, mrg_89, mrg_90, mrg_94, mrg_95, mrg_96, mrg_97, mrg_98, mrg_99, mrg_106, mrg_107, mrg_108, mrg_109, mrg_110, mrg_111, mrg_112, mrgu_78, mrgu_106, mrgu_107, mrgu_108, mrgu_109, mrgu_110, mrgu_111, mrgu_112, qup_ap, Int.reduceEq, Int.reduceNeg, false_and, and_false, true_and, and_true, and_self, reduceIte]
      refine ⟨⟨by omega, by omega⟩, ⟨by omega, by omega⟩, ⟨by omega, by omega⟩, r9, fun h0 d0 => ⟨r9, fun h1 d1 => ⟨r9, fun h2 d2 => ?_⟩⟩⟩
      subst d2
      subst d1
      subst d0
      rw [if_neg (show ¬ 20 * (S 78 63 + j - 1) + S 112 (i - 1) = 20 * (S 78 63 + j) + S 112 i by omega)]
      simp only [mrg_78, mrg_82, mrg_83, mrg_84, mrg_89, mrg_90, mrg_94, mrg_95, mrg_96, mrg_97, mrg_98, mrg_99, mrg_106, mrg_107, mrg_108, mrg_109, mrg_110, mrg_111, mrg_112, mrgu_78, mrgu_106, mrgu_107, mrgu_108, mrgu_109, mrgu_110, mrgu_111, mrgu_112]
      have qq : ∀ f v, qup (qup S 111 (20 * (S 78 63 + j) + S 112 i) f) 111 (20 * (S 78 63 + j) + S 112 i) v = qup S 111 (20 * (S 78 63 + j) + S 112 i) v := fun f v => by
        funext x z
        unfold qup
        by_cases w : x = 111 ∧ z = 20 * (S 78 63 + j) + S 112 i
        · rw [if_pos w, if_pos w]
        · rw [if_neg w, if_neg w, if_neg w]
      rw [qq]
      exact fin _ _ _ (by rw [gF, if_pos ⟨q, y⟩]; rfl) (by rw [gE, if_neg (by omega), if_neg (by omega), if_pos q, if_neg y]; rfl) (by rw [gN, if_neg (by omega), if_neg (by omega), if_pos q, if_neg y]; rfl)
    · refine m_eOf hst ⟨⟨by omega, by omega⟩, m_nOf hst ⟨⟨by omega, by omega⟩, r9, fun h1 d1 => ⟨r9, fun h2 d2 => ?_⟩⟩⟩
      subst d2
      subst d1
      simp only [mrg_78, mrg_82, mrg_83, mrg_84, mrg_89, mrg_90, mrg_94, mrg_95, mrg_96, mrg_97, mrg_98, mrg_99, mrg_106, mrg_107, mrg_108, mrg_109, mrg_110, mrg_111, mrg_112, mrgu_78, mrgu_106, mrgu_107, mrgu_108, mrgu_109, mrgu_110, mrgu_111, mrgu_112]
      exact fin _ _ _ (gf (by omega)) (by rw [gE, if_neg (by omega), if_neg (by omega), if_pos q, if_pos y]; rfl) (by rw [gN, if_neg (by omega), if_neg (by omega), if_pos q, if_pos y]; rfl)
  · exact absurd q (by omega)
  · have b6 := (ok.2.2.2.1 (by omega)).1
    have p1 : -39 ≤ S 96 o * x18 ∧ S 96 o * x18 ≤ 39 := by rw [eb]; rcases b6 with e | e <;> rw [e] <;> omega
    have p2 : -59 ≤ (-(S 96 o)) * x15 ∧ (-(S 96 o)) * x15 ≤ 59 := by rw [eb]; rcases b6 with e | e <;> rw [e] <;> omega
    refine ⟨⟨by omega, by omega⟩, ⟨by omega, by omega⟩, ⟨by omega, by omega⟩, ⟨by omega, by omega⟩, m_between hst (by omega) j1 (by omega) (by omega) (by omega) (by omega) (by omega) (by omega) ?_⟩
    simp only [mrg_78, mrg_82, mrg_83, mrg_84, mrg_89, mrg_90, mrg_94, mrg_95, mrg_96, mrg_97, mrg_98, mrg_99, mrg_106, mrg_107, mrg_108, mrg_109, mrg_110, mrg_111, mrg_112, mrgu_78, mrgu_106, mrgu_107, mrgu_108, mrgu_109, mrgu_110, mrgu_111, mrgu_112, qup_ap, Int.reduceEq, Int.reduceNeg, false_and, and_false, true_and, and_true, and_self, reduceIte]
    refine ⟨⟨by omega, by omega⟩, ⟨by omega, by omega⟩, ⟨by omega, by omega⟩, ⟨by omega, by omega⟩, ⟨by omega, by omega⟩, m_between hst (by omega) j1 (by omega) (by omega) (by omega) (by omega) (by omega) (by omega) ⟨r9, fun h1 d1 => ⟨r9, fun h2 d2 => ?_⟩⟩⟩
    subst d2
    subst d1
    simp only [mrg_78, mrg_82, mrg_83, mrg_84, mrg_89, mrg_90, mrg_94, mrg_95, mrg_96, mrg_97, mrg_98, mrg_99, mrg_106, mrg_107, mrg_108, mrg_109, mrg_110, mrg_111, mrg_112, mrgu_78, mrgu_106, mrgu_107, mrgu_108, mrgu_109, mrgu_110, mrgu_111, mrgu_112]
    exact bt _ _ (by omega) (by omega) (by rw [wE, if_pos q, ex, ey]) (by rw [wN, if_pos q, ex, ey])
  · have b6 := (ok.2.2.2.2.1 (by omega)).1
    have p1 := mul_bd (x := S 96 o - 1) (y := x15) (a := 4) (b := 59) (by omega) (by omega) (by omega) (by omega)
    have p2 := mul_bd (x := S 96 o - 1) (y := x18) (a := 4) (b := 59) (by omega) (by omega) (by omega) (by omega)
    refine ⟨⟨by omega, by omega⟩, ⟨by omega, by omega⟩, ⟨by omega, by omega⟩, ⟨by omega, by omega⟩, m_between hst (by omega) j1 (by omega) (by omega) (by omega) (by omega) (by omega) (by omega) ?_⟩
    simp only [mrg_78, mrg_82, mrg_83, mrg_84, mrg_89, mrg_90, mrg_94, mrg_95, mrg_96, mrg_97, mrg_98, mrg_99, mrg_106, mrg_107, mrg_108, mrg_109, mrg_110, mrg_111, mrg_112, mrgu_78, mrgu_106, mrgu_107, mrgu_108, mrgu_109, mrgu_110, mrgu_111, mrgu_112, qup_ap, Int.reduceEq, Int.reduceNeg, false_and, and_false, true_and, and_true, and_self, reduceIte]
    refine ⟨⟨by omega, by omega⟩, ⟨by omega, by omega⟩, ⟨by omega, by omega⟩, ⟨by omega, by omega⟩, m_between hst (by omega) j1 (by omega) (by omega) (by omega) (by omega) (by omega) (by omega) ⟨r9, fun h1 d1 => ⟨r9, fun h2 d2 => ?_⟩⟩⟩
    subst d2
    subst d1
    simp only [mrg_78, mrg_82, mrg_83, mrg_84, mrg_89, mrg_90, mrg_94, mrg_95, mrg_96, mrg_97, mrg_98, mrg_99, mrg_106, mrg_107, mrg_108, mrg_109, mrg_110, mrg_111, mrg_112, mrgu_78, mrgu_106, mrgu_107, mrgu_108, mrgu_109, mrgu_110, mrgu_111, mrgu_112]
    exact bt _ _ (by omega) (by omega) (by rw [wE, if_neg (by omega), if_pos q, ex]) (by rw [wN, if_neg (by omega), if_pos q, ey])
  · have b6 := (ok.2.2.2.2.1 (by omega)).1
    have p1 := tdiv_bd (x := x15) (b := S 96 o) (m := 59) (by omega) (by omega) (by omega)
    have p2 := tdiv_bd (x := x18) (b := S 96 o) (m := 59) (by omega) (by omega) (by omega)
    refine ⟨⟨by omega, by omega⟩, ⟨by omega, by omega⟩, ⟨by omega, by omega, by omega⟩, ⟨by omega, by omega⟩, m_between hst (by omega) j1 (by omega) (by omega) (by omega) (by omega) (by omega) (by omega) ?_⟩
    simp only [mrg_78, mrg_82, mrg_83, mrg_84, mrg_89, mrg_90, mrg_94, mrg_95, mrg_96, mrg_97, mrg_98, mrg_99, mrg_106, mrg_107, mrg_108, mrg_109, mrg_110, mrg_111, mrg_112, mrgu_78, mrgu_106, mrgu_107, mrgu_108, mrgu_109, mrgu_110, mrgu_111, mrgu_112, qup_ap, Int.reduceEq, Int.reduceNeg, false_and, and_false, true_and, and_true, and_self, reduceIte]
    refine ⟨⟨by omega, by omega⟩, ⟨by omega, by omega⟩, ⟨by omega, by omega, by omega⟩, ⟨by omega, by omega⟩, m_between hst (by omega) j1 (by omega) (by omega) (by omega) (by omega) (by omega) (by omega) ⟨r9, fun h1 d1 => ⟨r9, fun h2 d2 => ?_⟩⟩⟩
    subst d2
    subst d1
    simp only [mrg_78, mrg_82, mrg_83, mrg_84, mrg_89, mrg_90, mrg_94, mrg_95, mrg_96, mrg_97, mrg_98, mrg_99, mrg_106, mrg_107, mrg_108, mrg_109, mrg_110, mrg_111, mrg_112, mrgu_78, mrgu_106, mrgu_107, mrgu_108, mrgu_109, mrgu_110, mrgu_111, mrgu_112]
    exact bt _ _ (by omega) (by omega) (by rw [wE, if_neg (by omega), if_neg (by omega), if_pos q, ex]) (by rw [wN, if_neg (by omega), if_neg (by omega), if_pos q, ey])
  · have b6 := ok.2.2.2.2.2.1 (by omega)
    refine ⟨⟨by omega, by omega⟩, ⟨by omega, by omega⟩, m_between hst (by omega) j1 (by omega) (by omega) (by omega) (by omega) (by omega) (by omega) ?_⟩
    simp only [mrg_78, mrg_82, mrg_83, mrg_84, mrg_89, mrg_90, mrg_94, mrg_95, mrg_96, mrg_97, mrg_98, mrg_99, mrg_106, mrg_107, mrg_108, mrg_109, mrg_110, mrg_111, mrg_112, mrgu_78, mrgu_106, mrgu_107, mrgu_108, mrgu_109, mrgu_110, mrgu_111, mrgu_112, qup_ap, Int.reduceEq, Int.reduceNeg, false_and, and_false, true_and, and_true, and_self, reduceIte]
    refine ⟨⟨by omega, by omega⟩, ⟨by omega, by omega⟩, m_between hst (by omega) j1 (by omega) (by omega) (by omega) (by omega) (by omega) (by omega) ⟨r9, fun h1 d1 => ⟨r9, fun h2 d2 => ?_⟩⟩⟩
    subst d2
    subst d1
    simp only [mrg_78, mrg_82, mrg_83, mrg_84, mrg_89, mrg_90, mrg_94, mrg_95, mrg_96, mrg_97, mrg_98, mrg_99, mrg_106, mrg_107, mrg_108, mrg_109, mrg_110, mrg_111, mrg_112, mrgu_78, mrgu_106, mrgu_107, mrgu_108, mrgu_109, mrgu_110, mrgu_111, mrgu_112]
    exact bt _ _ (by omega) (by omega) (by rw [wE, if_neg (by omega), if_neg (by omega), if_neg (by omega)]) (by rw [wN, if_neg (by omega), if_neg (by omega), if_neg (by omega)])
  · exact absurd q (by omega)
end
