/-! the reference's reader: an order -/
section
variable {X : qX} {d : Nat} {sh : qS} {pt S0 : qM} {B : Int → Int} {n t : Int}
theorem m_readOrder (hst : St sh pt) (ht : isT t) : ∀ (u dd : Nat) (S h : qM) (K : qM → Prop), n - S 9 5 < u → S 9 13 + dd = 3 → RMo S0 B n t S h → S 9 9 = 2 → ¬ isS (tkR B n (tkA B n (S 9 5))) (if S 9 13 = 0 then 59 else 125) → (∀ h1, Fr PRq h h1 → FM S0 B n t h1 → K h1) → (∀ S' h1, RMo S0 B n t S' h1 → Fr (PSq t) S S' → S' 9 9 = 2 → S' 9 13 = S 9 13 → (∀ i, 0 ≤ i → i < S 9 13 → S' 11 i = S 11 i) → S 9 5 < S' 9 5 → S t 8 < S' t 8 → Fr PRq h h1 → K h1) → RunV X (d + dd + 6) mX11_readOrder [(2, 78), (0, S 9 13)] sh pt h K := by
  have tn : t ≠ 9 ∧ t ≠ 11 ∧ 40 ≤ t ∧ t ≤ 60 := by rcases ht with e | e <;> omega
  intro u
  induction u with
  | zero =>
    intro dd S h K e _ q
    have := q.1.2.2.2.2.2.2.2.1.2.2.2.2.2.2.2.2.1
    omega
  | succ u ih =>
    intro dd S h K eu ed q w cl kf ks
    have tm := q.1
    have b0 := tm.2.2.1
    have eN := tm.2.2.2.1
    have iv := tm.2.2.2.2.2.2.2.1
    have pb := iv.2.2.2.2.2.2.2.2.1
    have Nb := iv.1
    have ab := tkA_bd (B := B) pb.2
    have tb := tkR_bd (B := B) (n := n) (a := tkA B n (S 9 5)) ab.2
    have mi : S 9 11 = 0 := by have := iv.2.2.2.2.2.2.2.2.2.2.2.1; omega
    have ne : ¬ ((tkR B n (tkA B n (S 9 5))).1 = 1 ∧ S 9 9 = 0) := fun z => by omega
    have fq : ∀ {h1 : qM}, Fr PFm h h1 → Fr PRq h h1 := fun f => Fr.wk f (fun a i z => by unfold PFm at z; unfold PRq; omega)
    have e66B : ∀ (g : qM) (v2 : Int), Fr PRq h g → FM S0 B n t g → EvV X (d + dd + 6) mX11_readOrder 66 [(2, 78), (0, S 9 13), (0, v2), (8, -1), (8, -1)] [] sh pt g K := fun g v2 f m => by
      have := fm_pos m
      exact b_X11_readOrder_66 hst ⟨fun c => absurd c (by omega), fun _ => kf g f m⟩
    have e38B : ∀ (g : qM) (v2 : Int), Fr PRq h g → FM S0 B n t g → EvV X (d + dd + 6) mX11_readOrder 38 [(2, 78), (0, S 9 13), (0, v2), (8, -1), (8, -1)] [] sh pt g K := fun g v2 f m => by
      have := fm_pos m
      exact b_X11_readOrder_38 hst ⟨fun _ => e66B g v2 f m, fun c => absurd c (by omega)⟩
    have e13B : ∀ (g : qM) (v2 : Int), Fr PRq h g → FM S0 B n t g → EvV X (d + dd + 6) mX11_readOrder 13 [(2, 78), (0, S 9 13), (0, v2), (8, -1), (8, -1)] [] sh pt g K := fun g v2 f m => by
      have := fm_pos m
      exact b_X11_readOrder_13 hst ⟨fun _ => e38B g v2 f m, fun c => absurd c (by omega)⟩
    refine b_X11_readOrder hst (m_orderKind hst tm ?_)
    have en : ¬ (tkR B n (tkA B n (S 9 5))).1 = 0 → _ := fun z => tak_ord (B := B) (n := n) (t := t) w z cl
    have k2 : 0 ≤ (if (tkR B n (tkA B n (S 9 5))).1 = 2 then kOf (tkR B n (tkA B n (S 9 5))).2.2 else -1) → (tkR B n (tkA B n (S 9 5))).1 = 2 := fun z => by
      by_cases c : (tkR B n (tkA B n (S 9 5))).1 = 2
      · exact c
      · rw [if_neg c] at z
        omega
    have kb : -1 ≤ (if (tkR B n (tkA B n (S 9 5))).1 = 2 then kOf (tkR B n (tkA B n (S 9 5))).2.2 else -1) ∧ (if (tkR B n (tkA B n (S 9 5))).1 = 2 then kOf (tkR B n (tkA B n (S 9 5))).2.2 else -1) ≤ 10 := by
      split
      · exact kOf_bd
      · decide
    generalize (if (tkR B n (tkA B n (S 9 5))).1 = 2 then kOf (tkR B n (tkA B n (S 9 5))).2.2 else -1) = k at en k2 kb ⊢
    have q8 : (qup S 9 5 (tkR B n (tkA B n (S 9 5))).2.1) t 8 = S t 8 := qup_of (by omega)
    have q13 : (qup S 9 5 (tkR B n (tkA B n (S 9 5))).2.1) 9 13 = S 9 13 := qup_of (by decide)
    refine ⟨fun k0 => ?_, fun k0 => m_wrong hst ht tm ne (fun z => by rw [en z, tOw, if_pos (by omega)]) (fun h3 f3 m3 => e13B h3 k (fq f3) m3)⟩
    have c2 := k2 k0
    have en := en (by omega)
    refine b_X11_readOrder_13 hst ⟨fun c => absurd b0 c, fun _ => ?_⟩
    rw [eN]
    refine ⟨fun n60 => ?_, fun n60 => m_fault hst ht tm ne (by decide) tm.2.1.2.2.1 (by rw [en, tOw, if_neg (by omega), if_pos (by rw [q8]; omega)]) (fun h3 f3 m3 => e38B h3 k (fq f3) m3)⟩
    have go : ¬ (k = 10 ∧ S 9 13 = 3) → EvV X (d + dd + 6) mX11_readOrder 66 [(2, 78), (0, S 9 13), (0, k), (8, -1), (8, -1)] [] sh pt h K := by
      intro n3
      have dpb := iv.2.1
      rw [tOw, if_neg (by omega), if_neg (by rw [q8]; omega), if_neg (by rw [q13]; omega)] at en
      obtain ⟨⟨s9, s10, s8, st9, s2, s11, s13, s5⟩, ⟨r1, r2, r3, r4, r5, r6⟩, fS⟩ := tAd_at (S := (qup S 9 5 (tkR B n (tkA B n (S 9 5))).2.1)) (a := tkA B n (S 9 5)) (k := k) ht
      rw [q8] at s10 s8 r1 r2 r3 r4 r5 r6 fS
      have fS' : Fr (PSt t (S t 8)) S (tAd t (tkA B n (S 9 5)) k (qup S 9 5 (tkR B n (tkA B n (S 9 5))).2.1)) := Fr.tr (Fr.up Fr.rf (by unfold PSt; omega)) fS
      have p1 : S 9 5 < tAd t (tkA B n (S 9 5)) k (qup S 9 5 (tkR B n (tkA B n (S 9 5))).2.1) 9 5 := by
        rw [s5, qup_at]
        have := tb.2.2.2.1 (by omega)
        omega
      rw [show (qup S 9 5 (tkR B n (tkA B n (S 9 5))).2.1) 9 2 = S 9 2 from qup_of (by decide), tm.2.2.2.2.2.1] at s2
      rw [show (qup S 9 5 (tkR B n (tkA B n (S 9 5))).2.1) 9 11 = S 9 11 from qup_of (by decide), mi] at s11
      rw [show (qup S 9 5 (tkR B n (tkA B n (S 9 5))).2.1) t 9 = S t 9 from qup_of (by omega)] at st9
      rw [q13] at s13
      generalize tAd t (tkA B n (S 9 5)) k (qup S 9 5 (tkR B n (tkA B n (S 9 5))).2.1) = S1 at *
      have nb : 0 ≤ S t 8 ∧ S t 8 < 60 := by omega
      refine b_X11_readOrder_66 hst ⟨fun _ => ?_, fun c => absurd c (by omega)⟩
      rw [eN]
      refine ⟨⟨by omega, by omega⟩, fun h1 e1 => ⟨nb, fun h3 e3 => ⟨nb, fun h5 e5 => ⟨nb, fun h7 e7 => ⟨nb, fun h9 e9 => ?_⟩⟩⟩⟩⟩
      have f9 : Fr (PHt (S t 8)) h h9 := by rw [e9, e7, e5, e3, e1]; exact Fr.up (Fr.up (Fr.up (Fr.up (Fr.up Fr.rf (by unfold PHt; omega)) (by unfold PHt; omega)) (by unfold PHt; omega)) (by unfold PHt; omega)) (by unfold PHt; omega)
      have f9' : Fr PRo h h9 := by rw [e9, e7, e5, e3, e1]; exact Fr.up (Fr.up (Fr.up (Fr.up (Fr.up Fr.rf (by unfold PRo; omega)) (by unfold PRo; omega)) (by unfold PRo; omega)) (by unfold PRo; omega)) (by unfold PRo; omega)
      have v32 : h9 78 32 = S t 8 + 1 := by rw [e9, qup_of (by omega), e7, qup_of (by omega), e5, qup_of (by omega), e3, qup_of (by omega), e1, qup_at]
      have v100 : h9 100 (S t 8) = k := by rw [e9, qup_of (by omega), e7, qup_of (by omega), e5, qup_of (by omega), e3, qup_at]
      have v104 : h9 104 (S t 8) = tkA B n (S 9 5) := by rw [e9, qup_of (by omega), e7, qup_of (by omega), e5, qup_at, e3, qup_of (by omega), e1, qup_of (by omega)]; exact tm.2.1.2.2.1
      refine m_adv hst ht tm ne en s2 f9' (by rw [v32, s8]) st9.symm (fun h10 f10 m10 => ?_)
      have fh : Fr (PHt (S t 8)) h h10 := Fr.tr f9 (Fr.wk f10 (fun a i z => by unfold PTm at z; unfold PHt; omega))
      have g0 : h10 100 (S t 8) = k := by rw [f10 100 _ (by unfold PTm; omega)]; exact v100
      have g4 : h10 104 (S t 8) = tkA B n (S 9 5) := by rw [f10 104 _ (by unfold PTm; omega)]; exact v104
      refine ⟨fun n10 => m_plain (d := d + dd + 1) hst ht q rfl nb (by omega) s9 s10 s8 s11 r1 r2 r6 fS' p1 fh g0 g4 m10 kf (fun S' h1 q1 f1 w1 p2 n1 fr => ks S' h1 q1 (Fr.wk f1 (fun a i z => by unfold PSt at z; unfold PSq; omega)) w1 (f1 9 13 (by unfold PSt; omega)) (fun i _ _ => f1 11 i (by unfold PSt; omega)) p2 (by omega) fr), fun k10 => ?_⟩
      have w10 : S1 9 9 = 10 := by rw [s9, k10]; rfl
      have d3 : S 9 13 < 3 := by omega
      have fhR : Fr PRq h h10 := Fr.wk fh (fun a i z => by unfold PHt at z; unfold PRq; omega)
      have e175B : ∀ g : qM, Fr PRq h g → FM S0 B n t g → EvV X (d + dd + 6) mX11_readOrder 175 [(2, 78), (8, -1), (8, -1), (0, S t 8), (8, -1)] [] sh pt g K := fun g f m => by
        have := fm_pos m
        exact b_X11_readOrder_175 hst ⟨fun _ => ⟨nb, fun h2 e2 => kf h2 (Fr.tr f (by rw [e2]; exact Fr.up Fr.rf (by unfold PRq; omega))) (fm_fr m (by rw [e2]; exact Fr.up Fr.rf (by omega)))⟩, fun c => absurd c (by omega)⟩
      have e149B : ∀ g : qM, Fr PRq h g → FM S0 B n t g → EvV X (d + dd + 6) mX11_readOrder 149 [(2, 78), (0, S 9 13), (8, -1), (0, S t 8), (8, -1)] [] sh pt g K := fun g f m => by
        have := fm_pos m
        exact b_X11_readOrder_149 hst ⟨fun _ => e175B g f m, fun c => absurd c (by omega)⟩
      have loop : ∀ (z : Nat) (A g : qM), n - A 9 5 < z → RMo S0 B n t A g → Fr (PSq t) S A → A 9 9 = 2 → A 9 13 = S 9 13 + 1 → (∀ i, 0 ≤ i → i < S 9 13 → A 11 i = S 11 i) → A 11 (S 9 13) = S t 8 → S 9 5 < A 9 5 → S t 8 < A t 8 → Fr PRq h g → EvV X (d + dd + 6) mX11_readOrder 149 [(2, 78), (0, S 9 13), (8, -1), (0, S t 8), (8, -1)] [] sh pt g K := by
        intro z
        induction z with
        | zero =>
          intro A g e qa
          have := qa.1.2.2.2.2.2.2.2.1.2.2.2.2.2.2.2.2.1
          omega
        | succ z ihz =>
          intro A g ez qa fa wa da oa ob pa na fg
          have ta := qa.1
          have pba := ta.2.2.2.2.2.2.2.1.2.2.2.2.2.2.2.2.1
          refine b_X11_readOrder_149 hst ⟨fun c => absurd ta.2.2.1 c, fun _ => m_isSign hst ta (fun y => ⟨fun _ => ?_, fun c => absurd c (by decide)⟩) (fun y => ⟨fun c => absurd rfl c, fun _ => ⟨⟨by omega, by omega⟩, ?_⟩⟩)⟩
          · have a9 : qup A 9 5 (tkR B n (tkA B n (A 9 5))).2.1 9 9 = A 9 9 := qup_of (by decide)
            have a13 : qup A 9 5 (tkR B n (tkA B n (A 9 5))).2.1 9 13 = A 9 13 := qup_of (by decide)
            have ea : tak t (tkA B n (A 9 5)) (tkR B n (tkA B n (A 9 5))) (qup A 9 5 (tkR B n (tkA B n (A 9 5))).2.1) = qup (qup (qup A 9 5 (tkR B n (tkA B n (A 9 5))).2.1) 9 13 (A 9 13 - 1)) (t + 6) (A 11 (A 9 13 - 1)) (A t 8) := by
              have := y.1
              rw [tak, if_neg (by omega), a9, if_neg (by omega), if_neg (by omega), if_pos wa, tOr, a13, if_neg (by omega), if_pos ⟨by omega, y⟩, qup_of (by omega), qup_of (by omega)]
            rw [da, show S 9 13 + 1 - 1 = S 9 13 by omega, ob] at ea
            refine b_X11_readOrder_175 hst ⟨fun c => absurd ta.2.2.1 c, fun _ => m_adv hst ht ta (fun c => by omega) ea ?_ Fr.rf ?_ ?_ (fun h3 f3 m3 => ⟨nb, fun h5 e5 => ?_⟩)⟩
            · rw [qup_of (by omega), qup_of (by omega), qup_of (by omega)]; exact ta.2.2.2.2.2.1
            · rw [qup_of (by omega), qup_of (by omega), qup_of (by omega)]; exact ta.2.2.2.1
            · rw [qup_of (by omega), qup_of (by omega), qup_of (by omega)]
            have x8 : qup (qup (qup A 9 5 (tkR B n (tkA B n (A 9 5))).2.1) 9 13 (S 9 13)) (t + 6) (S t 8) (A t 8) t 8 = A t 8 := by rw [qup_of (by omega), qup_of (by omega), qup_of (by omega)]
            have x13 : qup (qup (qup A 9 5 (tkR B n (tkA B n (A 9 5))).2.1) 9 13 (S 9 13)) (t + 6) (S t 8) (A t 8) 9 13 = S 9 13 := by rw [qup_of (by omega), qup_at]
            have x9 : qup (qup (qup A 9 5 (tkR B n (tkA B n (A 9 5))).2.1) 9 13 (S 9 13)) (t + 6) (S t 8) (A t 8) 9 9 = 2 := by rw [qup_of (by omega), qup_of (by omega), qup_of (by omega)]; exact wa
            have x11 : ∀ i, qup (qup (qup A 9 5 (tkR B n (tkA B n (A 9 5))).2.1) 9 13 (S 9 13)) (t + 6) (S t 8) (A t 8) 11 i = A 11 i := fun i => by rw [qup_of (by omega), qup_of (by omega), qup_of (by omega)]
            have x5 : A 9 5 ≤ qup (qup (qup A 9 5 (tkR B n (tkA B n (A 9 5))).2.1) 9 13 (S 9 13)) (t + 6) (S t 8) (A t 8) 9 5 := by
              rw [qup_of (by omega), qup_of (by omega), qup_at]
              exact pos_le
            have xe : qup (qup (qup A 9 5 (tkR B n (tkA B n (A 9 5))).2.1) 9 13 (S 9 13)) (t + 6) (S t 8) (A t 8) (t + 6) (S t 8) = A t 8 := qup_at
            have xf : Fr (fun a i => (a = 9 ∧ (i = 5 ∨ i = 13)) ∨ (a = t + 6 ∧ i = S t 8)) A (qup (qup (qup A 9 5 (tkR B n (tkA B n (A 9 5))).2.1) 9 13 (S 9 13)) (t + 6) (S t 8) (A t 8)) := Fr.up (Fr.up (Fr.up Fr.rf (by omega)) (by omega)) (by omega)
            generalize qup (qup (qup A 9 5 (tkR B n (tkA B n (A 9 5))).2.1) 9 13 (S 9 13)) (t + 6) (S t 8) (A t 8) = A4 at *
            have f35 : ∀ a i : Int, ¬ (a = 105 ∧ i = S t 8) → ¬ PTm a i → h5 a i = g a i := fun a i c1 c2 => by rw [e5, qup_of c1]; exact f3 a i c2
            refine ks A4 h5 ⟨tm_fr m3 (by rw [e5]; exact Fr.up Fr.rf (by omega)), fun o o0 o1 => ?_⟩ (Fr.tr fa (Fr.wk xf (fun a i c => by unfold PSq; omega))) x9 x13 (fun i i0 i1 => by rw [x11]; exact oa i i0 i1) (by omega) (by omega) (Fr.tr fg (fun a i c => f35 a i (by unfold PRq at c; omega) (by unfold PRq at c; unfold PTm; omega)))
            have p := qa.2 o o0 (by omega)
            refine ⟨RO_fr p.1 (fun j j0 j1 => xf _ _ (by omega)) (fun x x0 x1 => f35 x o (by omega) (by unfold PTm; omega)), fun c => ?_⟩
            by_cases eo : o = S t 8
            · rw [eo, e5, qup_at, xe, f3 78 32 (by unfold PTm; omega)]
              exact ta.2.2.2.1
            · rw [f35 105 o (by omega) (by unfold PTm; omega), xf (t + 6) o (by omega)]
              refine p.2 (fun i i0 i1 => ?_)
              by_cases ei : i = S 9 13
              · rw [ei, ob]
                exact fun c2 => eo c2.symm
              · have := c i i0 (by rw [x13]; omega)
                rw [x11] at this
                exact this
          · obtain ⟨d1, e1⟩ : ∃ d1 : Nat, dd = d1 + 1 := ⟨dd - 1, by omega⟩
            have r := ih d1 A g (fun h3 => EvV X (d + dd + 6) mX11_readOrder 149 [(2, 78), (0, S 9 13), (8, -1), (0, S t 8), (8, -1)] [] sh pt h3 K) (by omega) (by omega) qa wa (by rw [if_neg (by omega)]; exact y) (fun h3 f3 m3 => e149B h3 (Fr.tr fg f3) m3) (fun A' h3 q3 f3 w3 d3 o3 p3 n3 r3 => ihz A' h3 (by omega) q3 (Fr.tr fa f3) w3 (by omega) (fun i i0 i1 => by rw [o3 i i0 (by omega)]; exact oa i i0 i1) (by rw [o3 (S 9 13) (by omega) (by omega)]; exact ob) (by omega) (by omega) (Fr.tr fg r3))
            rw [da] at r
            rw [show d + d1 + 6 = d + dd + 5 by omega] at r
            exact r
      refine m_count hst ht m10 (by omega) (fun c => by omega) (fun v v0 => by rw [w10]; simp [wLo, wHi]) (fun g f m => ⟨nb, fun h49 e49 => ?_⟩) (fun v g v0 v1 _ f m => ⟨nb, fun h49 e49 => ?_⟩)
      · have m' : FM S0 B n t h49 := fm_fr m (by rw [e49]; exact Fr.up Fr.rf (by omega))
        have f' : Fr PRq h h49 := Fr.tr fhR (Fr.tr (Fr.wk f (fun a i c => by unfold PFm at c; unfold PRq; omega)) (by rw [e49]; exact Fr.up Fr.rf (by unfold PRq; omega)))
        exact m_signB hst (fm_pos m') (e149B h49 f' m')
      · rw [s11, if_pos rfl] at m
        have m' := tm_fr m (h1 := h49) (by rw [e49]; exact Fr.up Fr.rf (by omega))
        have f' : Fr PRq h h49 := Fr.tr fhR (Fr.tr (Fr.wk f (fun a i c => by unfold PFm at c; unfold PRq; omega)) (by rw [e49]; exact Fr.up Fr.rf (by unfold PRq; omega)))
        have fH : Fr (PHt (S t 8)) h h49 := Fr.tr fh (Fr.tr (Fr.wk f (fun a i c => by unfold PFm at c; unfold PHt; omega)) (by rw [e49]; exact Fr.up Fr.rf (by unfold PHt; omega)))
        have l101 : h49 101 (S t 8) = v := by rw [e49, qup_at]
        have l100 : h49 100 (S t 8) = k := by rw [e49, qup_of (by omega), f 100 _ (by unfold PFm; omega)]; exact g0
        have l104 : h49 104 (S t 8) = tkA B n (S 9 5) := by rw [e49, qup_of (by omega), f 104 _ (by unfold PFm; omega)]; exact g4
        have u1 := sNu_at (S := S1) (B := B) (n := n) (v := v) ht
        have a1 := sNu_fr (S := S1) (B := B) (n := n) (t := t) (v := v)
        have v1' := sNu_v (S := S1) (B := B) (n := n) (v := v) ht
        have pp := sNu_pos (S := S1) (B := B) (n := n) (v := v) ht
        rw [w10, s10, show wRw 10 = 3 from rfl] at v1' a1
        have w3 : sNu B n t v S1 9 9 = 3 := by rw [u1.1, w10]; rfl
        have y13 : sNu B n t v S1 9 13 = S 9 13 := by rw [a1 9 13 (by omega)]; exact s13
        have y10 : sNu B n t v S1 9 10 = S t 8 := by rw [u1.2.2.2]; exact s10
        have y8 : sNu B n t v S1 t 8 = S t 8 + 1 := by rw [u1.2.2.1]; exact s8
        have y9 : sNu B n t v S1 t 9 = S t 9 := by rw [a1 t 9 (by omega)]; exact st9
        have y2 : sNu B n t v S1 9 2 = 0 := by rw [a1 9 2 (by omega)]; exact s2
        have y3 := v1'
        have z1 : sNu B n t v S1 (t + 1) (S t 8) = k := by rw [a1 (t + 1) _ (by omega)]; exact r1
        have z2 : sNu B n t v S1 (t + 2) (S t 8) = tkA B n (S 9 5) := by rw [a1 (t + 2) _ (by omega)]; exact r2
        have fA : Fr (PSt t (S t 8)) S (sNu B n t v S1) := Fr.tr fS' (Fr.wk a1 (fun a i c => by unfold PSt; omega))
        generalize sNu B n t v S1 = A at *
        have a9 : qup A 9 5 (tkR B n (tkA B n (A 9 5))).2.1 9 9 = A 9 9 := qup_of (by decide)
        have a13 : qup A 9 5 (tkR B n (tkA B n (A 9 5))).2.1 9 13 = A 9 13 := qup_of (by decide)
        have a10 : qup A 9 5 (tkR B n (tkA B n (A 9 5))).2.1 9 10 = A 9 10 := qup_of (by decide)
        have et : ¬ (tkR B n (tkA B n (A 9 5))).1 = 0 → tak t (tkA B n (A 9 5)) (tkR B n (tkA B n (A 9 5))) (qup A 9 5 (tkR B n (tkA B n (A 9 5))).2.1) = tBr (tkA B n (A 9 5)) (tkR B n (tkA B n (A 9 5))) (qup A 9 5 (tkR B n (tkA B n (A 9 5))).2.1) := fun c => by
          rw [tak, if_neg c, a9, if_neg (by omega), if_neg (by omega), if_neg (by omega), if_pos w3]
        refine m_sign (S' := qup (qup (qup (qup A 9 5 (tkR B n (tkA B n (A 9 5))).2.1) 11 (S 9 13) (S t 8)) 9 13 (S 9 13 + 1)) 9 9 2) hst ht m' (by omega) (fun y => ⟨?_, ?_, ?_, ?_⟩) (fun y c => ?_) (fun g f m => e149B g (Fr.tr f' (Fr.wk f (fun a i c => by unfold PFm at c; unfold PRq; omega))) m) (fun y g f m => ?_)
        · have := y.1
          rw [et (by omega), tBr, if_pos ⟨y, by rw [a13]; omega⟩, a13, a10, y13, y10]
        · rw [qup_of (by omega), qup_of (by omega), qup_of (by omega), qup_of (by omega)]; exact y2
        · rw [qup_of (by omega), qup_of (by omega), qup_of (by omega), qup_of (by omega)]
        · rw [qup_of (by omega), qup_of (by omega), qup_of (by omega), qup_of (by omega)]
        · rw [et c, tBr, if_neg (fun x => y x.1)]
        · have x8 : qup (qup (qup (qup A 9 5 (tkR B n (tkA B n (A 9 5))).2.1) 11 (S 9 13) (S t 8)) 9 13 (S 9 13 + 1)) 9 9 2 t 8 = A t 8 := by rw [qup_of (by omega), qup_of (by omega), qup_of (by omega), qup_of (by omega)]
          have x13 : qup (qup (qup (qup A 9 5 (tkR B n (tkA B n (A 9 5))).2.1) 11 (S 9 13) (S t 8)) 9 13 (S 9 13 + 1)) 9 9 2 9 13 = S 9 13 + 1 := by rw [qup_of (by omega), qup_at]
          have x9 : qup (qup (qup (qup A 9 5 (tkR B n (tkA B n (A 9 5))).2.1) 11 (S 9 13) (S t 8)) 9 13 (S 9 13 + 1)) 9 9 2 9 9 = 2 := qup_at
          have x11 : qup (qup (qup (qup A 9 5 (tkR B n (tkA B n (A 9 5))).2.1) 11 (S 9 13) (S t 8)) 9 13 (S 9 13 + 1)) 9 9 2 11 (S 9 13) = S t 8 := by rw [qup_of (by omega), qup_of (by omega), qup_at]
          have x5 : A 9 5 ≤ qup (qup (qup (qup A 9 5 (tkR B n (tkA B n (A 9 5))).2.1) 11 (S 9 13) (S t 8)) 9 13 (S 9 13 + 1)) 9 9 2 9 5 := by
            rw [qup_of (by omega), qup_of (by omega), qup_of (by omega), qup_at]
            exact pos_le
          have xf : Fr (fun a i => (a = 9 ∧ (i = 5 ∨ i = 9 ∨ i = 13)) ∨ (a = 11 ∧ i = S 9 13)) A (qup (qup (qup (qup A 9 5 (tkR B n (tkA B n (A 9 5))).2.1) 11 (S 9 13) (S t 8)) 9 13 (S 9 13 + 1)) 9 9 2) := Fr.up (Fr.up (Fr.up (Fr.up Fr.rf (by omega)) (by omega)) (by omega)) (by omega)
          generalize qup (qup (qup (qup A 9 5 (tkR B n (tkA B n (A 9 5))).2.1) 11 (S 9 13) (S t 8)) 9 13 (S 9 13 + 1)) 9 9 2 = A4 at *
          have fgH : Fr (PHt (S t 8)) h g := Fr.tr fH (Fr.wk f (fun a i c => by unfold PFm at c; unfold PHt; omega))
          have g11 : ∀ i, ¬ i = S 9 13 → A4 11 i = S 11 i := fun i c => by rw [xf 11 i (by omega), fA 11 i (by unfold PSt; omega)]
          refine loop (n.toNat + 1) A4 g ?_ ⟨m, fun o o0 o1 => ?_⟩ ?_ x9 x13 (fun i i0 i1 => g11 i (by omega)) x11 (by omega) (by omega) (Fr.tr f' (Fr.wk f (fun a i c => by unfold PFm at c; unfold PRq; omega)))
          · have := m.2.2.2.2.2.2.2.1.2.2.2.2.2.2.2.2.1
            omega
          · by_cases eo : o = S t 8
            · rw [eo]
              have gg : ∀ x, 100 ≤ x → x ≤ 104 → g x (S t 8) = h49 x (S t 8) := fun x c1 c2 => f x _ (by unfold PFm; omega)
              have ss : ∀ j, 1 ≤ j → j ≤ 5 → A4 (t + j) (S t 8) = A (t + j) (S t 8) := fun j c1 c2 => xf _ _ (by omega)
              refine ⟨⟨?_, ?_, ?_, ?_, ?_, ?_⟩, fun c => absurd x11 (c (S 9 13) (by omega) (by omega))⟩
              · rw [gg 100 (by decide) (by decide), ss 1 (by decide) (by decide), z1]; exact l100
              · rw [gg 104 (by decide) (by decide), ss 2 (by decide) (by decide), z2]; exact l104
              · rw [gg 101 (by decide) (by decide), ss 1 (by decide) (by decide), ss 3 (by decide) (by decide), z1, if_pos (Or.inr k10), y3]; exact l101
              · rw [ss 1 (by decide) (by decide), z1]; exact fun c => by omega
              · rw [ss 1 (by decide) (by decide), z1]; exact fun c => by omega
              · rw [ss 1 (by decide) (by decide), z1]; exact fun c => by omega
            · have p := q.2 o o0 (by omega)
              refine ⟨RO_fr p.1 (fun j j0 j1 => by rw [xf _ _ (by omega)]; exact fA _ _ (by unfold PSt; omega)) (fun x c1 c2 => fgH x o (by unfold PHt; omega)), fun c => ?_⟩
              rw [fgH 105 o (by unfold PHt; omega), xf (t + 6) o (by omega), fA (t + 6) o (by unfold PSt; omega)]
              refine p.2 (fun i i0 i1 => ?_)
              have := c i i0 (by omega)
              rw [g11 i (by omega)] at this
              exact this
          · exact Fr.tr (Fr.wk fA (fun a i c => by unfold PSt at c; unfold PSq; omega)) (Fr.wk xf (fun a i c => by unfold PSq; omega))
    refine b_X11_readOrder_38 hst ⟨fun c => absurd b0 c, fun _ => ⟨fun c => go (fun z => c z.1), fun c1 => ⟨fun c => go (fun z => c z.2), fun c => ?_⟩⟩⟩
    exact m_fault hst ht tm ne (by decide) tm.2.1.2.2.1 (by rw [en, tOw, if_neg (by omega), if_neg (by rw [q8]; omega), if_pos (by rw [q13]; omega)]) (fun h3 f3 m3 => e66B h3 k (fq f3) m3)
end
