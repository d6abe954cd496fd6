/-! the reference's orders(), whole -/
def POg (a i : Int) : Prop := (a = 78 ∧ (i = 0 ∨ i = 1 ∨ (18 ≤ i ∧ i ≤ 32 ∧ i ≠ 30))) ∨ (91 ≤ a ∧ a ≤ 93) ∨ (100 ≤ a ∧ a ≤ 105)
def POs (a i : Int) : Prop := (a = 78 ∧ (i = 0 ∨ i = 1 ∨ (18 ≤ i ∧ i ≤ 32))) ∨ (89 ≤ a ∧ a ≤ 105)
section
variable {X : qX} {d : Nat} {sh : qS} {pt S0 h : qM} {B : Int → Int} {n t : Int}
theorem m_orders {K : Int → qM → Prop} (hst : St sh pt) (ht : isT t) (i0 : S0 9 2 = 0 ∧ S0 t 10 = 0 ∧ S0 9 5 = 0 ∧ S0 9 9 = 0 ∧ S0 t 8 = 0 ∧ S0 t 9 = 0 ∧ S0 t 11 = 0 ∧ S0 9 14 = 0) (iv0 : IV n t S0) (gr : GR S0 h) (n0 : 0 ≤ n) (n1 : n ≤ h 78 18) (n2 : h 78 18 ≤ 500) (hB : ∀ i, 0 ≤ i → i < n → h 88 i % 256 = B i ∧ 0 ≤ B i ∧ B i ≤ 255)
    (kf : ∀ h1 S, Rch B n t S0 S → 0 < S 9 2 → h1 78 20 = S 9 2 → h1 78 21 = S 9 3 → h1 78 18 = 0 → h1 78 0 = 10 → h1 78 1 = 0 → Fr POg h h1 → K (-1) h1)
    (ks : ∀ h1 S, Rch B n t S0 S → S 9 2 = 0 → S t 10 = 1 → IV n t S → h1 78 20 = 0 → h1 78 21 = -1 → h1 78 18 = 0 → h1 78 0 = 0 → h1 78 1 = 0 → TX t S h1 → Fr POs h h1 → K (S t 8) h1) : RunI X (d + 11) mX11_orders [(2, 78), (0, n)] sh pt h K := by
  have tn : t ≠ 9 ∧ t ≠ 11 ∧ 40 ≤ t ∧ t ≤ 60 := by rcases ht with e | e <;> omega
  refine b_X11_orders hst (fun h1 e1 h2 e2 => ⟨fun c => absurd c (by omega), fun _ => ?_⟩)
  have z18 : h2 78 18 = h 78 18 := by rw [e2, qup_of (by omega), e1, qup_of (by omega)]
  rw [z18]
  refine ⟨fun _ h5 e5 h6 e6 h7 e7 h8 e8 h9 e9 h10 e10 h11 e11 => ?_, fun c => absurd c (by omega)⟩
  have f11 : Fr (fun a i => (a = 78 ∧ (i = 0 ∨ i = 1 ∨ i = 18 ∨ i = 19 ∨ i = 22 ∨ i = 26 ∨ i = 31 ∨ i = 32)) ∨ (a = 93 ∧ i = 0)) h h11 := by
    rw [e11, e10, e9, e8, e7, e6, e5, e2, e1]
    exact Fr.up (Fr.up (Fr.up (Fr.up (Fr.up (Fr.up (Fr.up (Fr.up (Fr.up Fr.rf (by omega)) (by omega)) (by omega)) (by omega)) (by omega)) (by omega)) (by omega)) (by omega)) (by omega)
  have v0 : h11 78 0 = 0 := by rw [e11, qup_of (by omega), e10, qup_of (by omega), e9, qup_of (by omega), e8, qup_of (by omega), e7, qup_of (by omega), e6, qup_of (by omega), e5, qup_of (by omega), e2, qup_at]
  have v1 : h11 78 1 = 0 := by rw [e11, qup_of (by omega), e10, qup_of (by omega), e9, qup_of (by omega), e8, qup_of (by omega), e7, qup_of (by omega), e6, qup_of (by omega), e5, qup_of (by omega), e2, qup_of (by omega), e1, qup_at]
  have v18 : h11 78 18 = 0 := by rw [e11, qup_of (by omega), e10, qup_of (by omega), e9, qup_of (by omega), e8, qup_of (by omega), e7, qup_of (by omega), e6, qup_at]
  have v19 : h11 78 19 = n := by rw [e11, qup_of (by omega), e10, qup_of (by omega), e9, qup_of (by omega), e8, qup_of (by omega), e7, qup_of (by omega), e6, qup_of (by omega), e5, qup_at]
  have v26 : h11 78 26 = 0 := by rw [e11, qup_of (by omega), e10, qup_of (by omega), e9, qup_of (by omega), e8, qup_of (by omega), e7, qup_at]
  have v22 : h11 78 22 = 0 := by rw [e11, qup_of (by omega), e10, qup_of (by omega), e9, qup_of (by omega), e8, qup_at]
  have v31 : h11 78 31 = 0 := by rw [e11, qup_of (by omega), e10, qup_of (by omega), e9, qup_at]
  have v32 : h11 78 32 = 0 := by rw [e11, qup_of (by omega), e10, qup_at]
  have v93 : h11 93 0 = 0 := by rw [e11, qup_at]
  have tp : tpM h11 B n := ⟨v19, n0, by omega, fun i a b => by rw [f11 88 i (by omega)]; exact hB i a b⟩
  refine m_nxt (S := S0) (S0 := S0) (t := t) hst tp (by rw [v26, i0.2.2.1]) v22 (by rw [v32, i0.2.2.2.2.1]) (by rw [v31, i0.2.2.2.2.2.1]) i0.1 i0.2.1 iv0 Rch.rf (fun h12 f12 m12 => ?_)
  have g0 : h12 78 0 = 0 := by rw [f12 78 0 (by unfold PTm; omega)]; exact v0
  have g1 : h12 78 1 = 0 := by rw [f12 78 1 (by unfold PTm; omega)]; exact v1
  have g18 : h12 78 18 = 0 := by rw [f12 78 18 (by unfold PTm; omega)]; exact v18
  have fO : Fr POg h h12 := Fr.tr (Fr.wk f11 (fun a i z => by unfold POg; omega)) (Fr.wk f12 (fun a i z => by unfold PTm at z; unfold POg; omega))
  have lw : ∀ {x y : qM}, Fr PRl x y → Fr POg x y := fun f => Fr.wk f (fun a i z => by unfold PRl PRq at z; unfold POg; omega)
  have bad : ∀ x, Fr PRl h12 x → FM S0 B n t x → EvI X (d + 11) mX11_orders 69 [(2, 78), (8, -1), (8, -1)] [] sh pt x K := by
    intro x fx m
    have bp := fm_pos m
    obtain ⟨S, r, s0, s1, s2⟩ := m
    refine b_X11_orders_69 hst ⟨fun _ y1 d1 => ?_, fun c => absurd c (by omega)⟩
    have w22 : y1 78 22 = x 78 22 := by rw [d1, qup_of (by omega)]
    have w23 : y1 78 23 = x 78 23 := by rw [d1, qup_of (by omega)]
    rw [w22, w23]
    refine ⟨fun _ => b_X11_orders_114 hst (fun y2 d2 => ?_), fun c => absurd c (by omega)⟩
    have u22 : y2 78 22 = x 78 22 := by rw [d2, qup_of (by omega)]; exact w22
    rw [u22]
    refine ⟨fun c => absurd c (by omega), fun _ => b_X11_refuse hst (fun y3 d3 => ?_)⟩
    refine kf y3 S r s0 ?_ ?_ ?_ ?_ ?_ (Fr.tr fO (Fr.tr (lw fx) ?_))
    · rw [d3, qup_of (by omega), d2, qup_of (by omega), d1, qup_at]; exact s1
    · rw [d3, qup_of (by omega), d2, qup_at]; exact s2
    · rw [d3, qup_of (by omega), d2, qup_of (by omega), d1, qup_of (by omega), fx 78 18 (by unfold PRl PRq; omega)]; exact g18
    · rw [d3, qup_at]
    · rw [d3, qup_of (by omega), d2, qup_of (by omega), d1, qup_of (by omega), fx 78 1 (by unfold PRl PRq; omega)]; exact g1
    · rw [d3, d2, d1]; exact Fr.up (Fr.up (Fr.up Fr.rf (by unfold POg; omega)) (by unfold POg; omega)) (by unfold POg; omega)
  have loop : ∀ (z : Nat) (S x : qM), n - S 9 5 < z → RMo S0 B n t S x → LN t S x (S t 9) → S 9 9 = 0 → Fr PRl h12 x → EvI X (d + 11) mX11_orders 69 [(2, 78), (8, -1), (8, -1)] [] sh pt x K := by
    intro z
    induction z with
    | zero =>
      intro S x e q
      have := q.1.2.2.2.2.2.2.2.1.2.2.2.2.2.2.2.2.1
      omega
    | succ z ih =>
      intro S x e q ln w fx
      have tm := q.1
      have iv := tm.2.2.2.2.2.2.2.1
      have pb := iv.2.2.2.2.2.2.2.2.1
      have ab := tkA_bd (B := B) pb.2
      have tb' := tkR_bd (B := B) (n := n) (a := tkA B n (S 9 5)) ab.2
      have dp0 : S 9 13 = 0 := iv.2.2.2.2.2.2.2.2.2.2.2.2.2 (by omega)
      have k1 := tm.2.1.1
      have rk : x 78 24 = 0 ↔ (tkR B n (tkA B n (S 9 5))).1 = 1 := by
        rw [k1]
        unfold rK
        split <;> omega
      have gx : GR S0 x := by
        have fh : ∀ a i, ¬ POg a i → x a i = h a i := fun a i c => (lw fx a i c).trans (fO a i c)
        refine ⟨by rw [fh 78 9 (by unfold POg; omega)]; exact gr.1, gr.2.1, fun i a b => ?_⟩
        rw [fh 87 i (by unfold POg; omega), fh 85 i (by unfold POg; omega)]
        exact gr.2.2 i a b
      refine b_X11_orders_69 hst ⟨fun c => absurd tm.2.2.1 c, fun _ => ⟨fun c => ?_, fun c => ?_⟩⟩
      · have c1 := rk.mp c
        have rs := Rch.st tm.2.2.2.2.2.2.2.2
        rw [stp, if_neg (by have := tm.2.2.2.2.2.1; have := tm.2.2.2.2.2.2.1; omega), if_pos ⟨c1, w⟩] at rs
        have y10 : qup (qup S 9 5 (tkR B n (tkA B n (S 9 5))).2.1) t 10 1 t 10 = 1 := qup_at
        have y2 : qup (qup S 9 5 (tkR B n (tkA B n (S 9 5))).2.1) t 10 1 9 2 = 0 := by rw [qup_of (by omega), qup_of (by omega)]; exact tm.2.2.2.2.2.1
        have yf : Fr (fun a i => (a = 9 ∧ i = 5) ∨ (a = t ∧ i = 10)) S (qup (qup S 9 5 (tkR B n (tkA B n (S 9 5))).2.1) t 10 1) := Fr.up (Fr.up Fr.rf (by omega)) (by omega)
        have ivE : IV n t (qup (qup S 9 5 (tkR B n (tkA B n (S 9 5))).2.1) t 10 1) := by
          have i1 := IV_pos ht (q := (tkR B n (tkA B n (S 9 5))).2.1) (by omega) (by omega) iv
          generalize (tkR B n (tkA B n (S 9 5))).2.1 = p at *
          rcases ht with rfl | rfl <;> simpa [IV, qup] using i1
        generalize qup (qup S 9 5 (tkR B n (tkA B n (S 9 5))).2.1) t 10 1 = E at *
        intro y1 d1
        have w22 : y1 78 22 = 0 := by rw [d1, qup_of (by omega)]; exact tm.2.2.1
        rw [w22]
        refine ⟨fun c => absurd rfl c, fun _ => b_X11_orders_114 hst (fun y3 d3 => ?_)⟩
        have u22 : y3 78 22 = 0 := by rw [d3, qup_of (by omega)]; exact w22
        have u31 : y3 78 31 = S t 9 := by rw [d3, qup_of (by omega), d1, qup_of (by omega)]; exact tm.2.2.2.2.1
        have u32 : y3 78 32 = S t 8 := by rw [d3, qup_of (by omega), d1, qup_of (by omega)]; exact tm.2.2.2.1
        rw [u22, u31]
        refine ⟨fun _ y4 d4 => ?_, fun c => absurd c (by decide)⟩
        have f4 : Fr (fun a i => a = 78 ∧ (i = 20 ∨ i = 21 ∨ i = 30)) x y4 := by rw [d4, d3, d1]; exact Fr.up (Fr.up (Fr.up Fr.rf (by omega)) (by omega)) (by omega)
        have q30 : ∀ {g : qM}, Fr (fun a _ => a = 89 ∨ a = 90 ∨ (94 ≤ a ∧ a ≤ 99)) y4 g → g 78 30 = S t 9 ∧ g 78 32 = S t 8 := fun f => ⟨by rw [f 78 30 (by omega), d4, qup_at], by rw [f 78 32 (by omega), d4, qup_of (by omega)]; exact u32⟩
        have cp := m_copy (h := y4) (L := S t 9) (N := S t 8) (K := fun g => K (S t 8) g)
          (E141 := fun v g => 0 ≤ v → (g 78 30 = S t 9 ∧ g 78 32 = S t 8) → EvI X (d + 11) mX11_orders 141 [(2, 78), (8, -1), (0, v)] [] sh pt g K)
          (E169 := fun v g => 0 ≤ v → (g 78 30 = S t 9 ∧ g 78 32 = S t 8) → EvI X (d + 11) mX11_orders 169 [(2, 78), (8, -1), (0, v)] [] sh pt g K)
          (E197 := fun v g => 0 ≤ v → (g 78 30 = S t 9 ∧ g 78 32 = S t 8) → EvI X (d + 11) mX11_orders 197 [(2, 78), (8, -1), (0, v)] [] sh pt g K)
          iv.2.2.2.2.1 iv.1
          (fun v g a b v0 cd => by
            have Lb := iv.2.2.2.2.1
            refine b_X11_orders_141 hst ?_
            rw [cd.1]
            refine ⟨fun c => a c (by decide) cd, fun c => ⟨by omega, by omega, fun g3 e3 => ⟨⟨by omega, by omega⟩, ?_⟩⟩⟩
            rw [e3]
            exact b c v0 (by omega) ⟨by rw [qup_of (by omega)]; exact cd.1, by rw [qup_of (by omega)]; exact cd.2⟩)
          (fun v g a b v0 cd => by
            have Lb := iv.2.2.2.2.1
            refine b_X11_orders_169 hst ?_
            rw [cd.1]
            refine ⟨fun c => a c (by decide) cd, fun c => ⟨by omega, by omega, fun g3 e3 => ⟨⟨by omega, by omega⟩, ?_⟩⟩⟩
            rw [e3]
            exact b c v0 (by omega) ⟨by rw [qup_of (by omega)]; exact cd.1, by rw [qup_of (by omega)]; exact cd.2⟩)
          (fun v g a b v0 cd => by
            have Nb := iv.1
            refine b_X11_orders_197 hst ?_
            rw [cd.2]
            refine ⟨fun c => a c, fun c => ⟨by omega, by omega, fun g3 e3 => ⟨by omega, by omega, fun g6 e6 => ⟨by omega, by omega, fun g9 e9 => ⟨by omega, by omega, fun g12 e12 => ⟨by omega, by omega, fun g15 e15 => ⟨by omega, by omega, fun g18 e18 => ⟨⟨by omega, by omega⟩, ?_⟩⟩⟩⟩⟩⟩⟩⟩
            have r3 : ∀ x, ¬ x = 94 → g3 x v = g x v := fun x c => by rw [e3, qup_of (by omega)]
            have r6 : ∀ x, ¬ x = 95 → g6 x v = g3 x v := fun x c => by rw [e6, qup_of (by omega)]
            have r9 : ∀ x, ¬ x = 96 → g9 x v = g6 x v := fun x c => by rw [e9, qup_of (by omega)]
            have r12 : ∀ x, ¬ x = 97 → g12 x v = g9 x v := fun x c => by rw [e12, qup_of (by omega)]
            have r15 : ∀ x, ¬ x = 98 → g15 x v = g12 x v := fun x c => by rw [e15, qup_of (by omega)]
            have r18 : ∀ x, ¬ x = 99 → g18 x v = g15 x v := fun x c => by rw [e18, qup_of (by omega)]
            have fr : Fr (fun a i => (94 ≤ a ∧ a ≤ 99) ∧ i = v) g g18 := by
              rw [e18, e15, e12, e9, e6, e3]
              exact Fr.up (Fr.up (Fr.up (Fr.up (Fr.up (Fr.up Fr.rf (by omega)) (by omega)) (by omega)) (by omega)) (by omega)) (by omega)
            refine b c v0 g18 fr ⟨?_, ?_, ?_, ?_, ?_, ?_⟩ (by omega) ⟨by rw [fr 78 30 (by omega)]; exact cd.1, by rw [fr 78 32 (by omega)]; exact cd.2⟩
            · rw [r18 94 (by decide), r15 94 (by decide), r12 94 (by decide), r9 94 (by decide), r6 94 (by decide), e3, qup_at]
            · rw [r18 95 (by decide), r15 95 (by decide), r12 95 (by decide), r9 95 (by decide), e6, qup_at, r3 101 (by decide)]
            · rw [r18 96 (by decide), r15 96 (by decide), r12 96 (by decide), e9, qup_at, r6 102 (by decide), r3 102 (by decide)]
            · rw [r18 97 (by decide), r15 97 (by decide), e12, qup_at, r9 103 (by decide), r6 103 (by decide), r3 103 (by decide)]
            · rw [r18 98 (by decide), e15, qup_at, r12 104 (by decide), r9 104 (by decide), r6 104 (by decide), r3 104 (by decide)]
            · rw [e18, qup_at, r15 105 (by decide), r12 105 (by decide), r9 105 (by decide), r6 105 (by decide), r3 105 (by decide)])
          (fun g fg c90 c89 c94 => by
            have E8 : E t 8 = S t 8 := yf t 8 (by omega)
            have E9 : E t 9 = S t 9 := yf t 9 (by omega)
            have kk := ks g E rs y2 y10 ivE
            rw [E8] at kk
            refine kk ?_ ?_ ?_ ?_ ?_ ?_ ?_
            · rw [fg 78 20 (by omega), d4, qup_of (by omega), d3, qup_of (by omega), d1, qup_at]; exact tm.2.2.1
            · rw [fg 78 21 (by omega), d4, qup_of (by omega), d3, qup_at]
            · rw [fg 78 18 (by omega), f4 78 18 (by omega), fx 78 18 (by unfold PRl PRq; omega)]; exact g18
            · rw [fg 78 0 (by omega), f4 78 0 (by omega), fx 78 0 (by unfold PRl PRq; omega)]; exact g0
            · rw [fg 78 1 (by omega), f4 78 1 (by omega), fx 78 1 (by unfold PRl PRq; omega)]; exact g1
            · obtain ⟨a1, a2, a3, a4, a5, a6⟩ := ln
              refine ⟨by rw [E9]; exact (q30 fg).1, ?_, fun l l0 l1 => ?_, fun l l0 l1 => ?_, fun o o0 o1 => ?_⟩
              · rw [c90 0 (by decide) iv.2.2.2.2.1.1, f4 93 0 (by omega)]; exact a1
              · rw [E9] at l1
                rw [c90 (l + 1) (by omega) (by omega), f4 93 _ (by omega), yf (t + 7) l (by omega)]; exact a2 l l0 l1
              · rw [E9] at l1
                have p := a5 l l0 l1
                rw [c89 l l0 l1, f4 91 _ (by omega), yf (t + 8) l (by omega)]
                refine ⟨p.1, p.2.1, fun m m0 => ?_⟩
                rw [p.2.2 m m0]
                refine and_congr_right (fun _ => ?_)
                constructor
                · intro y l' b0 b1
                  rw [c89 l' b0 (by omega), f4 91 _ (by omega)]
                  exact y l' b0 b1
                · intro y l' b0 b1
                  have := y l' b0 b1
                  rw [c89 l' b0 (by omega), f4 91 _ (by omega)] at this
                  exact this
              · rw [E8] at o1
                have p := q.2 o o0 o1
                have v := c94 o o0 o1
                have fz : ∀ a, 100 ≤ a → a ≤ 105 → y4 a o = x a o := fun a c1 c2 => f4 a o (by omega)
                refine ⟨RO_fr p.1 (fun j j0 j1 => yf _ _ (by omega)) (fun a c1 c2 => ?_), ?_⟩
                · have : a = 100 ∨ a = 101 ∨ a = 102 ∨ a = 103 ∨ a = 104 := by omega
                  rcases this with rfl | rfl | rfl | rfl | rfl
                  · exact v.1.trans (fz _ (by decide) (by decide))
                  · exact v.2.1.trans (fz _ (by decide) (by decide))
                  · exact v.2.2.1.trans (fz _ (by decide) (by decide))
                  · exact v.2.2.2.1.trans (fz _ (by decide) (by decide))
                  · exact v.2.2.2.2.1.trans (fz _ (by decide) (by decide))
                · rw [v.2.2.2.2.2, fz 105 (by decide) (by decide), yf (t + 6) o (by omega)]
                  exact p.2 (fun i i0 i1 => by omega)
            · exact Fr.tr (Fr.wk fO (fun a i z => by unfold POg at z; unfold POs; omega)) (Fr.tr (Fr.wk (lw fx) (fun a i z => by unfold POg at z; unfold POs; omega)) (Fr.tr (Fr.wk f4 (fun a i z => by unfold POs; omega)) (Fr.wk fg (fun a i z => by unfold POs; omega)))))
        exact cp (by decide) (q30 Fr.rf)
      · refine m_readLine (d := d) hst ht q ln gx w (fun c1 => c (rk.mpr c1)) (fun x1 f1 m1 => bad x1 (Fr.tr fx f1) m1) (fun S' x1 q1 l1 w1 p1 f1 => ih S' x1 (by omega) q1 l1 w1 (Fr.tr fx f1))
  refine loop (n - S0 9 5 + 1).toNat S0 h12 (by have := iv0.2.2.2.2.2.2.2.2.1; omega) ⟨m12, fun o o0 o1 => by omega⟩ ?_ i0.2.2.2.1 Fr.rf
  refine ⟨by rw [f12 93 0 (by unfold PTm; omega)]; exact v93, fun l l0 l1 => by omega, by rw [i0.2.2.2.2.2.2.1]; decide, fun m m0 => ?_, fun l l0 l1 => by omega, fun g c0 c1 => ?_⟩
  · rw [i0.2.2.2.2.2.2.1, tb_0]
    exact ⟨fun c => absurd c (by decide), fun ⟨l, a, b, _⟩ => by omega⟩
  · rw [i0.2.2.2.2.2.2.2, tb_0]
    exact ⟨fun c => absurd c (by decide), fun ⟨l, a, b, _⟩ => by omega⟩
end
