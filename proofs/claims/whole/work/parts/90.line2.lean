/-! the reference's reader: a line -/
def PRl (a i : Int) : Prop := PRq a i ∨ a = 91 ∨ a = 92 ∨ a = 93 ∨ (a = 78 ∧ i = 31)
section
variable {X : qX} {d : Nat} {sh : qS} {pt S0 : qM} {B : Int → Int} {n t : Int}
theorem m_line50B {K : qM → Prop} {x : qM} {g L : Int} (hst : St sh pt) (m : FM S0 B n t x) (eL : x 78 31 = L) (L8 : L ≤ 8) (k : K x) : ∀ (j : Nat) (l : Int), l + j = L → 0 ≤ l → EvV X (d + 1) mX11_readLine 50 [(2, 78), (0, g), (0, l)] [] sh pt x K := by
  have bp := fm_pos m
  intro j
  induction j with
  | zero =>
    intro l e l0
    exact b_X11_readLine_50 hst ⟨fun _ => ⟨fun c => absurd c (by omega), fun _ => k⟩, fun c => absurd c (by omega)⟩
  | succ j ih =>
    intro l e l0
    have nx := ih (l + 1) (by omega) (by omega)
    exact b_X11_readLine_50 hst ⟨fun c => absurd c (by omega), fun _ => ⟨by omega, fun _ => ⟨⟨by omega, by omega⟩, nx⟩, fun _ => b_X11_fail hst ⟨fun c => absurd c (by omega), fun _ => ⟨⟨by omega, by omega⟩, nx⟩⟩⟩⟩
theorem m_readLine {K : qM → Prop} {S h : qM} (hst : St sh pt) (ht : isT t) (q : RMo S0 B n t S h) (lq : LN t S h (S t 9)) (gr : GR S0 h) (w : S 9 9 = 0) (nend : ¬ (tkR B n (tkA B n (S 9 5))).1 = 1) (kf : ∀ h1, Fr PRl h h1 → FM S0 B n t h1 → K h1) (ks : ∀ S' h1, RMo S0 B n t S' h1 → LN t S' h1 (S' t 9) → S' 9 9 = 0 → S 9 5 < S' 9 5 → Fr PRl h h1 → K h1) : RunV X (d + 10) mX11_readLine [(2, 78)] sh pt h K := by
  have tn : t ≠ 9 ∧ t ≠ 11 ∧ 40 ≤ t ∧ t ≤ 60 := by rcases ht with e | e <;> omega
  have tm := q.1
  have b0 := tm.2.2.1
  have eN := tm.2.2.2.1
  have eL := tm.2.2.2.2.1
  have iv := tm.2.2.2.2.2.2.2.1
  have pb := iv.2.2.2.2.2.2.2.2.1
  have Lb := iv.2.2.2.2.1
  have lnb := iv.2.2.2.2.2.2.2.2.2.1
  have dp0 : S 9 13 = 0 := iv.2.2.2.2.2.2.2.2.2.2.2.2.2 (by omega)
  have l8 := IV_l8 iv w
  have ab := tkA_bd (B := B) pb.2
  have tb' := tkR_bd (B := B) (n := n) (a := tkA B n (S 9 5)) ab.2
  have fr0 := Rch_fr tm.2.2.2.2.2.2.2.2
  have ngb := gr.2.1
  have f28 : S 2 8 = S0 2 8 := fr0 2 8 (by unfold PXs PXt PXk; omega)
  have f7 : ∀ i, S 7 i = S0 7 i := fun i => fr0 7 i (by unfold PXs PXt PXk; omega)
  have f8 : ∀ i, S 8 i = S0 8 i := fun i => fr0 8 i (by unfold PXs PXt PXk; omega)
  obtain ⟨t1, t2, t3, t4, t5⟩ := tm.2.1
  have ne : ¬ ((tkR B n (tkA B n (S 9 5))).1 = 1 ∧ S 9 9 = 0) := fun z => nend z.1
  have q9 : (qup S 9 5 (tkR B n (tkA B n (S 9 5))).2.1) 9 9 = S 9 9 := qup_of (by decide)
  have fF : ∀ {h1 : qM}, Fr PFm h h1 → Fr PRl h h1 := fun f => Fr.wk f (fun a i z => Or.inl (by unfold PFm at z; unfold PRq; omega))
  have enm : ¬ (tkR B n (tkA B n (S 9 5))).1 = 0 → (tak t (tkA B n (S 9 5)) (tkR B n (tkA B n (S 9 5))) (qup S 9 5 (tkR B n (tkA B n (S 9 5))).2.1)) = tNm t (tkA B n (S 9 5)) (tkR B n (tkA B n (S 9 5))) (qup S 9 5 (tkR B n (tkA B n (S 9 5))).2.1) := fun z => by rw [tak, if_neg z, q9, if_pos w]
  have rk : h 78 24 = 1 ↔ (tkR B n (tkA B n (S 9 5))).1 = 2 := by
    rw [t1]
    unfold rK
    split <;> omega
  have gfo := fnd_ok (f := S 7) (v := (tkR B n (tkA B n (S 9 5))).2.2) (S 2 8).toNat 0
  have s7 : (qup S 9 5 (tkR B n (tkA B n (S 9 5))).2.1) 7 = S 7 := by funext i; exact qup_of (by omega)
  have s28 : (qup S 9 5 (tkR B n (tkA B n (S 9 5))).2.1) 2 8 = S 2 8 := qup_of (by decide)
  have s14 : (qup S 9 5 (tkR B n (tkA B n (S 9 5))).2.1) 9 14 = S 9 14 := qup_of (by decide)
  have s9 : (qup S 9 5 (tkR B n (tkA B n (S 9 5))).2.1) t 9 = S t 9 := qup_of (by omega)
  have s11 : (qup S 9 5 (tkR B n (tkA B n (S 9 5))).2.1) t 11 = S t 11 := qup_of (by omega)
  have s8 : ∀ i, (qup S 9 5 (tkR B n (tkA B n (S 9 5))).2.1) 8 i = S 8 i := fun i => qup_of (by omega)
  have e34 : (tkR B n (tkA B n (S 9 5))).1 = 2 → EvV X (d + 10) mX11_readLine 34 [(2, 78), (8, -1), (8, -1)] [(0, fnd (S 7) (tkR B n (tkA B n (S 9 5))).2.2 (S 2 8).toNat 0)] sh pt h K := by
    intro c2
    have en := enm (by omega)
    rw [tNm, if_pos c2, s7, s28, s14, s9, s11] at en
    generalize fnd (S 7) (tkR B n (tkA B n (S 9 5))).2.2 (S 2 8).toNat 0 = g at *
    rw [s8] at en
    have ftB : (g = -1 ∨ ¬ qiand (qiushr (S 9 14) g) 1 = 0) → ∀ l, 0 ≤ l → l ≤ S t 9 → RunV X (d + 9) mX11_fail [(2, 78), (0, 3), (0, (h 78 25))] sh pt h (fun h9 => EvV X (d + 10) mX11_readLine 50 [(2, 78), (0, g), (0, l)] [] sh pt h9 K) := fun z l l0 l1 =>
      m_fault hst ht tm ne (by decide) t3 (by rw [en, if_pos z]) (fun h1 f1 m1 => m_line50B (d := d + 9) (L := S t 9) hst m1 (by rw [f1 78 31 (by unfold PFm; omega)]; exact eL) (by omega) (kf h1 (fF f1) m1) (S t 9 - l).toNat l (by omega) l0)
    refine b_X11_readLine_34 hst ⟨fun g0 => ?_, fun g0 => ftB (by omega) 0 (by decide) Lb.1⟩
    have gb : 0 ≤ g ∧ g < 8 := by omega
    have tf := (tb_free (u := S 9 14) (s := g) lnb.1 (by omega) gb.1 (by omega)).1
    have main : (∀ l, 0 ≤ l → l < S t 9 → ¬ h 92 l = g) → EvV X (d + 10) mX11_readLine 50 [(2, 78), (0, g), (0, S t 9)] [] sh pt h K := by
      intro nl
      have nb : tb (S 9 14) g = false := Bool.eq_false_iff.mpr (fun z => by
        obtain ⟨l, a, b, c⟩ := (lq.2.2.2.2.2 g gb.1 gb.2).mp z
        exact nl l a b c)
      have z0 := tf.mpr nb
      have L8 := l8 g gb.1 gb.2 z0
      rw [if_neg (by omega)] at en
      have st1 := tm_stp ht tm ne en
      have gi := gr.2.2 g gb.1 (by omega)
      refine b_X11_readLine_50 hst ?_
      rw [eL]
      refine ⟨fun _ => ⟨fun _ => ⟨by omega, fun h2 e2 => ?_⟩, fun c => absurd c (by omega)⟩, fun c => absurd c (by omega)⟩
      have x31 : h2 78 31 = S t 9 := by rw [e2, qup_of (by omega)]; exact eL
      have x85 : h2 85 g = S 8 g := by rw [e2, qup_of (by omega), gi.2.1, f8]
      rw [x31, x85]
      refine ⟨gb, by omega, fun h5 e5 => ?_⟩
      have f5 : Fr (fun a i => (a = 91 ∨ a = 92) ∧ i = S t 9) h h5 := by rw [e5, e2]; exact Fr.up (Fr.up Fr.rf (by omega)) (by omega)
      have v91 : h5 91 (S t 9) = S 8 g := by rw [e5, qup_at]
      have v92 : h5 92 (S t 9) = g := by rw [e5, qup_of (by omega), e2, qup_at]
      have y2 : qup (qup (qup (qup (qup S 9 5 (tkR B n (tkA B n (S 9 5))).2.1) 9 14 (qior (S 9 14) (qishl 1 g))) (t + 8) (S t 9) (qiand (S 8 g) (qixor (S t 11) (-1)))) t 11 (qior (S t 11) (S 8 g))) 9 9 1 9 2 = 0 := by rw [qup_of (by omega), qup_of (by omega), qup_of (by omega), qup_of (by omega), qup_of (by omega)]; exact tm.2.2.2.2.2.1
      have y8 : qup (qup (qup (qup (qup S 9 5 (tkR B n (tkA B n (S 9 5))).2.1) 9 14 (qior (S 9 14) (qishl 1 g))) (t + 8) (S t 9) (qiand (S 8 g) (qixor (S t 11) (-1)))) t 11 (qior (S t 11) (S 8 g))) 9 9 1 t 8 = S t 8 := by rw [qup_of (by omega), qup_of (by omega), qup_of (by omega), qup_of (by omega), qup_of (by omega)]
      have y9 : qup (qup (qup (qup (qup S 9 5 (tkR B n (tkA B n (S 9 5))).2.1) 9 14 (qior (S 9 14) (qishl 1 g))) (t + 8) (S t 9) (qiand (S 8 g) (qixor (S t 11) (-1)))) t 11 (qior (S t 11) (S 8 g))) 9 9 1 t 9 = S t 9 := by rw [qup_of (by omega), qup_of (by omega), qup_of (by omega), qup_of (by omega), qup_of (by omega)]
      have y99 : qup (qup (qup (qup (qup S 9 5 (tkR B n (tkA B n (S 9 5))).2.1) 9 14 (qior (S 9 14) (qishl 1 g))) (t + 8) (S t 9) (qiand (S 8 g) (qixor (S t 11) (-1)))) t 11 (qior (S t 11) (S 8 g))) 9 9 1 9 9 = 1 := qup_at
      have y11 : qup (qup (qup (qup (qup S 9 5 (tkR B n (tkA B n (S 9 5))).2.1) 9 14 (qior (S 9 14) (qishl 1 g))) (t + 8) (S t 9) (qiand (S 8 g) (qixor (S t 11) (-1)))) t 11 (qior (S t 11) (S 8 g))) 9 9 1 t 11 = qior (S t 11) (S 8 g) := by rw [qup_of (by omega), qup_at]
      have y14 : qup (qup (qup (qup (qup S 9 5 (tkR B n (tkA B n (S 9 5))).2.1) 9 14 (qior (S 9 14) (qishl 1 g))) (t + 8) (S t 9) (qiand (S 8 g) (qixor (S t 11) (-1)))) t 11 (qior (S t 11) (S 8 g))) 9 9 1 9 14 = qior (S 9 14) (qishl 1 g) := by rw [qup_of (by omega), qup_of (by omega), qup_of (by omega), qup_at]
      have yb : qup (qup (qup (qup (qup S 9 5 (tkR B n (tkA B n (S 9 5))).2.1) 9 14 (qior (S 9 14) (qishl 1 g))) (t + 8) (S t 9) (qiand (S 8 g) (qixor (S t 11) (-1)))) t 11 (qior (S t 11) (S 8 g))) 9 9 1 (t + 8) (S t 9) = qiand (S 8 g) (qixor (S t 11) (-1)) := by rw [qup_of (by omega), qup_of (by omega), qup_at]
      have yf : Fr (fun a i => (a = 9 ∧ (i = 5 ∨ i = 9 ∨ i = 14)) ∨ (a = t ∧ i = 11) ∨ (a = t + 8 ∧ i = S t 9)) S (qup (qup (qup (qup (qup S 9 5 (tkR B n (tkA B n (S 9 5))).2.1) 9 14 (qior (S 9 14) (qishl 1 g))) (t + 8) (S t 9) (qiand (S 8 g) (qixor (S t 11) (-1)))) t 11 (qior (S t 11) (S 8 g))) 9 9 1) := Fr.up (Fr.up (Fr.up (Fr.up (Fr.up Fr.rf (by omega)) (by omega)) (by omega)) (by omega)) (by omega)
      generalize qup (qup (qup (qup (qup S 9 5 (tkR B n (tkA B n (S 9 5))).2.1) 9 14 (qior (S 9 14) (qishl 1 g))) (t + 8) (S t 9) (qiand (S 8 g) (qixor (S t 11) (-1)))) t 11 (qior (S t 11) (S 8 g))) 9 9 1 = S1 at *
      have p1 : S 9 5 < S1 9 5 := by
        rw [st1.2.2.2]
        have := tb'.2.2.2.1 nend
        omega
      have tp5 : tpM h5 B n := ⟨by rw [f5 78 _ (by omega)]; exact tm.1.1, tm.1.2.1, tm.1.2.2.1, fun i a b => by rw [f5 88 i (by omega)]; exact tm.1.2.2.2 i a b⟩
      refine m_nxt hst tp5 (by rw [f5 78 26 (by omega), t2, st1.2.2.2]) (by rw [f5 78 22 (by omega)]; exact b0) (by rw [f5 78 32 (by omega), y8]; exact eN) (by rw [f5 78 31 (by omega), y9]; exact eL) y2 st1.2.2.1 st1.2.1 st1.1 (fun h6 f6 m6 => ?_)
      have ln1 : LN t S1 h6 (S t 9 + 1) := LN_beg lq gb ⟨by rw [f8]; exact gi.2.2.2.1, by rw [f8]; exact gi.2.2.2.2⟩ Lb.1 lnb y9 y11 y14 (fun i => yf (t + 7) i (by omega)) (fun i c => yf (t + 8) i (by omega)) yb (fun i c => by rw [f6 91 i (by unfold PTm; omega), f5 91 i (by omega)]) (fun i c => by rw [f6 92 i (by unfold PTm; omega), f5 92 i (by omega)]) (fun i => by rw [f6 93 i (by unfold PTm; omega), f5 93 i (by omega)]) (by rw [f6 91 _ (by unfold PTm; omega)]; exact v91) (by rw [f6 92 _ (by unfold PTm; omega)]; exact v92)
      have fl6 : Fr PRl h h6 := Fr.tr (Fr.wk f5 (fun a i z => by unfold PRl; omega)) (Fr.wk f6 (fun a i z => Or.inl (by unfold PTm at z; unfold PRq; omega)))
      have bad126 : ∀ x, Fr PRl h x → FM S0 B n t x → EvV X (d + 10) mX11_readLine 126 [(2, 78), (8, -1), (8, -1)] [] sh pt x K := fun x fx m => by
        have := fm_pos m
        exact b_X11_readLine_126 hst ⟨fun _ => b_X11_readLine_150 hst ⟨fun c => absurd c (by omega), fun _ => kf x fx m⟩, fun c => absurd c (by omega)⟩
      have loop : ∀ (z : Nat) (A x : qM), n - A 9 5 < z → RMo S0 B n t A x → LN t A x (A t 9 + 1) → A 9 9 = 2 → A 9 13 = 0 → S 9 5 < A 9 5 → A t 9 = S t 9 → Fr PRl h x → EvV X (d + 10) mX11_readLine 126 [(2, 78), (8, -1), (8, -1)] [] sh pt x K := by
        intro z
        induction z with
        | zero =>
          intro A x e qa
          have := qa.1.2.2.2.2.2.2.2.1.2.2.2.2.2.2.2.2.1
          omega
        | succ z ihz =>
          intro A x ez qa la wa da pa na fx
          have ta := qa.1
          have pba := ta.2.2.2.2.2.2.2.1.2.2.2.2.2.2.2.2.1
          refine b_X11_readLine_126 hst ⟨fun c => absurd ta.2.2.1 c, fun _ => m_isSign hst ta (fun y => ⟨fun _ => ?_, fun c => absurd c (by decide)⟩) (fun y => ⟨fun c => absurd rfl c, fun _ => ?_⟩)⟩
          · have a9 : qup A 9 5 (tkR B n (tkA B n (A 9 5))).2.1 9 9 = A 9 9 := qup_of (by decide)
            have a13 : qup A 9 5 (tkR B n (tkA B n (A 9 5))).2.1 9 13 = A 9 13 := qup_of (by decide)
            have at9 : qup A 9 5 (tkR B n (tkA B n (A 9 5))).2.1 t 9 = A t 9 := qup_of (by omega)
            have at8 : qup A 9 5 (tkR B n (tkA B n (A 9 5))).2.1 t 8 = A t 8 := qup_of (by omega)
            have ea : tak t (tkA B n (A 9 5)) (tkR B n (tkA B n (A 9 5))) (qup A 9 5 (tkR B n (tkA B n (A 9 5))).2.1) = qup (qup (qup (qup A 9 5 (tkR B n (tkA B n (A 9 5))).2.1) (t + 7) (A t 9) (A t 8)) t 9 (A t 9 + 1)) 9 9 0 := by
              have := y.1
              rw [tak, if_neg (by omega), a9, if_neg (by omega), if_neg (by omega), if_pos wa, tOr, a13, if_pos ⟨da, y⟩, at9, at8]
            have sa := tm_stp ht ta (fun c => by omega) ea
            have x2 : qup (qup (qup (qup A 9 5 (tkR B n (tkA B n (A 9 5))).2.1) (t + 7) (A t 9) (A t 8)) t 9 (A t 9 + 1)) 9 9 0 9 2 = 0 := by rw [qup_of (by omega), qup_of (by omega), qup_of (by omega), qup_of (by omega)]; exact ta.2.2.2.2.2.1
            have x9 : qup (qup (qup (qup A 9 5 (tkR B n (tkA B n (A 9 5))).2.1) (t + 7) (A t 9) (A t 8)) t 9 (A t 9 + 1)) 9 9 0 t 9 = A t 9 + 1 := by rw [qup_of (by omega), qup_at]
            have x7 : qup (qup (qup (qup A 9 5 (tkR B n (tkA B n (A 9 5))).2.1) (t + 7) (A t 9) (A t 8)) t 9 (A t 9 + 1)) 9 9 0 (t + 7) (A t 9) = A t 8 := by rw [qup_of (by omega), qup_of (by omega), qup_at]
            have x99 : qup (qup (qup (qup A 9 5 (tkR B n (tkA B n (A 9 5))).2.1) (t + 7) (A t 9) (A t 8)) t 9 (A t 9 + 1)) 9 9 0 9 9 = 0 := qup_at
            have xf : Fr (fun a i => (a = 9 ∧ (i = 5 ∨ i = 9)) ∨ (a = t ∧ i = 9) ∨ (a = t + 7 ∧ i = A t 9)) A (qup (qup (qup (qup A 9 5 (tkR B n (tkA B n (A 9 5))).2.1) (t + 7) (A t 9) (A t 8)) t 9 (A t 9 + 1)) 9 9 0) := Fr.up (Fr.up (Fr.up (Fr.up Fr.rf (by omega)) (by omega)) (by omega)) (by omega)
            generalize qup (qup (qup (qup A 9 5 (tkR B n (tkA B n (A 9 5))).2.1) (t + 7) (A t 9) (A t 8)) t 9 (A t 9 + 1)) 9 9 0 = A4 at *
            have pl : A 9 5 ≤ A4 9 5 := by rw [sa.2.2.2]; exact pos_le
            have ivA := sa.2.1
            have pA := ivA.2.2.2.2.2.2.2.2.1
            refine b_X11_readLine_150 hst ⟨fun _ => m_next hst ta.1 (p := A4 9 5) (by rw [ta.2.1.2.1, sa.2.2.2]) pA.1 pA.2 (fun h1 f1 k1 => ?_), fun c => absurd c (by rw [ta.2.2.1]; decide)⟩
            have v31 : h1 78 31 = A t 9 := by rw [f1 78 31 (by unfold PTm; omega)]; exact ta.2.2.2.2.1
            have v32 : h1 78 32 = A t 8 := by rw [f1 78 32 (by unfold PTm; omega)]; exact ta.2.2.2.1
            rw [v31]
            refine ⟨⟨by omega, by omega⟩, fun h2 e2 => ?_⟩
            have u31 : h2 78 31 = A t 9 + 1 := by rw [e2, qup_at]
            have u32 : h2 78 32 = A t 8 := by rw [e2, qup_of (by omega)]; exact v32
            rw [u31, u32]
            refine ⟨by omega, fun h4 e4 => ?_⟩
            have f14 : Fr (fun a i => (a = 78 ∧ i = 31) ∨ (a = 93 ∧ i = A t 9 + 1)) h1 h4 := by rw [e4, e2]; exact Fr.up (Fr.up Fr.rf (by omega)) (by omega)
            have f4 : Fr (fun a i => PTm a i ∨ (a = 78 ∧ i = 31) ∨ (a = 93 ∧ i = A t 9 + 1)) x h4 := Fr.tr (Fr.wk f1 (fun a i c => Or.inl c)) (Fr.wk f14 (fun a i c => Or.inr c))
            have tk4 : tkM h4 B n (tkA B n (A4 9 5)) := by
              unfold tkM at k1 ⊢
              rw [f14 78 _ (by omega), f14 78 _ (by omega), f14 78 _ (by omega), f14 78 _ (by omega), f14 78 _ (by omega), f14 78 _ (by omega)]
              exact k1
            have tm4 : TM S0 B n t A4 h4 := by
              refine ⟨⟨?_, ta.1.2.1, ta.1.2.2.1, fun i a b => ?_⟩, tk4, ?_, ?_, ?_, x2, sa.2.2.1, sa.2.1, sa.1⟩
              · rw [f4 78 _ (by unfold PTm; omega)]; exact ta.1.1
              · rw [f4 88 i (by unfold PTm; omega)]; exact ta.1.2.2.2 i a b
              · rw [f4 78 22 (by unfold PTm; omega)]; exact ta.2.2.1
              · rw [f4 78 32 (by unfold PTm; omega), xf t 8 (by omega)]; exact ta.2.2.2.1
              · rw [x9, e4, qup_of (by omega)]; exact u31
            refine ks A4 h4 ⟨tm4, fun o o0 o1 => ?_⟩ ?_ x99 (by omega) (Fr.tr fx (Fr.wk f4 (fun a i c => by unfold PTm at c; unfold PRl PRq; omega)))
            · have p := qa.2 o o0 (by rw [xf t 8 (by omega)] at o1; exact o1)
              refine ⟨RO_fr p.1 (fun j j0 j1 => xf _ _ (by omega)) (fun v c1 c2 => f4 v o (by unfold PTm; omega)), fun c => ?_⟩
              rw [f4 105 o (by unfold PTm; omega), xf (t + 6) o (by omega)]
              exact p.2 (fun i i0 i1 => by omega)
            · rw [x9]
              obtain ⟨w1, w2, w3, w4, w5, w6⟩ := la
              have g1 : ∀ i, h4 91 i = x 91 i := fun i => f4 91 i (by unfold PTm; omega)
              have g2 : ∀ i, h4 92 i = x 92 i := fun i => f4 92 i (by unfold PTm; omega)
              have g3 : ∀ i, ¬ i = A t 9 + 1 → h4 93 i = x 93 i := fun i c => f4 93 i (by unfold PTm; omega)
              have Lp := ta.2.2.2.2.2.2.2.1.2.2.2.2.1
              refine ⟨by rw [g3 0 (by omega)]; exact w1, fun l l0 l1 => ?_, ?_, ?_, ?_, ?_⟩
              · by_cases c : l = A t 9
                · rw [c, x7, e4, qup_at]
                · rw [g3 (l + 1) (by omega), xf (t + 7) l (by omega)]
                  exact w2 l l0 (by rw [x9] at l1; omega)
              · rw [xf t 11 (by omega)]; exact w3
              · rw [xf t 11 (by omega)]; simp only [g1]; exact w4
              · intro l l0 l1; rw [xf (t + 8) l (by omega)]; simp only [g1]; exact w5 l l0 l1
              · rw [xf 9 14 (by omega)]; simp only [g2]; exact w6
          · have r := m_readOrder (X := X) (d := d) hst ht (n - A 9 5 + 1).toNat 3 A x (fun h3 => EvV X (d + 10) mX11_readLine 126 [(2, 78), (8, -1), (8, -1)] [] sh pt h3 K) (by omega) (by omega) qa wa (by rw [if_pos da]; exact y) (fun h3 f3 m3 => bad126 h3 (Fr.tr fx (Fr.wk f3 (fun a i c => Or.inl c))) m3) (fun A' h3 q3 f3 w3 d3 o3 p3 n3 r3 => ihz A' h3 (by omega) q3 ?_ w3 (by omega) (by omega) (by rw [f3 t 9 (by unfold PSq; omega)]; exact na) (Fr.tr fx (Fr.wk r3 (fun a i c => Or.inl c))))
            · rw [da] at r
              exact r
            · rw [f3 t 9 (by unfold PSq; omega)]
              exact LN_fr la (f3 t 9 (by unfold PSq; omega)) (f3 t 11 (by unfold PSq; omega)) (f3 9 14 (by unfold PSq; omega)) (fun i => f3 (t + 7) i (by unfold PSq; omega)) (fun i => f3 (t + 8) i (by unfold PSq; omega)) (fun v i c => r3 v i (by unfold PRq; omega))
      have c9 : qup S1 9 5 (tkR B n (tkA B n (S1 9 5))).2.1 9 9 = S1 9 9 := qup_of (by decide)
      have et : ¬ (tkR B n (tkA B n (S1 9 5))).1 = 0 → tak t (tkA B n (S1 9 5)) (tkR B n (tkA B n (S1 9 5))) (qup S1 9 5 (tkR B n (tkA B n (S1 9 5))).2.1) = tCo (tkA B n (S1 9 5)) (tkR B n (tkA B n (S1 9 5))) (qup S1 9 5 (tkR B n (tkA B n (S1 9 5))).2.1) := fun c => by
        rw [tak, if_neg c, c9, if_neg (by omega), if_pos y99]
      refine m_sign (S' := qup (qup S1 9 5 (tkR B n (tkA B n (S1 9 5))).2.1) 9 9 2) hst ht m6 (by omega) (fun y => ⟨?_, ?_, ?_, ?_⟩) (fun y c => ?_) (fun x f m => bad126 x (Fr.tr fl6 (Fr.wk f (fun a i c => Or.inl (by unfold PFm at c; unfold PRq; omega)))) m) (fun y x f m => ?_)
      · have := y.1
        rw [et (by omega), tCo, if_pos y]
      · rw [qup_of (by omega), qup_of (by omega)]; exact y2
      · rw [qup_of (by omega), qup_of (by omega)]
      · rw [qup_of (by omega), qup_of (by omega)]
      · rw [et c, tCo, if_neg y]
      · have x5 : S1 9 5 ≤ qup (qup S1 9 5 (tkR B n (tkA B n (S1 9 5))).2.1) 9 9 2 9 5 := by
          rw [qup_of (by omega), qup_at]; exact pos_le
        have x9 : qup (qup S1 9 5 (tkR B n (tkA B n (S1 9 5))).2.1) 9 9 2 9 9 = 2 := qup_at
        have xf : Fr (fun a i => a = 9 ∧ (i = 5 ∨ i = 9)) S1 (qup (qup S1 9 5 (tkR B n (tkA B n (S1 9 5))).2.1) 9 9 2) := Fr.up (Fr.up Fr.rf (by omega)) (by omega)
        generalize qup (qup S1 9 5 (tkR B n (tkA B n (S1 9 5))).2.1) 9 9 2 = A at *
        have fx : Fr PRl h x := Fr.tr fl6 (Fr.wk f (fun a i c => Or.inl (by unfold PFm at c; unfold PRq; omega)))
        have fz : ∀ v i : Int, 100 ≤ v → v ≤ 105 → x v i = h v i := fun v i c1 c2 => by rw [f v i (by unfold PFm; omega), f6 v i (by unfold PTm; omega), f5 v i (by omega)]
        refine loop (n - A 9 5 + 1).toNat A x (by have := m.2.2.2.2.2.2.2.1.2.2.2.2.2.2.2.2.1; omega) ⟨m, fun o o0 o1 => ?_⟩ ?_ x9 (by rw [xf 9 13 (by omega), yf 9 13 (by omega)]; exact dp0) (by omega) (by rw [xf t 9 (by omega)]; exact y9) fx
        · rw [xf t 8 (by omega), y8] at o1
          have p := q.2 o o0 o1
          refine ⟨RO_fr p.1 (fun j j0 j1 => by rw [xf _ _ (by omega)]; exact yf _ _ (by omega)) (fun v c1 c2 => fz v o c1 (by omega)), fun c => ?_⟩
          rw [fz 105 o (by decide) (by decide), xf (t + 6) o (by omega), yf (t + 6) o (by omega)]
          exact p.2 (fun i i0 i1 => by omega)
        · rw [xf t 9 (by omega), y9]
          exact LN_fr ln1 (xf t 9 (by omega)) (xf t 11 (by omega)) (xf 9 14 (by omega)) (fun i => xf (t + 7) i (by omega)) (fun i => xf (t + 8) i (by omega)) (fun v i c => f v i (by unfold PFm; omega))
    have lp50 : ∀ (j : Nat) (l : Int), l + j = S t 9 → 0 ≤ l → (∀ l', 0 ≤ l' → l' < l → ¬ h 92 l' = g) → EvV X (d + 10) mX11_readLine 50 [(2, 78), (0, g), (0, l)] [] sh pt h K := by
      intro j
      induction j with
      | zero =>
        intro l e l0 nl
        rw [show l = S t 9 by omega] at nl ⊢
        exact main nl
      | succ j ih =>
        intro l e l0 nl
        refine b_X11_readLine_50 hst ⟨fun c => absurd c (by omega), fun _ => ⟨by omega, fun c => ⟨⟨by omega, by omega⟩, ih (l + 1) (by omega) (by omega) (fun l' a b => ?_)⟩, fun c => ?_⟩⟩
        · by_cases z : l' = l
          · rw [z]; exact c
          · exact nl l' a (by omega)
        · have yes : tb (S 9 14) g = true := (lq.2.2.2.2.2 g gb.1 gb.2).mpr ⟨l, l0, by omega, c⟩
          have f := ftB (Or.inr (fun z => by rw [tf.mp z] at yes; exact absurd yes (by decide))) (l + 1) (by omega) (by omega)
          exact Ev.mono (fun r g ⟨h1, e1, e2, e3⟩ => ⟨h1, e1, e2, ⟨by omega, by omega⟩, e3⟩) f
    exact lp50 (S t 9).toNat 0 (by omega) (by decide) (fun l' a b => by omega)
  refine b_X11_readLine hst ⟨fun c => ?_, fun c => m_wrong hst ht tm ne (fun z => by rw [enm z, tNm, if_neg (fun y => c (rk.mpr y))]) (fun h1 f1 m1 => kf h1 (fF f1) m1)⟩
  have c2 := rk.mp c
  have t4' := t4 c2
  have e34 := e34 c2
  refine ⟨fun c3 => b_X11_groupOf hst (m_groupOf hst (by rw [gr.1]; omega) (h 78 9).toNat 0 (by rw [gr.1]; omega) (by decide) ?_), fun c3 => ?_⟩
  · rw [t4'.1, gr.1, ← f28]
    rw [fnd_cg (f := h 87) (g := S 7) (S 2 8).toNat 0 (fun j a b => by rw [(gr.2.2 j a (by omega)).1, f7])]
    exact e34
  · have vm : (tkR B n (tkA B n (S 9 5))).2.2 = -1 := by
      rw [t4'.2] at c3
      unfold tkR at c3 c2 ⊢
      split at c2
      · exact absurd (show (1 : Int) = 2 from c2) (by decide)
      · rename_i n1
        rw [if_neg n1] at c3 ⊢
        split at c2
        · rename_i n2
          rw [if_pos n2] at c3 ⊢
          dsimp only at c3 ⊢
          rw [if_neg (by omega)]
        · rename_i n2
          split at c2
          · dsimp only at c2
            split at c2 <;> omega
          · dsimp only at c2
            split at c2 <;> omega
    rw [vm, fnd_no (f := S 7) (v := -1) (fun j a b => by rw [f7]; have := (gr.2.2 j a (by omega)).2.2.1; omega)] at e34
    exact e34
end
