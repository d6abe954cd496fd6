/-! the reference's reader: signs and numbers -/
def PRo (a i : Int) : Prop := (a = 78 ∧ i = 32) ∨ (100 ≤ a ∧ a ≤ 105)
section
variable {X : qX} {d : Nat} {sh : qS} {pt h S S' S0 : qM} {B : Int → Int} {n t : Int}
theorem m_adv {K : qM → Prop} {h2 : qM} (hst : St sh pt) (ht : isT t) (tm : TM S0 B n t S h) (ne : ¬ ((tkR B n (tkA B n (S 9 5))).1 = 1 ∧ S 9 9 = 0)) (es : (tak t (tkA B n (S 9 5)) (tkR B n (tkA B n (S 9 5))) (qup S 9 5 (tkR B n (tkA B n (S 9 5))).2.1)) = S') (b : S' 9 2 = 0) (f : Fr PRo h h2) (e8 : h2 78 32 = S' t 8) (e9 : S t 9 = S' t 9) (k : ∀ h1, Fr PTm h2 h1 → TM S0 B n t S' h1 → K h1) : RunV X (d + 1) mX11_next [(2, 78)] sh pt h2 K := by
  have s := tm_stp ht tm ne es
  obtain ⟨tp, tk, b0, e1, e2, e3, e4, iv, r⟩ := tm
  refine m_nxt hst ?_ ?_ ?_ e8 ?_ b s.2.2.1 s.2.1 s.1 k
  · refine ⟨?_, tp.2.1, tp.2.2.1, fun i a b => ?_⟩
    · rw [f 78 _ (by unfold PRo; omega)]; exact tp.1
    · rw [f 88 _ (by unfold PRo; omega)]; exact tp.2.2.2 i a b
  · rw [f 78 26 (by unfold PRo; omega), s.2.2.2]; exact tk.2.1
  · rw [f 78 22 (by unfold PRo; omega)]; exact b0
  · rw [f 78 31 (by unfold PRo; omega), e2]; exact e9
theorem m_sign {K : qM → Prop} {v : Int} (hst : St sh pt) (ht : isT t) (tm : TM S0 B n t S h) (ne : ¬ S 9 9 = 0) (es1 : isS (tkR B n (tkA B n (S 9 5))) v → (tak t (tkA B n (S 9 5)) (tkR B n (tkA B n (S 9 5))) (qup S 9 5 (tkR B n (tkA B n (S 9 5))).2.1)) = S' ∧ S' 9 2 = 0 ∧ S' t 8 = S t 8 ∧ S' t 9 = S t 9) (es0 : ¬ isS (tkR B n (tkA B n (S 9 5))) v → ¬ (tkR B n (tkA B n (S 9 5))).1 = 0 → (tak t (tkA B n (S 9 5)) (tkR B n (tkA B n (S 9 5))) (qup S 9 5 (tkR B n (tkA B n (S 9 5))).2.1)) = flt (qup S 9 5 (tkR B n (tkA B n (S 9 5))).2.1) 2 (tkA B n (S 9 5))) (kf : ∀ h1, Fr PFm h h1 → FM S0 B n t h1 → K h1) (ks : isS (tkR B n (tkA B n (S 9 5))) v → ∀ h1, Fr PFm h h1 → TM S0 B n t S' h1 → K h1) : RunV X (d + 2) mX11_sign [(2, 78), (0, v)] sh pt h K := by
  refine b_X11_sign hst ⟨fun _ => m_isSign hst tm (fun y => ⟨fun c => absurd c (by decide), fun _ => ?_⟩) (fun y => ⟨fun _ => m_wrong hst ht tm (fun z => ne z.2) (es0 y) kf, fun c => absurd rfl c⟩), fun c => absurd c (by rw [tm.2.2.1]; decide)⟩
  have e := es1 y
  exact m_adv hst ht tm (fun z => ne z.2) e.1 e.2.1 Fr.rf (by rw [e.2.2.1]; exact tm.2.2.2.1) e.2.2.2.symm (fun h1 f1 t1 => ks y h1 (Fr.wk f1 (fun a i z => by unfold PTm at z; unfold PFm; omega)) t1)
theorem m_signB {K : qM → Prop} {v : Int} (hst : St sh pt) (b : 0 < h 78 22) (k : K h) : RunV X (d + 1) mX11_sign [(2, 78), (0, v)] sh pt h K :=
  b_X11_sign hst ⟨fun c => absurd c (by omega), fun _ => k⟩
theorem m_countB {K : Int → qM → Prop} {u v : Int} (hst : St sh pt) (b : 0 < h 78 22) (k : K 0 h) : RunI X (d + 1) mX11_count [(2, 78), (0, u), (0, v)] sh pt h K :=
  b_X11_count hst ⟨fun _ => b_X11_count_19 hst ⟨fun _ => ⟨fun c => absurd c (by omega), fun _ => k⟩, fun c => absurd c (by omega)⟩, fun c => absurd c (by omega)⟩
def sNu (B : Int → Int) (n t v : Int) (S : qM) : qM := qup (qup (qup (qup S 9 5 (tkR B n (tkA B n (S 9 5))).2.1) (t + wRw (S 9 9)) (S 9 10) v) 9 9 (wNx (S 9 9))) 9 11 0
theorem tak_nu (w : 5 ≤ S 9 9) (z : ¬ (tkR B n (tkA B n (S 9 5))).1 = 0) : (tak t (tkA B n (S 9 5)) (tkR B n (tkA B n (S 9 5))) (qup S 9 5 (tkR B n (tkA B n (S 9 5))).2.1)) = tNu t (tkA B n (S 9 5)) (tkR B n (tkA B n (S 9 5))) (qup S 9 5 (tkR B n (tkA B n (S 9 5))).2.1) := by
  have e : (qup S 9 5 (tkR B n (tkA B n (S 9 5))).2.1) 9 9 = S 9 9 := qup_of (by decide)
  rw [tak, if_neg z, e, if_neg (by omega), if_neg (by omega), if_neg (by omega), if_neg (by omega), if_neg (by omega)]
theorem m_count {K : Int → qM → Prop} {lo hi : Int} (hst : St sh pt) (ht : isT t) (tm : TM S0 B n t S h) (w : 5 ≤ S 9 9) (nm : ¬ ((S 9 9 = 8 ∨ S 9 9 = 9) ∧ S 9 11 = 0 ∧ isS (tkR B n (tkA B n (S 9 5))) 45)) (lh : ∀ v, 0 ≤ v → ((lo ≤ v ∧ v ≤ hi) ↔ (wLo (S 9 9) ≤ v ∧ v ≤ wHi (S 9 9)))) (kf : ∀ h1, Fr PFm h h1 → FM S0 B n t h1 → K 0 h1) (ks : ∀ v h1, lo ≤ v → v ≤ hi → 0 ≤ v → Fr PFm h h1 → TM S0 B n t (sNu B n t (if S 9 11 = 0 then v else -v) S) h1 → K v h1) : RunI X (d + 3) mX11_count [(2, 78), (0, lo), (0, hi)] sh pt h K := by
  have tn : t ≠ 9 ∧ 40 ≤ t := by rcases ht with e | e <;> omega
  have q9 : (qup S 9 5 (tkR B n (tkA B n (S 9 5))).2.1) 9 9 = S 9 9 := qup_of (by decide)
  have q11 : (qup S 9 5 (tkR B n (tkA B n (S 9 5))).2.1) 9 11 = S 9 11 := qup_of (by decide)
  have q10 : (qup S 9 5 (tkR B n (tkA B n (S 9 5))).2.1) 9 10 = S 9 10 := qup_of (by decide)
  obtain ⟨k1, k2, k3, k4, k5⟩ := tm.2.1
  have b0 := tm.2.2.1
  have pb := tm.2.2.2.2.2.2.2.1.2.2.2.2.2.2.2.2.1
  have ab := tkA_bd (B := B) pb.2
  have tb := tkR_bd (B := B) (n := n) (a := tkA B n (S 9 5)) ab.2
  have rk : h 78 24 = 2 ↔ (tkR B n (tkA B n (S 9 5))).1 = 3 := by
    rw [k1]
    unfold rK
    split <;> omega
  have ne : ¬ ((tkR B n (tkA B n (S 9 5))).1 = 1 ∧ S 9 9 = 0) := fun z => by omega
  have FP : ∀ h1 : qM, FM S0 B n t h1 → 0 < h1 78 22 := fun h1 ⟨_, _, x, y, _⟩ => by rw [y]; exact x
  refine b_X11_count hst ⟨fun c => absurd b0 c, fun _ => ⟨fun c => ?_, fun c => ?_⟩⟩
  · have c3 := rk.mp c
    have tv := tb.2.2.2.2 c3
    have nv := k5 (Or.inl c3)
    have en : (tak t (tkA B n (S 9 5)) (tkR B n (tkA B n (S 9 5))) (qup S 9 5 (tkR B n (tkA B n (S 9 5))).2.1)) = _ := tak_nu (B := B) (n := n) (t := t) w (by omega)
    rw [tNu, q9, q11, q10, if_neg nm, if_neg (fun z => z c3)] at en
    refine b_X11_count_19 hst ⟨fun c => absurd b0 c, fun _ => ?_⟩
    rw [nv]
    have bad : ¬ (lo ≤ (tkR B n (tkA B n (S 9 5))).2.2 ∧ (tkR B n (tkA B n (S 9 5))).2.2 ≤ hi) → RunV X (d + 2) mX11_fail [(2, 78), (0, 4), (0, (h 78 25))] sh pt h (fun h5 => (((h5 78 22) ≤ 0 → RunV X (d + 2) mX11_next [(2, 78)] sh pt h5 (fun h6 => K (h5 78 27) h6)) ∧ (0 < (h5 78 22) → K 0 h5))) := fun z =>
      m_fault hst ht tm ne (by decide) k3 (by
        rw [if_pos (fun y => z ((lh _ tv.1).mpr y))] at en
        exact en) (fun h1 f1 m1 => ⟨fun y => absurd (FP h1 m1) (by omega), fun _ => kf h1 f1 m1⟩)
    refine b_X11_isIn hst ⟨fun z => ⟨fun y => absurd rfl y, fun _ => bad (by omega)⟩, fun z1 => ⟨fun z => ⟨fun y => absurd rfl y, fun _ => bad (by omega)⟩, fun z2 => ⟨fun _ => ⟨fun _ => ?_, fun y => absurd y (by omega)⟩, fun y => absurd y (by decide)⟩⟩⟩
    rw [if_neg (fun y => y ((lh _ tv.1).mp ⟨z1, z2⟩))] at en
    rw [nv]
    have wr := wRw_bd (w := S 9 9)
    refine m_adv hst ht tm ne en ?_ Fr.rf ?_ ?_ (fun h1 f1 m1 => ks _ h1 z1 z2 tv.1 (Fr.wk f1 (fun a i z => by unfold PTm at z; unfold PFm; omega)) m1)
    · rw [qup_of (by omega), qup_of (by omega), qup_of (by omega), qup_of (by omega)]; exact tm.2.2.2.2.2.1
    · rw [qup_of (by omega), qup_of (by omega), qup_of (by omega), qup_of (by omega)]; exact tm.2.2.2.1
    · rw [qup_of (by omega), qup_of (by omega), qup_of (by omega), qup_of (by omega)]
  · have c3 : ¬ (tkR B n (tkA B n (S 9 5))).1 = 3 := fun z => c (rk.mpr z)
    refine m_wrong hst ht tm ne (fun z => ?_) (fun h1 f1 m1 => ?_)
    · have en : (tak t (tkA B n (S 9 5)) (tkR B n (tkA B n (S 9 5))) (qup S 9 5 (tkR B n (tkA B n (S 9 5))).2.1)) = _ := tak_nu (B := B) (n := n) (t := t) w z
      rw [tNu, q9, q11, q10, if_neg nm, if_pos c3] at en
      exact en
    · have := FP h1 m1
      exact b_X11_count_19 hst ⟨fun _ => ⟨fun y => absurd y (by omega), fun _ => kf h1 f1 m1⟩, fun y => absurd y (by omega)⟩
theorem m_wholeB {K : Int → qM → Prop} (hst : St sh pt) (b : 0 < h 78 22) (k : K 0 h) : RunI X (d + 2) mX11_readWhole [(2, 78)] sh pt h K :=
  b_X11_readWhole hst ⟨fun _ => ⟨fun _ => b_X11_readWhole_30 hst (m_countB hst b ⟨fun _ => k, fun c => absurd rfl c⟩), fun c => absurd rfl c⟩, fun c => absurd c (by omega)⟩
/-- the state behind a whole number -/
def sWh (B : Int → Int) (n t v : Int) (S : qM) : qM := sNu B n t v S
theorem m_whole {K : Int → qM → Prop} (hst : St sh pt) (ht : isT t) (tm : TM S0 B n t S h) (w : S 9 9 = 8 ∨ S 9 9 = 9) (mi : S 9 11 = 0) (kf : ∀ r h1, Fr PFm h h1 → FM S0 B n t h1 → K r h1) (ks : ∀ v h1 S1, -59 ≤ v → v ≤ 59 → Fr PFm h h1 → Fr (fun a i => a = 9 ∧ (i = 5 ∨ i = 11)) S S1 → S 9 5 ≤ S1 9 5 → TM S0 B n t (sNu B n t v S1) h1 → K v h1) : RunI X (d + 4) mX11_readWhole [(2, 78)] sh pt h K := by
  have tn : t ≠ 9 ∧ 40 ≤ t := by rcases ht with e | e <;> omega
  have lh : ∀ (U : qM) (v : Int), (U 9 9 = 8 ∨ U 9 9 = 9) → 0 ≤ v → (((0 : Int) ≤ v ∧ v ≤ 59) ↔ (wLo (U 9 9) ≤ v ∧ v ≤ wHi (U 9 9))) := fun U v u v0 => by
    rcases u with u | u <;> rw [u] <;> simp [wLo, wHi] <;> omega
  have ne : ¬ ((tkR B n (tkA B n (S 9 5))).1 = 1 ∧ S 9 9 = 0) := fun z => by omega
  refine b_X11_readWhole hst ⟨fun c => absurd tm.2.2.1 c, fun _ => m_isSign hst tm (fun y => ⟨fun c => absurd c (by decide), fun _ => ⟨fun c => absurd c (by decide), fun _ => ?_⟩⟩) (fun y => ⟨fun _ => ⟨fun _ => ?_, fun c => absurd rfl c⟩, fun c => absurd rfl c⟩)⟩
  · have q9 : (qup S 9 5 (tkR B n (tkA B n (S 9 5))).2.1) 9 9 = S 9 9 := qup_of (by decide)
    have q11 : (qup S 9 5 (tkR B n (tkA B n (S 9 5))).2.1) 9 11 = S 9 11 := qup_of (by decide)
    have en : (tak t (tkA B n (S 9 5)) (tkR B n (tkA B n (S 9 5))) (qup S 9 5 (tkR B n (tkA B n (S 9 5))).2.1)) = _ := tak_nu (B := B) (n := n) (t := t) (by omega) (by have := y.1; omega)
    rw [tNu, q9, q11, if_pos ⟨w, mi, y⟩] at en
    have pb := tm.2.2.2.2.2.2.2.1.2.2.2.2.2.2.2.2.1
    have ab := tkA_bd (B := B) pb.2
    have tb := tkR_bd (B := B) (n := n) (a := tkA B n (S 9 5)) ab.2
    refine m_adv hst ht tm ne en ?_ Fr.rf ?_ ?_ (fun h1 f1 m1 => b_X11_readWhole_30 hst ?_)
    · rw [qup_of (by decide), qup_of (by decide)]; exact tm.2.2.2.2.2.1
    · rw [qup_of (by omega), qup_of (by omega)]; exact tm.2.2.2.1
    · rw [qup_of (by omega), qup_of (by omega)]
    have e9 : qup (qup S 9 5 (tkR B n (tkA B n (S 9 5))).2.1) 9 11 1 9 9 = S 9 9 := by rw [qup_of (by decide)]; exact q9
    have e11 : qup (qup S 9 5 (tkR B n (tkA B n (S 9 5))).2.1) 9 11 1 9 11 = 1 := qup_at
    have f1' : Fr PFm h h1 := Fr.wk f1 (fun a i z => by unfold PTm at z; unfold PFm; omega)
    refine m_count hst ht m1 (by omega) (by omega) (fun v v0 => lh _ v (by omega) v0) (fun h2 f2 m2 => ⟨fun c => absurd c (by decide), fun _ => ⟨by decide, kf _ h2 (Fr.tr f1' f2) m2⟩⟩) (fun v h2 v0 v1 v2 f2 m2 => ⟨fun c => absurd c (by decide), fun _ => ⟨⟨by omega, by omega⟩, ?_⟩⟩)
    rw [e11, if_neg (by decide)] at m2
    refine ks (-v) h2 _ (by omega) (by omega) (Fr.tr f1' f2) (Fr.up (Fr.up Fr.rf (by omega)) (by omega)) ?_ m2
    rw [qup_of (by decide), qup_at]
    omega
  · refine b_X11_readWhole_30 hst (m_count hst ht tm (by omega) (fun z => y z.2.2) (fun v v0 => lh _ v w v0) (fun h2 f2 m2 => ⟨fun _ => kf _ h2 f2 m2, fun c => absurd rfl c⟩) (fun v h2 v0 v1 v2 f2 m2 => ⟨fun _ => ?_, fun c => absurd rfl c⟩))
    rw [mi, if_pos rfl] at m2
    exact ks v h2 S (by omega) (by omega) f2 Fr.rf (by omega) m2
end
