/-! the reference's reader: the ends of the orders -/
section
variable {X : qX} {d : Nat} {sh : qS} {pt h S S' S0 : qM} {B : Int → Int} {n t N0 : Int}
def PLt (N0 a i : Int) : Prop := PFm a i ∨ ((a = 101 ∨ a = 105) ∧ i = N0)
def PNt (N0 a i : Int) : Prop := PFm a i ∨ ((a = 101 ∨ a = 102 ∨ a = 103 ∨ a = 105) ∧ i = N0)
theorem tm_fr {h1 : qM} (tm : TM S0 B n t S h) (f : Fr (fun a _ => 100 ≤ a ∧ a ≤ 105) h h1) : TM S0 B n t S h1 := by
  obtain ⟨tp, tk, b0, e1, e2, e3, e4, iv, r⟩ := tm
  have g : ∀ i, h1 78 i = h 78 i := fun i => f 78 i (by omega)
  refine ⟨⟨by rw [g]; exact tp.1, tp.2.1, tp.2.2.1, fun i a b => by rw [f 88 i (by omega)]; exact tp.2.2.2 i a b⟩, ?_, by rw [g]; exact b0, by rw [g]; exact e1, by rw [g]; exact e2, e3, e4, iv, r⟩
  unfold tkM at tk ⊢
  rw [g, g, g, g, g, g]
  exact tk
theorem fm_fr {h1 : qM} (m : FM S0 B n t h) (f : Fr (fun a _ => 100 ≤ a ∧ a ≤ 105) h h1) : FM S0 B n t h1 := FM_fr m (f 78 22 (by omega)) (f 78 23 (by omega))
theorem fm_pos (m : FM S0 B n t h) : 0 < h 78 22 := by
  obtain ⟨_, _, x, y, _⟩ := m
  rw [y]; exact x
theorem m_lastB {K : qM → Prop} {hi : Int} (hst : St sh pt) (m : FM S0 B n t h) (nb : 0 ≤ N0 ∧ N0 < 60) (kf : ∀ h1, Fr (PNt N0) h h1 → FM S0 B n t h1 → K h1) : RunI X (d + 1) mX11_count [(2, 78), (0, 1), (0, hi)] sh pt h (fun r12 h11 => (0 ≤ N0 ∧ N0 < 60) ∧ ∀ h14 : qM, h14 = qup h11 101 N0 r12 → (0 ≤ N0 ∧ N0 < 60) ∧ ∀ h16 : qM, h16 = qup h14 105 N0 (h14 78 32) → K h16) :=
  m_countB hst (fm_pos m) ⟨nb, fun h14 e14 => ⟨nb, fun h16 e16 => kf h16 (by rw [e16, e14]; exact Fr.up (Fr.up Fr.rf (by unfold PNt; omega)) (by unfold PNt; omega)) (fm_fr m (by rw [e16, e14]; exact Fr.up (Fr.up Fr.rf (by omega)) (by omega)))⟩⟩
theorem m_last {K : qM → Prop} {hi : Int} (hst : St sh pt) (ht : isT t) (tm : TM S0 B n t S h) (w : (S 9 9 = 5 ∧ hi = 99) ∨ (S 9 9 = 6 ∧ hi = 7)) (mi : S 9 11 = 0) (nb : 0 ≤ N0 ∧ N0 < 60) (kf : ∀ h1, Fr (PNt N0) h h1 → FM S0 B n t h1 → K h1) (ks : ∀ v h1, 1 ≤ v → v ≤ hi → Fr (PLt N0) h h1 → h1 101 N0 = v → h1 105 N0 = S t 8 → TM S0 B n t (sNu B n t v S) h1 → K h1) : RunI X (d + 3) mX11_count [(2, 78), (0, 1), (0, hi)] sh pt h (fun r12 h11 => (0 ≤ N0 ∧ N0 < 60) ∧ ∀ h14 : qM, h14 = qup h11 101 N0 r12 → (0 ≤ N0 ∧ N0 < 60) ∧ ∀ h16 : qM, h16 = qup h14 105 N0 (h14 78 32) → K h16) := by
  refine m_count hst ht tm (by omega) (fun z => by omega) (fun v v0 => ?_) (fun h1 f1 m1 => ?_) (fun v h1 v0 v1 _ f1 m1 => ⟨nb, fun h14 e14 => ⟨nb, fun h16 e16 => ?_⟩⟩)
  · rcases w with ⟨w, e⟩ | ⟨w, e⟩ <;> rw [w, e] <;> simp [wLo, wHi]
  · exact ⟨nb, fun h14 e14 => ⟨nb, fun h16 e16 => kf h16 (by rw [e16, e14]; exact Fr.up (Fr.up (Fr.wk f1 (fun a i z => Or.inl z)) (by unfold PNt; omega)) (by unfold PNt; omega)) (fm_fr m1 (by rw [e16, e14]; exact Fr.up (Fr.up Fr.rf (by omega)) (by omega)))⟩⟩
  · rw [mi, if_pos rfl] at m1
    refine ks v h16 v0 v1 ?_ ?_ ?_ (tm_fr m1 (by rw [e16, e14]; exact Fr.up (Fr.up Fr.rf (by omega)) (by omega)))
    · rw [e16, e14]
      exact Fr.up (Fr.up (Fr.wk f1 (fun a i z => Or.inl z)) (by unfold PLt; omega)) (by unfold PLt; omega)
    · rw [e16, qup_of (by omega), e14, qup_at]
    · rw [e16, qup_at, e14, qup_of (by omega), f1 78 32 (by unfold PFm; omega)]
      exact tm.2.2.2.1
theorem sNu_at {v : Int} (ht : isT t) : sNu B n t v S 9 9 = wNx (S 9 9) ∧ sNu B n t v S 9 11 = 0 ∧ sNu B n t v S t 8 = S t 8 ∧ sNu B n t v S 9 10 = S 9 10 := by
  have tn : t ≠ 9 ∧ 40 ≤ t := by rcases ht with e | e <;> omega
  have wr := wRw_bd (w := S 9 9)
  unfold sNu
  exact ⟨by rw [qup_of (by omega), qup_at], qup_at, by rw [qup_of (by omega), qup_of (by omega), qup_of (by omega), qup_of (by omega)], by rw [qup_of (by omega), qup_of (by omega), qup_of (by omega), qup_of (by omega)]⟩
theorem m_341 {K : qM → Prop} (hst : St sh pt) (ht : isT t) (tm : TM S0 B n t S h) (w : S 9 9 = 7) (mi : S 9 11 = 0) (nb : 0 ≤ N0 ∧ N0 < 60) (kf : ∀ h1, Fr (PNt N0) h h1 → FM S0 B n t h1 → K h1) (ks : ∀ v v2 h1, 2 ≤ v → v ≤ 5 → 1 ≤ v2 → v2 ≤ 99 → Fr (PNt N0) h h1 → h1 102 N0 = v → h1 101 N0 = v2 → h1 105 N0 = S t 8 → TM S0 B n t (sNu B n t v2 (sNu B n t v S)) h1 → K h1) : EvV X (d + 4) mX11_readOrder 341 [(2, 78), (8, -1), (8, -1), (0, N0), (8, -1)] [] sh pt h K := by
  refine b_X11_readOrder_341 hst (m_count hst ht tm (by omega) (fun z => by omega) (fun v v0 => by rw [w]; simp [wLo, wHi]) (fun h1 f1 m1 => ⟨nb, fun h4 e4 => ?_⟩) (fun v h1 v0 v1 _ f1 m1 => ⟨nb, fun h4 e4 => ?_⟩))
  · have fx : Fr (fun a _ => 100 ≤ a ∧ a ≤ 105) h1 h4 := by rw [e4]; exact Fr.up Fr.rf (by omega)
    have fy : Fr (PNt N0) h h4 := by rw [e4]; exact Fr.up (Fr.wk f1 (fun a i z => Or.inl z)) (by unfold PNt; omega)
    exact m_lastB hst (fm_fr m1 fx) nb (fun h5 f5 m5 => kf h5 (Fr.tr fy f5) m5)
  · have fx : Fr (fun a _ => 100 ≤ a ∧ a ≤ 105) h1 h4 := by rw [e4]; exact Fr.up Fr.rf (by omega)
    have fy : Fr (PNt N0) h h4 := by rw [e4]; exact Fr.up (Fr.wk f1 (fun a i z => Or.inl z)) (by unfold PNt; omega)
    rw [mi, if_pos rfl] at m1
    have sn := sNu_at (S := S) (B := B) (n := n) (v := v) ht
    refine m_last hst ht (tm_fr m1 fx) (Or.inl ⟨by rw [sn.1, w]; rfl, rfl⟩) sn.2.1 nb (fun h5 f5 m5 => kf h5 (Fr.tr fy f5) m5) (fun v2 h5 c0 c1 f5 g1 g2 m5 => ks v v2 h5 v0 v1 c0 c1 (Fr.tr fy (Fr.wk f5 (fun a i z => by unfold PLt PFm at z; unfold PNt PFm; omega))) ?_ g1 (by rw [g2, sn.2.2.1]) m5)
    rw [f5 102 N0 (by unfold PLt PFm; omega), e4, qup_at]
theorem m_shift {K : qM → Prop} (hst : St sh pt) (ht : isT t) (tm : TM S0 B n t S h) (w : S 9 9 = 8) (mi : S 9 11 = 0) (nb : 0 ≤ N0 ∧ N0 < 60) (kf : ∀ h1, Fr (PNt N0) h h1 → FM S0 B n t h1 → K h1) (ks : ∀ v v2 v3 h1 S1 S2, -59 ≤ v → v ≤ 59 → -59 ≤ v2 → v2 ≤ 59 → 1 ≤ v3 → v3 ≤ 99 → Fr (PNt N0) h h1 → h1 102 N0 = v → h1 103 N0 = v2 → h1 101 N0 = v3 → h1 105 N0 = S t 8 → Fr (fun a i => a = 9 ∧ (i = 5 ∨ i = 11)) S S1 → S 9 5 ≤ S1 9 5 → Fr (fun a i => a = 9 ∧ (i = 5 ∨ i = 11)) (sNu B n t v S1) S2 → sNu B n t v S1 9 5 ≤ S2 9 5 → TM S0 B n t (sNu B n t v3 (sNu B n t v2 S2)) h1 → K h1) : RunI X (d + 4) mX11_readWhole [(2, 78)] sh pt h (fun r24 h23 => (0 ≤ N0 ∧ N0 < 60) ∧ ∀ h26 : qM, h26 = qup h23 102 N0 r24 → RunI X (d + 4) mX11_readWhole [(2, 78)] sh pt h26 (fun r28 h27 => (0 ≤ N0 ∧ N0 < 60) ∧ ∀ h30 : qM, h30 = qup h27 103 N0 r28 → RunI X (d + 4) mX11_count [(2, 78), (0, 1), (0, 99)] sh pt h30 (fun r32 h31 => (0 ≤ N0 ∧ N0 < 60) ∧ ∀ h34 : qM, h34 = qup h31 101 N0 r32 → (0 ≤ N0 ∧ N0 < 60) ∧ ∀ h36 : qM, h36 = qup h34 105 N0 (h34 78 32) → K h36))) := by
  have tn : t ≠ 9 ∧ 40 ≤ t := by rcases ht with e | e <;> omega
  have fx : ∀ {g g' : qM} {x v : Int}, (x = 102 ∨ x = 103) → g' = qup g x N0 v → Fr (fun a _ => 100 ≤ a ∧ a ≤ 105) g g' ∧ Fr (PNt N0) g g' := fun q e => by
    rw [e]
    exact ⟨Fr.up Fr.rf (by omega), Fr.up Fr.rf (by unfold PNt; omega)⟩
  have lb : ∀ {g : qM}, Fr (PNt N0) h g → FM S0 B n t g → RunI X (d + 4) mX11_count [(2, 78), (0, 1), (0, 99)] sh pt g (fun r32 h31 => (0 ≤ N0 ∧ N0 < 60) ∧ ∀ h34 : qM, h34 = qup h31 101 N0 r32 → (0 ≤ N0 ∧ N0 < 60) ∧ ∀ h36 : qM, h36 = qup h34 105 N0 (h34 78 32) → K h36) := fun f m => m_lastB hst m nb (fun h5 f5 m5 => kf h5 (Fr.tr f f5) m5)
  refine m_whole hst ht tm (Or.inl w) mi (fun r h1 f1 m1 => ⟨nb, fun h26 e26 => ?_⟩) (fun v h1 S1 v0 v1 f1 g1 p1 m1 => ⟨nb, fun h26 e26 => ?_⟩)
  · have q := fx (Or.inl rfl) e26
    have m2 := fm_fr m1 q.1
    have f2 := Fr.tr (Fr.wk f1 (fun a i z => (Or.inl z : PNt N0 a i))) q.2
    exact m_wholeB hst (fm_pos m2) ⟨nb, fun h30 e30 => by
      have q3 := fx (Or.inr rfl) e30
      exact lb (Fr.tr f2 q3.2) (fm_fr m2 q3.1)⟩
  · have q := fx (Or.inl rfl) e26
    have m2 := tm_fr m1 q.1
    have f2 := Fr.tr (Fr.wk f1 (fun a i z => (Or.inl z : PNt N0 a i))) q.2
    have w1 : S1 9 9 = 8 := by rw [g1 9 9 (by omega)]; exact w
    have sn := sNu_at (S := S1) (B := B) (n := n) (v := v) ht
    refine m_whole hst ht m2 (Or.inr (by rw [sn.1, w1]; rfl)) sn.2.1 (fun r h3 f3 m3 => ⟨nb, fun h30 e30 => ?_⟩) (fun v2 h3 S2 c0 c1 f3 g3 p3 m3 => ⟨nb, fun h30 e30 => ?_⟩)
    · have q3 := fx (Or.inr rfl) e30
      exact lb (Fr.tr f2 (Fr.tr (Fr.wk f3 (fun a i z => (Or.inl z : PNt N0 a i))) q3.2)) (fm_fr m3 q3.1)
    · have q3 := fx (Or.inr rfl) e30
      have f4 := Fr.tr f2 (Fr.tr (Fr.wk f3 (fun a i z => (Or.inl z : PNt N0 a i))) q3.2)
      have w2 : S2 9 9 = 9 := by rw [g3 9 9 (by omega), sn.1, w1]; rfl
      have sn2 := sNu_at (S := S2) (B := B) (n := n) (v := v2) ht
      refine m_last hst ht (tm_fr m3 q3.1) (Or.inl ⟨by rw [sn2.1, w2]; rfl, rfl⟩) sn2.2.1 nb (fun h5 f5 m5 => kf h5 (Fr.tr f4 f5) m5) (fun v3 h5 d0 d1 f5 k1 k2 m5 => ks v v2 v3 h5 S1 S2 v0 v1 c0 c1 d0 d1 (Fr.tr f4 (Fr.wk f5 (fun a i z => by unfold PLt PFm at z; unfold PNt PFm; omega))) ?_ ?_ k1 ?_ g1 p1 g3 p3 m5)
      · rw [f5 102 N0 (by unfold PLt PFm; omega), e30, qup_of (by omega), f3 102 N0 (by unfold PFm; omega), e26, qup_at]
      · rw [f5 103 N0 (by unfold PLt PFm; omega), e30, qup_at]
      · rw [k2, sn2.2.2.1, g3 t 8 (by omega), sn.2.2.1, g1 t 8 (by omega)]
end
