/-! the reference's reader: an order that is no again -/
theorem pos_le {B : Int → Int} {n p : Int} : p ≤ (tkR B n (tkA B n p)).2.1 := by
  have s := (spn_ok (q := qBl B) (n - p).toNat p).1
  have a : p ≤ tkA B n p := s
  generalize tkA B n p = x at *
  unfold tkR
  split
  · exact a
  split
  · have := (spn_ok (q := qLt B) (n - x).toNat x).1
    show p ≤ wEn B n x
    unfold wEn
    omega
  split
  · have := (spn_ok (q := qDg B) (n - x).toNat x).1
    show p ≤ dEn B n x
    unfold dEn
    omega
  · show p ≤ x + 1
    omega
section
variable {X : qX} {d : Nat} {sh : qS} {pt h S S' S0 : qM} {B : Int → Int} {n t N0 : Int}
theorem sNu_pos {v : Int} (ht : isT t) : S 9 5 ≤ sNu B n t v S 9 5 := by
  have tn : t ≠ 9 ∧ 40 ≤ t := by rcases ht with e | e <;> omega
  have wr := wRw_bd (w := S 9 9)
  rw [sNu, qup_of (by decide), qup_of (by decide), qup_of (by omega), qup_at]
  exact pos_le
theorem sNu_fr {v : Int} : Fr (fun a i => (a = 9 ∧ (i = 5 ∨ i = 9 ∨ i = 11)) ∨ (a = t + wRw (S 9 9) ∧ i = S 9 10)) S (sNu B n t v S) := Fr.up (Fr.up (Fr.up (Fr.up Fr.rf (by omega)) (by omega)) (by omega)) (by omega)
theorem sNu_v {v : Int} (ht : isT t) : sNu B n t v S (t + wRw (S 9 9)) (S 9 10) = v := by
  have tn : t ≠ 9 ∧ 40 ≤ t := by rcases ht with e | e <;> omega
  have wr := wRw_bd (w := S 9 9)
  rw [sNu, qup_of (by omega), qup_of (by omega), qup_at]
theorem tAd_at {a k : Int} (ht : isT t) : (tAd t a k S 9 9 = wbw k ∧ tAd t a k S 9 10 = S t 8 ∧ tAd t a k S t 8 = S t 8 + 1 ∧ tAd t a k S t 9 = S t 9 ∧ tAd t a k S 9 2 = S 9 2 ∧ tAd t a k S 9 11 = S 9 11 ∧ tAd t a k S 9 13 = S 9 13 ∧ tAd t a k S 9 5 = S 9 5) ∧ (tAd t a k S (t + 1) (S t 8) = k ∧ tAd t a k S (t + 2) (S t 8) = a ∧ tAd t a k S (t + 3) (S t 8) = 0 ∧ tAd t a k S (t + 4) (S t 8) = 0 ∧ tAd t a k S (t + 5) (S t 8) = 0 ∧ tAd t a k S (t + 6) (S t 8) = S t 8 + 1) ∧ Fr (PSt t (S t 8)) S (tAd t a k S) := by
  refine ⟨?_, ?_, ?_⟩
  · rcases ht with rfl | rfl <;> simp [tAd, qup]
  · rcases ht with rfl | rfl <;> simp [tAd, qup]
  · exact Fr.up (Fr.up (Fr.up (Fr.up (Fr.up (Fr.up (Fr.up (Fr.up (Fr.up Fr.rf (by unfold PSt; omega)) (by unfold PSt; omega)) (by unfold PSt; omega)) (by unfold PSt; omega)) (by unfold PSt; omega)) (by unfold PSt; omega)) (by unfold PSt; omega)) (by unfold PSt; omega)) (by unfold PSt; omega)
theorem tak_ord (w : S 9 9 = 2) (z : ¬ (tkR B n (tkA B n (S 9 5))).1 = 0) (c : ¬ isS (tkR B n (tkA B n (S 9 5))) (if S 9 13 = 0 then 59 else 125)) : (tak t (tkA B n (S 9 5)) (tkR B n (tkA B n (S 9 5))) (qup S 9 5 (tkR B n (tkA B n (S 9 5))).2.1)) = tOw t (tkA B n (S 9 5)) (if (tkR B n (tkA B n (S 9 5))).1 = 2 then kOf (tkR B n (tkA B n (S 9 5))).2.2 else -1) (qup S 9 5 (tkR B n (tkA B n (S 9 5))).2.1) := by
  have q9 : (qup S 9 5 (tkR B n (tkA B n (S 9 5))).2.1) 9 9 = S 9 9 := qup_of (by decide)
  have q13 : (qup S 9 5 (tkR B n (tkA B n (S 9 5))).2.1) 9 13 = S 9 13 := qup_of (by decide)
  rw [tak, if_neg z, q9, if_neg (by omega), if_neg (by omega), if_pos w, tOr, q13]
  by_cases e : S 9 13 = 0
  · rw [if_pos e] at c
    rw [if_neg (fun y => c y.2), if_neg (fun y => by omega)]
  · rw [if_neg e] at c
    rw [if_neg (fun y => e y.1), if_neg (fun y => c y.2)]
/-- the ends of an order that is no again -/
theorem m_plain {K : qM → Prop} {h10 S1 : qM} {k a : Int} (hst : St sh pt) (ht : isT t) (q : RMo S0 B n t S h) (e0 : N0 = S t 8) (nb : 0 ≤ N0 ∧ N0 < 60) (kb : 0 ≤ k ∧ k ≤ 9)
    (s9 : S1 9 9 = wbw k) (s10 : S1 9 10 = N0) (s8 : S1 t 8 = N0 + 1) (s11 : S1 9 11 = 0) (r1 : S1 (t + 1) N0 = k) (r2 : S1 (t + 2) N0 = a) (r6 : S1 (t + 6) N0 = N0 + 1) (fS : Fr (PSt t N0) S S1) (p1 : S 9 5 < S1 9 5) (fh : Fr (PHt N0) h h10) (g0 : h10 100 N0 = k) (g4 : h10 104 N0 = a) (tm : TM S0 B n t S1 h10)
    (kf : ∀ h1, Fr PRq h h1 → FM S0 B n t h1 → K h1) (ks : ∀ S' h1, RMo S0 B n t S' h1 → Fr (PSt t N0) S S' → S' 9 9 = 2 → S 9 5 < S' 9 5 → S' t 8 = N0 + 1 → Fr PRq h h1 → K h1) :
    ((¬ k = 6 → ((¬ k = 9 → ((k = 7 → EvV X (d + 5) mX11_readOrder 341 [(2, 78), (8, -1), (8, -1), (0, N0), (8, -1)] [] sh pt h10 K) ∧ (¬ k = 7 → ((¬ k = 8 → ((¬ k = 5 → RunI X (d + 4) mX11_count [(2, 78), (0, 1), (0, 99)] sh pt h10 (fun r12 h11 => (0 ≤ N0 ∧ N0 < 60) ∧ ∀ h14 : qM, h14 = qup h11 101 N0 r12 → (0 ≤ N0 ∧ N0 < 60) ∧ ∀ h16 : qM, h16 = qup h14 105 N0 (h14 78 32) → K h16)) ∧ (k = 5 → RunI X (d + 4) mX11_count [(2, 78), (0, 1), (0, 7)] sh pt h10 (fun r18 h17 => (0 ≤ N0 ∧ N0 < 60) ∧ ∀ h20 : qM, h20 = qup h17 101 N0 r18 → (0 ≤ N0 ∧ N0 < 60) ∧ ∀ h22 : qM, h22 = qup h20 105 N0 (h20 78 32) → K h22)))) ∧ (k = 8 → EvV X (d + 5) mX11_readOrder 341 [(2, 78), (8, -1), (8, -1), (0, N0), (8, -1)] [] sh pt h10 K))))) ∧ (k = 9 → RunI X (d + 4) mX11_readWhole [(2, 78)] sh pt h10 (fun r24 h23 => (0 ≤ N0 ∧ N0 < 60) ∧ ∀ h26 : qM, h26 = qup h23 102 N0 r24 → RunI X (d + 4) mX11_readWhole [(2, 78)] sh pt h26 (fun r28 h27 => (0 ≤ N0 ∧ N0 < 60) ∧ ∀ h30 : qM, h30 = qup h27 103 N0 r28 → RunI X (d + 4) mX11_count [(2, 78), (0, 1), (0, 99)] sh pt h30 (fun r32 h31 => (0 ≤ N0 ∧ N0 < 60) ∧ ∀ h34 : qM, h34 = qup h31 101 N0 r32 → (0 ≤ N0 ∧ N0 < 60) ∧ ∀ h36 : qM, h36 = qup h34 105 N0 (h34 78 32) → K h36)))))) ∧ (k = 6 → RunL X (d + 4) mX11_spelled [(0, 108), (0, 101), (0, 102), (0, 116), (0, 0), (0, 0)] sh pt h10 (fun r38 h37 => RunI X (d + 4) mX11_isWord [(2, 78), (1, r38)] sh pt h37 (fun r40 h39 => ((¬ r40 = 0 → EvV X (d + 5) mX11_readOrder 244 [(2, 78), (8, -1), (8, -1), (0, N0), (0, r40)] [] sh pt h39 K) ∧ (r40 = 0 → RunL X (d + 4) mX11_spelled [(0, 114), (0, 105), (0, 103), (0, 104), (0, 116), (0, 0)] sh pt h39 (fun r42 h41 => RunI X (d + 4) mX11_isWord [(2, 78), (1, r42)] sh pt h41 (fun r44 h43 => ((¬ r44 = 0 → EvV X (d + 5) mX11_readOrder 244 [(2, 78), (8, -1), (8, -1), (0, N0), (0, r40)] [] sh pt h43 K) ∧ (r44 = 0 → RunV X (d + 4) mX11_wrong [(2, 78)] sh pt h43 (fun h45 => EvV X (d + 5) mX11_readOrder 244 [(2, 78), (8, -1), (8, -1), (0, N0), (0, r40)] [] sh pt h45 K))))))))))) := by
  have tn : t ≠ 9 ∧ t ≠ 11 ∧ 40 ≤ t ∧ t ≤ 60 := by rcases ht with e | e <;> omega
  have fq : ∀ {h1 : qM}, Fr (PNt N0) h10 h1 → Fr (PHt N0) h h1 := fun f => Fr.tr fh (Fr.wk f (fun a i z => by unfold PNt PFm at z; unfold PHt; omega))
  have fr : ∀ {h1 : qM}, Fr (PHt N0) h h1 → Fr PRq h h1 := fun f => Fr.wk f (fun a i z => by unfold PHt at z; unfold PRq; omega)
  have kf2 : ∀ h1, Fr (PNt N0) h10 h1 → FM S0 B n t h1 → K h1 := fun h1 f m => kf h1 (fr (fq f)) m
  have fin : ∀ S' h1, Fr (PNt N0) h10 h1 → Fr (fun a i => (a = 9 ∧ (i = 5 ∨ i = 9 ∨ i = 11)) ∨ ((t + 3 ≤ a ∧ a ≤ t + 5) ∧ i = N0)) S1 S' → S' 9 9 = 2 → S1 9 5 ≤ S' 9 5 → TM S0 B n t S' h1 → h1 105 N0 = S1 t 8 → h1 101 N0 = (if k = 5 ∨ k = 10 then S' (t + 3) N0 else S' (t + 5) N0) → (k = 6 → h1 102 N0 = if S' (t + 3) N0 = 0 then -1 else 1) → (k = 7 ∨ k = 8 ∨ k = 9 → h1 102 N0 = S' (t + 3) N0) → (k = 9 → h1 103 N0 = S' (t + 4) N0) → K h1 := by
    intro S' h1 f1 f2 w p m x5 x1 x2 x3 x4
    have y1 : S' (t + 1) N0 = k := by rw [f2 (t + 1) N0 (by omega)]; exact r1
    have y2 : S' (t + 2) N0 = a := by rw [f2 (t + 2) N0 (by omega)]; exact r2
    have y6 : S' (t + 6) N0 = N0 + 1 := by rw [f2 (t + 6) N0 (by omega)]; exact r6
    have y8 : S' t 8 = N0 + 1 := by rw [f2 t 8 (by omega)]; exact s8
    have fS2 : Fr (PSt t N0) S S' := Fr.tr fS (Fr.wk f2 (fun a i z => by unfold PSt; omega))
    refine ks S' h1 (rmo_fin ht q e0 fS2 (fq f1) m y8 ⟨?_, ?_, ?_, ?_, ?_, ?_⟩ (by rw [x5, y6]; exact s8)) fS2 w (by omega) y8 (fr (fq f1))
    · rw [f1 100 N0 (by unfold PNt PFm; omega), y1]; exact g0
    · rw [f1 104 N0 (by unfold PNt PFm; omega), y2]; exact g4
    · rw [y1]; exact x1
    · rw [y1]; exact x2
    · rw [y1]; exact x3
    · rw [y1]; exact x4
  have lw : ∀ {h1 : qM}, Fr (PLt N0) h10 h1 → Fr (PNt N0) h10 h1 := fun f => Fr.wk f (fun a i z => by unfold PLt PFm at z; unfold PNt PFm; omega)
  have op : (k = 7 ∨ k = 8) → EvV X (d + 5) mX11_readOrder 341 [(2, 78), (8, -1), (8, -1), (0, N0), (8, -1)] [] sh pt h10 K := by
    intro kk
    have w7 : S1 9 9 = 7 := by rw [s9]; rcases kk with e | e <;> rw [e] <;> rfl
    refine m_341 hst ht tm w7 s11 nb kf2 (fun v v2 h1 v0 v1 c0 c1 f1 z2 z1 z5 m => ?_)
    have u1 := sNu_at (S := S1) (B := B) (n := n) (v := v) ht
    have u2 := sNu_at (S := sNu B n t v S1) (B := B) (n := n) (v := v2) ht
    have w5 : sNu B n t v S1 9 9 = 5 := by rw [u1.1, w7]; rfl
    have a1 := sNu_fr (S := S1) (B := B) (n := n) (t := t) (v := v)
    have a2 := sNu_fr (S := sNu B n t v S1) (B := B) (n := n) (t := t) (v := v2)
    have v1' := sNu_v (S := S1) (B := B) (n := n) (v := v) ht
    have v2' := sNu_v (S := sNu B n t v S1) (B := B) (n := n) (v := v2) ht
    rw [w7, s10, show wRw 7 = 3 from rfl] at v1' a1
    rw [w5, u1.2.2.2, s10, show wRw 5 = 5 from rfl] at v2' a2
    refine fin _ h1 f1 (Fr.tr (Fr.wk a1 (fun a i z => by omega)) (Fr.wk a2 (fun a i z => by omega))) (by rw [u2.1, w5]; rfl) (Int.le_trans (sNu_pos ht) (sNu_pos ht)) m z5 ?_ (fun c => by omega) (fun _ => ?_) (fun c => by omega)
    · rw [if_neg (by omega), v2']; exact z1
    · rw [a2 (t + 3) N0 (by omega), v1']; exact z2
  refine ⟨fun n6 => ⟨fun n9 => ⟨fun k7 => op (Or.inl k7), fun n7 => ⟨fun n8 => ⟨fun n5 => ?_, fun k5 => ?_⟩, fun k8 => op (Or.inr k8)⟩⟩, fun k9 => ?_⟩, fun k6 => ?_⟩
  · have w5 : S1 9 9 = 5 := by rw [s9, wbw, if_neg (by omega), if_neg (by omega), if_neg (by omega), if_neg (by omega), if_neg (by omega), if_neg (by omega)]
    refine m_last hst ht tm (Or.inl ⟨w5, rfl⟩) s11 nb kf2 (fun v h1 v0 v1 f1 z1 z5 m => ?_)
    have u1 := sNu_at (S := S1) (B := B) (n := n) (v := v) ht
    have a1 := sNu_fr (S := S1) (B := B) (n := n) (t := t) (v := v)
    have v1' := sNu_v (S := S1) (B := B) (n := n) (v := v) ht
    rw [w5, s10, show wRw 5 = 5 from rfl] at v1' a1
    refine fin _ h1 (lw f1) (Fr.wk a1 (fun a i z => by omega)) (by rw [u1.1, w5]; rfl) (sNu_pos ht) m z5 ?_ (fun c => by omega) (fun c => by omega) (fun c => by omega)
    rw [if_neg (by omega), v1']; exact z1
  · have w6 : S1 9 9 = 6 := by rw [s9, k5]; rfl
    refine m_last hst ht tm (Or.inr ⟨w6, rfl⟩) s11 nb kf2 (fun v h1 v0 v1 f1 z1 z5 m => ?_)
    have u1 := sNu_at (S := S1) (B := B) (n := n) (v := v) ht
    have a1 := sNu_fr (S := S1) (B := B) (n := n) (t := t) (v := v)
    have v1' := sNu_v (S := S1) (B := B) (n := n) (v := v) ht
    rw [w6, s10, show wRw 6 = 3 from rfl] at v1' a1
    refine fin _ h1 (lw f1) (Fr.wk a1 (fun a i z => by omega)) (by rw [u1.1, w6]; rfl) (sNu_pos ht) m z5 ?_ (fun c => by omega) (fun c => by omega) (fun c => by omega)
    rw [if_pos (by omega), v1']; exact z1
  · have w8 : S1 9 9 = 8 := by rw [s9, k9]; rfl
    refine m_shift hst ht tm w8 s11 nb kf2 (fun v v2 v3 h1 A1 A2 v0 v1 c0 c1 d0 d1 f1 z2 z3 z1 z5 b1 b2 b3 b4 m => ?_)
    have o1 : A1 9 9 = 8 := by rw [b1 9 9 (by omega)]; exact w8
    have o2 : A1 9 10 = N0 := by rw [b1 9 10 (by omega)]; exact s10
    have u1 := sNu_at (S := A1) (B := B) (n := n) (v := v) ht
    have o3 : A2 9 9 = 9 := by rw [b3 9 9 (by omega), u1.1, o1]; rfl
    have o4 : A2 9 10 = N0 := by rw [b3 9 10 (by omega), u1.2.2.2]; exact o2
    have u2 := sNu_at (S := A2) (B := B) (n := n) (v := v2) ht
    have o5 : sNu B n t v2 A2 9 9 = 5 := by rw [u2.1, o3]; rfl
    have u3 := sNu_at (S := sNu B n t v2 A2) (B := B) (n := n) (v := v3) ht
    have a1 := sNu_fr (S := A1) (B := B) (n := n) (t := t) (v := v)
    have a2 := sNu_fr (S := A2) (B := B) (n := n) (t := t) (v := v2)
    have a3 := sNu_fr (S := sNu B n t v2 A2) (B := B) (n := n) (t := t) (v := v3)
    have e1 := sNu_v (S := A1) (B := B) (n := n) (v := v) ht
    have e2 := sNu_v (S := A2) (B := B) (n := n) (v := v2) ht
    have e3 := sNu_v (S := sNu B n t v2 A2) (B := B) (n := n) (v := v3) ht
    rw [o1, o2, show wRw 8 = 3 from rfl] at e1 a1
    rw [o3, o4, show wRw 9 = 4 from rfl] at e2 a2
    rw [o5, u2.2.2.2, o4, show wRw 5 = 5 from rfl] at e3 a3
    have p2 := sNu_pos (S := A2) (B := B) (n := n) (v := v2) ht
    have p3 := sNu_pos (S := sNu B n t v2 A2) (B := B) (n := n) (v := v3) ht
    have p0 := sNu_pos (S := A1) (B := B) (n := n) (v := v) ht
    refine fin _ h1 f1 (Fr.tr (Fr.wk b1 (fun a i z => by omega)) (Fr.tr (Fr.wk a1 (fun a i z => by omega)) (Fr.tr (Fr.wk b3 (fun a i z => by omega)) (Fr.tr (Fr.wk a2 (fun a i z => by omega)) (Fr.wk a3 (fun a i z => by omega)))))) (by rw [u3.1, o5]; rfl) (by omega) m z5 ?_ (fun c => by omega) (fun _ => ?_) (fun _ => ?_)
    · rw [if_neg (by omega), e3]; exact z1
    · rw [a3 (t + 3) N0 (by omega), a2 (t + 3) N0 (by omega), b3 (t + 3) N0 (by omega), e1]; exact z2
    · rw [a3 (t + 4) N0 (by omega), e2]; exact z3
  · have w4 : S1 9 9 = 4 := by rw [s9, k6]; rfl
    refine m_wheel hst ht tm w4 nb kf2 (fun s v h1 hs v0 v1 f1 z2 z1 z5 m => ?_)
    have o1 : sSi B n t s S1 9 9 = 5 := by rw [sSi, qup_at]
    have o2 : sSi B n t s S1 9 10 = N0 := by rw [sSi, qup_of (by omega), qup_of (by omega), qup_of (by omega)]; exact s10
    have o3 : sSi B n t s S1 (t + 3) N0 = s := by rw [sSi, qup_of (by omega), s10, qup_at]
    have b1 : Fr (fun a i => (a = 9 ∧ (i = 5 ∨ i = 9 ∨ i = 11)) ∨ ((t + 3 ≤ a ∧ a ≤ t + 5) ∧ i = N0)) S1 (sSi B n t s S1) := Fr.up (Fr.up (Fr.up Fr.rf (by omega)) (by omega)) (by omega)
    have p0 : S1 9 5 ≤ sSi B n t s S1 9 5 := by
      rw [sSi, qup_of (by decide), qup_of (by omega), qup_at]
      exact pos_le
    have u1 := sNu_at (S := sSi B n t s S1) (B := B) (n := n) (v := v) ht
    have a1 := sNu_fr (S := sSi B n t s S1) (B := B) (n := n) (t := t) (v := v)
    have e1 := sNu_v (S := sSi B n t s S1) (B := B) (n := n) (v := v) ht
    rw [o1, o2, show wRw 5 = 5 from rfl] at e1 a1
    have y3 : sNu B n t v (sSi B n t s S1) (t + 3) N0 = s := by rw [a1 (t + 3) N0 (by omega)]; exact o3
    refine fin _ h1 f1 (Fr.tr b1 (Fr.wk a1 (fun a i z => by omega))) (by rw [u1.1, o1]; rfl) (Int.le_trans p0 (sNu_pos ht)) m z5 ?_ (fun _ => ?_) (fun c => by omega) (fun c => by omega)
    · rw [if_neg (by omega), e1]; exact z1
    · rw [y3]; exact z2
end
