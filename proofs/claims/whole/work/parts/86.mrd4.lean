/-! the reference's reader: wheel; what is kept of the orders -/
section
variable {X : qX} {d : Nat} {sh : qS} {pt h S S' S0 : qM} {B : Int → Int} {n t N0 : Int}
def sSi (B : Int → Int) (n t s : Int) (S : qM) : qM := qup (qup (qup S 9 5 (tkR B n (tkA B n (S 9 5))).2.1) (t + 3) (S 9 10) s) 9 9 5
theorem m_wheel {K : qM → Prop} (hst : St sh pt) (ht : isT t) (tm : TM S0 B n t S h) (w : S 9 9 = 4) (nb : 0 ≤ N0 ∧ N0 < 60) (kf : ∀ h1, Fr (PNt N0) h h1 → FM S0 B n t h1 → K h1) (ks : ∀ s v h1, (s = 0 ∨ s = 1) → 1 ≤ v → v ≤ 99 → Fr (PNt N0) h h1 → h1 102 N0 = (if s = 0 then -1 else 1) → h1 101 N0 = v → h1 105 N0 = S t 8 → TM S0 B n t (sNu B n t v (sSi B n t s S)) h1 → K h1) : RunL X (d + 4) mX11_spelled [(0, 108), (0, 101), (0, 102), (0, 116), (0, 0), (0, 0)] sh pt h (fun r38 h37 => RunI X (d + 4) mX11_isWord [(2, 78), (1, r38)] sh pt h37 (fun r40 h39 => ((¬ r40 = 0 → EvV X (d + 5) mX11_readOrder 244 [(2, 78), (8, -1), (8, -1), (0, N0), (0, r40)] [] sh pt h39 K) ∧ (r40 = 0 → RunL X (d + 4) mX11_spelled [(0, 114), (0, 105), (0, 103), (0, 104), (0, 116), (0, 0)] sh pt h39 (fun r42 h41 => RunI X (d + 4) mX11_isWord [(2, 78), (1, r42)] sh pt h41 (fun r44 h43 => ((¬ r44 = 0 → EvV X (d + 5) mX11_readOrder 244 [(2, 78), (8, -1), (8, -1), (0, N0), (0, r40)] [] sh pt h43 K) ∧ (r44 = 0 → RunV X (d + 4) mX11_wrong [(2, 78)] sh pt h43 (fun h45 => EvV X (d + 5) mX11_readOrder 244 [(2, 78), (8, -1), (8, -1), (0, N0), (0, r40)] [] sh pt h45 K))))))))) := by
  have tn : t ≠ 9 ∧ 40 ≤ t := by rcases ht with e | e <;> omega
  have q9 : (qup S 9 5 (tkR B n (tkA B n (S 9 5))).2.1) 9 9 = S 9 9 := qup_of (by decide)
  have q10 : (qup S 9 5 (tkR B n (tkA B n (S 9 5))).2.1) 9 10 = S 9 10 := qup_of (by decide)
  have ne : ¬ ((tkR B n (tkA B n (S 9 5))).1 = 1 ∧ S 9 9 = 0) := fun z => by omega
  have en : ¬ (tkR B n (tkA B n (S 9 5))).1 = 0 → (tak t (tkA B n (S 9 5)) (tkR B n (tkA B n (S 9 5))) (qup S 9 5 (tkR B n (tkA B n (S 9 5))).2.1)) = tSi t (tkA B n (S 9 5)) (tkR B n (tkA B n (S 9 5))) (qup S 9 5 (tkR B n (tkA B n (S 9 5))).2.1) := fun z => by
    rw [tak, if_neg z, q9, if_neg (by omega), if_neg (by omega), if_neg (by omega), if_neg (by omega), if_pos w]
  have e270B : ∀ (u : Int) (g : qM), Fr (PNt N0) h g → FM S0 B n t g → EvV X (d + 5) mX11_readOrder 270 [(2, 78), (8, -1), (8, -1), (0, N0), (8, -1)] [(0, u), (0, N0), (2, 102)] sh pt g K := fun u g fg m => by
    refine b_X11_readOrder_270 hst ⟨nb, fun h2 e2 => ?_⟩
    exact m_lastB hst (fm_fr m (by rw [e2]; exact Fr.up Fr.rf (by omega))) nb (fun h5 f5 m5 => kf h5 (Fr.tr (Fr.tr fg (by rw [e2]; exact Fr.up Fr.rf (by unfold PNt; omega))) f5) m5)
  have e244B : ∀ (u : Int) (g : qM), Fr (PNt N0) h g → FM S0 B n t g → EvV X (d + 5) mX11_readOrder 244 [(2, 78), (8, -1), (8, -1), (0, N0), (0, u)] [] sh pt g K := fun u g fg m => by
    have := fm_pos m
    exact b_X11_readOrder_244 hst ⟨fun _ => ⟨fun _ => e270B 1 g fg m, fun _ => e270B (-1) g fg m⟩, fun c => absurd c (by omega)⟩
  have e270 : ∀ (s u : Int) (g : qM), (s = 0 ∨ s = 1) → u = (if s = 0 then -1 else 1) → Fr (PNt N0) h g → TM S0 B n t (sSi B n t s S) g → EvV X (d + 5) mX11_readOrder 270 [(2, 78), (8, -1), (8, -1), (0, N0), (8, -1)] [(0, u), (0, N0), (2, 102)] sh pt g K := fun s u g hs hu fg m => by
    refine b_X11_readOrder_270 hst ⟨nb, fun h2 e2 => ?_⟩
    have fx : Fr (fun a _ => 100 ≤ a ∧ a ≤ 105) g h2 := by rw [e2]; exact Fr.up Fr.rf (by omega)
    have fy : Fr (PNt N0) h h2 := Fr.tr fg (by rw [e2]; exact Fr.up Fr.rf (by unfold PNt; omega))
    refine m_last hst ht (tm_fr m fx) (Or.inl ⟨qup_at, rfl⟩) ?_ nb (fun h5 f5 m5 => kf h5 (Fr.tr fy f5) m5) (fun v h5 v0 v1 f5 g1 g2 m5 => ks s v h5 hs v0 v1 (Fr.tr fy (Fr.wk f5 (fun a i z => by unfold PLt PFm at z; unfold PNt PFm; omega))) ?_ g1 ?_ m5)
    · rw [sSi, qup_of (by omega), qup_of (by omega), qup_of (by omega)]
      have b3 := tm.2.2.2.2.2.2.2.1.2.2.2.2.2.2.2.2.2.2.2.1
      omega
    · rw [f5 102 N0 (by unfold PLt PFm; omega), e2, qup_at, hu]
    · rw [g2, sSi, qup_of (by omega), qup_of (by omega), qup_of (by omega)]
  have e244 : ∀ (s r : Int), (s = 0 ∨ s = 1) → (s = 0 ↔ ¬ r = 0) → (tak t (tkA B n (S 9 5)) (tkR B n (tkA B n (S 9 5))) (qup S 9 5 (tkR B n (tkA B n (S 9 5))).2.1)) = sSi B n t s S → EvV X (d + 5) mX11_readOrder 244 [(2, 78), (8, -1), (8, -1), (0, N0), (0, r)] [] sh pt h K := fun s r hs hr ek => by
    refine b_X11_readOrder_244 hst ⟨fun c => absurd tm.2.2.1 c, fun _ => m_adv hst ht tm ne ek ?_ Fr.rf ?_ ?_ (fun h1 f1 m1 => ?_)⟩
    · rw [sSi, qup_of (by omega), qup_of (by omega), qup_of (by omega)]; exact tm.2.2.2.2.2.1
    · rw [sSi, qup_of (by omega), qup_of (by omega), qup_of (by omega)]; exact tm.2.2.2.1
    · rw [sSi, qup_of (by omega), qup_of (by omega), qup_of (by omega)]
    · have fg : Fr (PNt N0) h h1 := Fr.wk f1 (fun a i z => by unfold PTm at z; unfold PNt PFm; omega)
      exact ⟨fun c => e270 s 1 h1 hs (by rw [if_neg (by omega)]) fg m1, fun c => e270 s (-1) h1 hs (by rw [if_pos (by omega)]) fg m1⟩
  refine m_spelled hst (by decide) (by decide) (by decide) (by decide) (by decide) (by decide) (v := 398548) (by decide) (m_isWord hst tm (fun x y => ⟨fun _ => e244 0 1 (Or.inl rfl) (by decide) ?_, fun c => absurd c (by decide)⟩) (fun x => ⟨fun c => absurd rfl c, fun _ => ?_⟩))
  · rw [en (by omega), tSi, if_pos ⟨x, y⟩, q10, sSi]
  refine m_spelled hst (by decide) (by decide) (by decide) (by decide) (by decide) (by decide) (v := 19176724) (by decide) (m_isWord hst tm (fun x2 y2 => ⟨fun _ => e244 1 0 (Or.inr rfl) (by decide) ?_, fun c => absurd c (by decide)⟩) (fun x2 => ⟨fun c => absurd rfl c, fun _ => m_wrong hst ht tm ne (fun z => ?_) (fun h1 f1 m1 => e244B 0 h1 (Fr.wk f1 (fun a i z => Or.inl z)) m1)⟩))
  · rw [en (by omega), tSi, if_neg x, if_pos ⟨x2, y2⟩, q10, sSi]
  · rw [en z, tSi, if_neg x, if_neg x2]
def RO (t : Int) (S h : qM) (o : Int) : Prop := h 100 o = S (t + 1) o ∧ h 104 o = S (t + 2) o ∧ h 101 o = (if S (t + 1) o = 5 ∨ S (t + 1) o = 10 then S (t + 3) o else S (t + 5) o) ∧ (S (t + 1) o = 6 → h 102 o = if S (t + 3) o = 0 then -1 else 1) ∧ (S (t + 1) o = 7 ∨ S (t + 1) o = 8 ∨ S (t + 1) o = 9 → h 102 o = S (t + 3) o) ∧ (S (t + 1) o = 9 → h 103 o = S (t + 4) o)
def RMo (S0 : qM) (B : Int → Int) (n t : Int) (S h : qM) : Prop := TM S0 B n t S h ∧ ∀ o, 0 ≤ o → o < S t 8 → RO t S h o ∧ ((∀ i, 0 ≤ i → i < S 9 13 → S 11 i ≠ o) → h 105 o = S (t + 6) o)
def PSq (t a i : Int) : Prop := (a = 9 ∧ i ≠ 14) ∨ a = 11 ∨ (a = t ∧ i = 8) ∨ (t + 1 ≤ a ∧ a ≤ t + 6)
def PRq (a i : Int) : Prop := (a = 78 ∧ ((22 ≤ i ∧ i ≤ 29) ∨ i = 32)) ∨ (100 ≤ a ∧ a ≤ 105)
def PSt (t N0 a i : Int) : Prop := (a = 9 ∧ i ≠ 13 ∧ i ≠ 14) ∨ (a = t ∧ i = 8) ∨ ((t + 1 ≤ a ∧ a ≤ t + 6) ∧ i = N0)
def PHt (N0 a i : Int) : Prop := (a = 78 ∧ ((22 ≤ i ∧ i ≤ 29) ∨ i = 32)) ∨ ((100 ≤ a ∧ a ≤ 105) ∧ i = N0)
theorem RO_fr {h1 : qM} {o : Int} (q : RO t S h o) (a : ∀ j, 1 ≤ j → j ≤ 5 → S' (t + j) o = S (t + j) o) (b : ∀ x, 100 ≤ x → x ≤ 104 → h1 x o = h x o) : RO t S' h1 o := by
  unfold RO at *
  rw [a 1 (by decide) (by decide), a 2 (by decide) (by decide), a 3 (by decide) (by decide), a 4 (by decide) (by decide), a 5 (by decide) (by decide), b 100 (by decide) (by decide), b 101 (by decide) (by decide), b 102 (by decide) (by decide), b 103 (by decide) (by decide), b 104 (by decide) (by decide)]
  exact q
theorem rmo_fin {h1 : qM} (ht : isT t) (q : RMo S0 B n t S h) (e0 : N0 = S t 8) (fS : Fr (PSt t N0) S S') (fh : Fr (PHt N0) h h1) (tm : TM S0 B n t S' h1) (e8 : S' t 8 = N0 + 1) (ro : RO t S' h1 N0) (re : h1 105 N0 = S' (t + 6) N0) : RMo S0 B n t S' h1 := by
  have tn : t ≠ 9 ∧ t ≠ 11 ∧ 40 ≤ t ∧ t ≤ 60 := by rcases ht with e | e <;> omega
  refine ⟨tm, fun o o0 o1 => ?_⟩
  by_cases c : o = N0
  · rw [c]
    exact ⟨ro, fun _ => re⟩
  · have p := q.2 o o0 (by omega)
    refine ⟨RO_fr p.1 (fun j j0 j1 => fS _ _ (by unfold PSt; omega)) (fun x x0 x1 => fh _ _ (by unfold PHt; omega)), fun z => ?_⟩
    rw [fh 105 o (by unfold PHt; omega), fS (t + 6) o (by unfold PSt; omega)]
    refine p.2 (fun i i0 i1 => ?_)
    have := z i i0 (by rw [fS 9 13 (by unfold PSt; omega)]; exact i1)
    rw [fS 11 i (by unfold PSt; omega)] at this
    exact this
end
