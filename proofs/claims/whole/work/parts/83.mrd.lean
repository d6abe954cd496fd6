/-! the reference's reader: its small parts -/
section
variable {X : qX} {d : Nat} {sh : qS} {pt h S S' S0 : qM} {B : Int → Int} {n t : Int}
def TM (S0 : qM) (B : Int → Int) (n t : Int) (S h : qM) : Prop := tpM h B n ∧ tkM h B n (tkA B n (S 9 5)) ∧ h 78 22 = 0 ∧ h 78 32 = S t 8 ∧ h 78 31 = S t 9 ∧ S 9 2 = 0 ∧ S t 10 = 0 ∧ IV n t S ∧ Rch B n t S0 S
def FM (S0 : qM) (B : Int → Int) (n t : Int) (h : qM) : Prop := ∃ S, Rch B n t S0 S ∧ 0 < S 9 2 ∧ h 78 22 = S 9 2 ∧ h 78 23 = S 9 3
def PFm (a i : Int) : Prop := a = 78 ∧ (i = 22 ∨ i = 23 ∨ i = 24 ∨ i = 25 ∨ i = 26 ∨ i = 27 ∨ i = 28 ∨ i = 29)
theorem FM_fr {h1 : qM} (f : FM S0 B n t h) (a : h1 78 22 = h 78 22) (b : h1 78 23 = h 78 23) : FM S0 B n t h1 := by
  obtain ⟨S, x, y, z, w⟩ := f
  exact ⟨S, x, y, a.trans z, b.trans w⟩
theorem m_nxt {K : qM → Prop} (hst : St sh pt) (tp : tpM h B n) (hp : h 78 26 = S 9 5) (b : h 78 22 = 0) (e1 : h 78 32 = S t 8) (e2 : h 78 31 = S t 9) (e3 : S 9 2 = 0) (e4 : S t 10 = 0) (iv : IV n t S) (r : Rch B n t S0 S) (k : ∀ h1, Fr PTm h h1 → TM S0 B n t S h1 → K h1) : RunV X (d + 1) mX11_next [(2, 78)] sh pt h K := by
  have pb := iv.2.2.2.2.2.2.2.2.1
  refine m_next hst tp hp pb.1 pb.2 (fun h1 f tk => k h1 f ⟨tpM_fr tp f, tk, ?_, ?_, ?_, e3, e4, iv, r⟩)
  · rw [f 78 22 (by unfold PTm; omega)]; exact b
  · rw [f 78 32 (by unfold PTm; omega)]; exact e1
  · rw [f 78 31 (by unfold PTm; omega)]; exact e2
/-- a step that is no end -/
theorem tm_stp (ht : isT t) (tm : TM S0 B n t S h) (ne : ¬ ((tkR B n (tkA B n (S 9 5))).1 = 1 ∧ S 9 9 = 0)) (es : tak t (tkA B n (S 9 5)) (tkR B n (tkA B n (S 9 5))) (qup S 9 5 (tkR B n (tkA B n (S 9 5))).2.1) = S') : Rch B n t S0 S' ∧ IV n t S' ∧ S' t 10 = 0 ∧ S' 9 5 = (tkR B n (tkA B n (S 9 5))).2.1 := by
  obtain ⟨tp, tk, b0, e1, e2, e3, e4, iv, r⟩ := tm
  have pb := iv.2.2.2.2.2.2.2.2.1
  have ab := tkA_bd (B := B) pb.2
  have tb := tkR_bd (B := B) (n := n) (a := tkA B n (S 9 5)) ab.2
  have tn : t ≠ 9 := by rcases ht with e | e <;> omega
  have x := Rch.st r
  rw [stp, if_neg (by omega), if_neg ne, es] at x
  refine ⟨x, ?_, ?_, ?_⟩
  · rw [← es]
    exact IV_tak ht (IV_pos ht (by omega) (by omega) iv)
  · rw [← es, tak_fr t 10 (by unfold PXk; omega), qup_of (by omega), e4]
  · rw [← es, tak_fr 9 5 (by unfold PXk; omega), qup_at]
theorem m_fault {K : qM → Prop} {v a : Int} (hst : St sh pt) (ht : isT t) (tm : TM S0 B n t S h) (ne : ¬ ((tkR B n (tkA B n (S 9 5))).1 = 1 ∧ S 9 9 = 0)) (v0 : 0 < v) (ea : a = tkA B n (S 9 5)) (es : tak t (tkA B n (S 9 5)) (tkR B n (tkA B n (S 9 5))) (qup S 9 5 (tkR B n (tkA B n (S 9 5))).2.1) = flt (qup S 9 5 (tkR B n (tkA B n (S 9 5))).2.1) v (tkA B n (S 9 5))) (k : ∀ h1, Fr PFm h h1 → FM S0 B n t h1 → K h1) : RunV X d mX11_fail [(2, 78), (0, v), (0, a)] sh pt h K := by
  have s := tm_stp ht tm ne es
  refine b_X11_fail hst ⟨fun _ h1 e1 h2 e2 => ?_, fun c => absurd c (by rw [tm.2.2.1]; decide)⟩
  refine k h2 (by rw [e2, e1]; exact Fr.up (Fr.up Fr.rf (by unfold PFm; omega)) (by unfold PFm; omega)) ⟨_, s.1, by rw [flt_k.1]; exact v0, ?_, ?_⟩
  · rw [flt_k.1, e2, e1, qup_of (by decide), qup_at]
  · rw [flt_k.2, e2, qup_at, ea]
theorem m_wrong {K : qM → Prop} (hst : St sh pt) (ht : isT t) (tm : TM S0 B n t S h) (ne : ¬ ((tkR B n (tkA B n (S 9 5))).1 = 1 ∧ S 9 9 = 0)) (es : ¬ (tkR B n (tkA B n (S 9 5))).1 = 0 → tak t (tkA B n (S 9 5)) (tkR B n (tkA B n (S 9 5))) (qup S 9 5 (tkR B n (tkA B n (S 9 5))).2.1) = flt (qup S 9 5 (tkR B n (tkA B n (S 9 5))).2.1) 2 (tkA B n (S 9 5))) (k : ∀ h1, Fr PFm h h1 → FM S0 B n t h1 → K h1) : RunV X (d + 1) mX11_wrong [(2, 78)] sh pt h K := by
  obtain ⟨k1, k2, k3, k4, k5⟩ := tm.2.1
  have pb := tm.2.2.2.2.2.2.2.1.2.2.2.2.2.2.2.2.1
  have ab := tkA_bd (B := B) pb.2
  have tb := (tkR_bd (B := B) (n := n) (a := tkA B n (S 9 5)) ab.2).2.1
  refine b_X11_wrong hst ⟨fun c => m_fault hst ht tm ne (by decide) k3 (es (fun z => c (by rw [k1, z]; rfl))) k, fun c => ?_⟩
  have z : (tkR B n (tkA B n (S 9 5))).1 = 0 := by
    rw [k1] at c
    unfold rK at c
    split at c
    · assumption
    · omega
  exact m_fault hst ht tm ne (by decide) k3 (by rw [tak, if_pos z]) k
theorem m_isSign {K : Int → qM → Prop} {v : Int} (hst : St sh pt) (tm : TM S0 B n t S h) (k1 : isS (tkR B n (tkA B n (S 9 5))) v → K 1 h) (k0 : ¬ isS (tkR B n (tkA B n (S 9 5))) v → K 0 h) : RunI X d mX11_isSign [(2, 78), (0, v)] sh pt h K := by
  obtain ⟨q1, q2, q3, q4, q5⟩ := tm.2.1
  have rk : h 78 24 = 3 ↔ (tkR B n (tkA B n (S 9 5))).1 = 4 := by
    rw [q1]
    unfold rK
    split <;> omega
  refine b_X11_isSign hst ⟨fun c => k0 (fun z => c (rk.mpr z.1)), fun c => ?_⟩
  rw [q5 (Or.inr (rk.mp c))]
  exact ⟨fun z => k0 (fun y => z y.2), fun z => k1 ⟨rk.mp c, z⟩⟩
theorem m_isWord {K : Int → qM → Prop} {v : Int} (hst : St sh pt) (tm : TM S0 B n t S h) (k1 : (tkR B n (tkA B n (S 9 5))).1 = 2 → (tkR B n (tkA B n (S 9 5))).2.2 = v → K 1 h) (k0 : ¬ ((tkR B n (tkA B n (S 9 5))).1 = 2 ∧ (tkR B n (tkA B n (S 9 5))).2.2 = v) → K 0 h) : RunI X d mX11_isWord [(2, 78), (1, v)] sh pt h K := by
  obtain ⟨q1, q2, q3, q4, q5⟩ := tm.2.1
  have rk : h 78 24 = 1 ↔ (tkR B n (tkA B n (S 9 5))).1 = 2 := by
    rw [q1]
    unfold rK
    split <;> omega
  refine b_X11_isWord hst ⟨fun c => k0 (fun z => c (rk.mpr z.1)), fun c => ?_⟩
  rw [(q4 (rk.mp c)).1]
  exact ⟨fun z => k0 (fun y => z y.2), fun z => k1 (rk.mp c) z⟩
def dgl (w c : Int) : Int := if 0 < c then (w * 32 + c) - 96 else w
def spl (a b c d e f : Int) : Int := dgl (dgl (dgl (dgl (((a - 96) * 32 + b) - 96) c) d) e) f
theorem m_spelled {K : Int → qM → Prop} {a b c e f g v : Int} (hst : St sh pt) (ha : 97 ≤ a ∧ a ≤ 122) (hb : 97 ≤ b ∧ b ≤ 122) (hc : c = 0 ∨ (97 ≤ c ∧ c ≤ 122)) (he : e = 0 ∨ (97 ≤ e ∧ e ≤ 122)) (hf : f = 0 ∨ (97 ≤ f ∧ f ≤ 122)) (hg : g = 0 ∨ (97 ≤ g ∧ g ≤ 122)) (ev : spl a b c e f g = v) (k : K v h) : RunL X d mX11_spelled [(0, a), (0, b), (0, c), (0, e), (0, f), (0, g)] sh pt h K := by
  have st4 : ∀ x : Int, 0 ≤ x → x ≤ 40000000 → dgl x g = v → EvL X d mX11_spelled 95 [(8, -1), (8, -1), (8, -1), (8, -1), (8, -1), (0, g), (8, -1), (8, -1)] [(1, x)] sh pt h K := fun x x0 x1 ex => by
    refine b_X11_spelled_95 hst ⟨fun z => ?_, fun z => ⟨⟨by omega, by omega⟩, ⟨by omega, by omega⟩, ⟨by omega, by omega⟩, ?_⟩⟩
    · rw [dgl, if_neg (by omega)] at ex; rw [ex]; exact k
    · rw [dgl, if_pos z] at ex; rw [ex]; exact k
  have st3 : ∀ x : Int, 0 ≤ x → x ≤ 1200000 → dgl (dgl x f) g = v → EvL X d mX11_spelled 69 [(8, -1), (8, -1), (8, -1), (8, -1), (0, f), (0, g), (8, -1), (8, -1)] [(1, x)] sh pt h K := fun x x0 x1 ex => by
    refine b_X11_spelled_69 hst ⟨fun z => ?_, fun z => ⟨⟨by omega, by omega⟩, ⟨by omega, by omega⟩, ⟨by omega, by omega⟩, ?_⟩⟩
    · rw [show dgl x f = x from if_neg (by omega)] at ex; exact st4 x x0 (by omega) ex
    · rw [show dgl x f = (x * 32 + f) - 96 from if_pos z] at ex; exact st4 _ (by omega) (by omega) ex
  have st2 : ∀ x : Int, 0 ≤ x → x ≤ 36000 → dgl (dgl (dgl x e) f) g = v → EvL X d mX11_spelled 45 [(8, -1), (8, -1), (8, -1), (0, e), (0, f), (0, g), (8, -1), (8, -1)] [(1, x)] sh pt h K := fun x x0 x1 ex => by
    refine b_X11_spelled_45 hst ⟨fun z => ?_, fun z => ⟨⟨by omega, by omega⟩, ⟨by omega, by omega⟩, ⟨by omega, by omega⟩, ?_⟩⟩
    · rw [show dgl x e = x from if_neg (by omega)] at ex; exact st3 x x0 (by omega) ex
    · rw [show dgl x e = (x * 32 + e) - 96 from if_pos z] at ex; exact st3 _ (by omega) (by omega) ex
  unfold spl at ev
  refine b_X11_spelled hst ⟨⟨by omega, by omega⟩, ⟨by omega, by omega⟩, ⟨by omega, by omega⟩, ⟨by omega, by omega⟩, fun x ex => ?_⟩
  rw [← ex] at ev
  refine ⟨fun z => ?_, fun z => ⟨⟨by omega, by omega⟩, ⟨by omega, by omega⟩, ⟨by omega, by omega⟩, ?_⟩⟩
  · rw [show dgl x c = x from if_neg (by omega)] at ev; exact st2 x (by omega) (by omega) ev
  · rw [show dgl x c = (x * 32 + c) - 96 from if_pos z] at ev; exact st2 _ (by omega) (by omega) ev
/-- one word tried -/
theorem m_sw {A : qM → Prop} {K : qM → Prop} {a b c e f g v : Int} (hst : St sh pt) (tm : TM S0 B n t S h) (ok : (97 ≤ a ∧ a ≤ 122) ∧ (97 ≤ b ∧ b ≤ 122) ∧ (c = 0 ∨ (97 ≤ c ∧ c ≤ 122)) ∧ (e = 0 ∨ (97 ≤ e ∧ e ≤ 122)) ∧ (f = 0 ∨ (97 ≤ f ∧ f ≤ 122)) ∧ (g = 0 ∨ (97 ≤ g ∧ g ≤ 122))) (ev : spl a b c e f g = v) (k0 : ¬ ((tkR B n (tkA B n (S 9 5))).1 = 2 ∧ (tkR B n (tkA B n (S 9 5))).2.2 = v) → A h) (k1 : (tkR B n (tkA B n (S 9 5))).1 = 2 → (tkR B n (tkA B n (S 9 5))).2.2 = v → K h) : RunL X d mX11_spelled [(0, a), (0, b), (0, c), (0, e), (0, f), (0, g)] sh pt h (fun r h1 => RunI X d mX11_isWord [(2, 78), (1, r)] sh pt h1 (fun r4 h3 => ((r4 = 0 → A h3) ∧ (¬ r4 = 0 → K h3)))) :=
  m_spelled hst ok.1 ok.2.1 ok.2.2.1 ok.2.2.2.1 ok.2.2.2.2.1 ok.2.2.2.2.2 ev (m_isWord hst tm (fun x y => ⟨fun z => absurd z (by decide), fun _ => k1 x y⟩) (fun x => ⟨fun _ => k0 x, fun z => absurd rfl z⟩))
theorem kOf_at {v : Int} : kOf v = if v = 239 then 0 else if v = 66667 then 1 else if v = 427595 then 2 else if v = 263572 then 3 else if v = 217461239 then 4 else if v = 677454 then 5 else if v = 24384684 then 6 else if v = 508078 then 7 else if v = 3554917 then 8 else if v = 20194516 then 9 else if v = 1279278 then 10 else -1 := by
  have q : qstW 0 = 239 ∧ qstW (0 + 1) = 66667 ∧ qstW (0 + 1 + 1) = 427595 ∧ qstW (0 + 1 + 1 + 1) = 263572 ∧ qstW (0 + 1 + 1 + 1 + 1) = 217461239 ∧ qstW (0 + 1 + 1 + 1 + 1 + 1) = 677454 ∧ qstW (0 + 1 + 1 + 1 + 1 + 1 + 1) = 24384684 ∧ qstW (0 + 1 + 1 + 1 + 1 + 1 + 1 + 1) = 508078 ∧ qstW (0 + 1 + 1 + 1 + 1 + 1 + 1 + 1 + 1) = 3554917 ∧ qstW (0 + 1 + 1 + 1 + 1 + 1 + 1 + 1 + 1 + 1) = 20194516 ∧ qstW (0 + 1 + 1 + 1 + 1 + 1 + 1 + 1 + 1 + 1 + 1) = 1279278 := by decide +kernel
  obtain ⟨q0, q1, q2, q3, q4, q5, q6, q7, q8, q9, q10⟩ := q
  unfold kOf
  iterate 12 (unfold fnd)
  rw [q0, q1, q2, q3, q4, q5, q6, q7, q8, q9, q10]
  simp only [eq_comm (b := v)]
  rfl
theorem m_orderKind {K : Int → qM → Prop} (hst : St sh pt) (tm : TM S0 B n t S h) (k : K (if (tkR B n (tkA B n (S 9 5))).1 = 2 then kOf (tkR B n (tkA B n (S 9 5))).2.2 else -1) h) : RunI X (d + 1) mX11_orderKind [(2, 78)] sh pt h K := by
  have yes : ∀ j, (tkR B n (tkA B n (S 9 5))).1 = 2 → kOf (tkR B n (tkA B n (S 9 5))).2.2 = j → K j h := fun j x y => by rw [if_pos x, y] at k; exact k
  rw [kOf_at] at yes
  refine b_X11_orderKind hst (m_sw hst tm (by decide) (v := 239) (by decide) (fun n0 => m_sw hst tm (by decide) (v := 66667) (by decide) (fun n1 => m_sw hst tm (by decide) (v := 427595) (by decide) (fun n2 => m_sw hst tm (by decide) (v := 263572) (by decide) (fun n3 => m_sw hst tm (by decide) (v := 217461239) (by decide) (fun n4 => m_sw hst tm (by decide) (v := 677454) (by decide) (fun n5 => m_sw hst tm (by decide) (v := 24384684) (by decide) (fun n6 => m_sw hst tm (by decide) (v := 508078) (by decide) (fun n7 => m_sw hst tm (by decide) (v := 3554917) (by decide) (fun n8 => m_sw hst tm (by decide) (v := 20194516) (by decide) (fun n9 => m_sw hst tm (by decide) (v := 1279278) (by decide) (fun n10 => ?_) ?_) ?_) ?_) ?_) ?_) ?_) ?_) ?_) ?_) ?_) ?_)
  · by_cases c : (tkR B n (tkA B n (S 9 5))).1 = 2
    · have e := yes (-1) c
      generalize (tkR B n (tkA B n (S 9 5))).2.2 = v at *
      exact e (by rw [if_neg (by omega), if_neg (by omega), if_neg (by omega), if_neg (by omega), if_neg (by omega), if_neg (by omega), if_neg (by omega), if_neg (by omega), if_neg (by omega), if_neg (by omega), if_neg (by omega)])
    · rw [if_neg c] at k
      exact k
  all_goals (intro x y; refine yes _ x ?_; rw [y]; decide)
end
