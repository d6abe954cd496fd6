/-! TOKENS: the reference -/
section
variable {X : qX} {d : Nat} {sh : qS} {pt h : qM} {B : Int → Int} {n p : Int}
def PTm (a i : Int) : Prop := a = 78 ∧ (i = 24 ∨ i = 25 ∨ i = 26 ∨ i = 27 ∨ i = 28 ∨ i = 29)
def tpM (h : qM) (B : Int → Int) (n : Int) : Prop := h 78 19 = n ∧ 0 ≤ n ∧ n ≤ 500 ∧ ∀ i, 0 ≤ i → i < n → h 88 i % 256 = B i ∧ 0 ≤ B i ∧ B i ≤ 255
theorem tpM_fr {h1 : qM} (t : tpM h B n) (f : Fr PTm h h1) : tpM h1 B n := ⟨by rw [f _ _ (by unfold PTm; omega)]; exact t.1, t.2.1, t.2.2.1, fun i a b => by rw [f _ _ (by unfold PTm; omega)]; exact t.2.2.2 i a b⟩
theorem m_look {K : Int → qM → Prop} {i : Int} (hst : St sh pt) (tp : tpM h B n) (i0 : 0 ≤ i) (k0 : n ≤ i → K 0 h) (k1 : i < n → K (B i) h) : RunI X d mX11_look [(2, 78), (0, i)] sh pt h K := by
  refine b_X11_look hst ?_
  rw [tp.1]
  refine ⟨k0, fun q => ⟨⟨i0, by have := tp.2.2.1; omega⟩, ?_⟩⟩
  rw [qiand_255, (tp.2.2.2 i i0 q).1]
  exact k1 q
/-- the class's kinds as the reference's -/
def rK (k : Int) : Int := if k = 0 then 4 else k - 1
def tkM (h : qM) (B : Int → Int) (n a : Int) : Prop := h 78 24 = rK (tkR B n a).1 ∧ h 78 26 = (tkR B n a).2.1 ∧ h 78 25 = a ∧ ((tkR B n a).1 = 2 → h 78 29 = (tkR B n a).2.2 ∧ h 78 28 = (tkR B n a).2.1 - a) ∧ ((tkR B n a).1 = 3 ∨ (tkR B n a).1 = 4 → h 78 27 = (tkR B n a).2.2)
theorem m_next {K : qM → Prop} (hst : St sh pt) (tp : tpM h B n) (hp : h 78 26 = p) (p0 : 0 ≤ p) (p1 : p ≤ n) (k : ∀ h1, Fr PTm h h1 → tkM h1 B n (tkA B n p) → K h1) : RunV X (d + 1) mX11_next [(2, 78)] sh pt h K := by
  have n5 := tp.2.2.1
  have s := spn_ok (q := qBl B) (n - p).toNat p
  have ea : spn (qBl B) (n - p).toNat p = tkA B n p := rfl
  rw [ea] at s
  generalize ta : tkA B n p = a at *
  have a0 : 0 ≤ a ∧ a ≤ n := by omega
  have fin : ∀ h1, Fr PTm h h1 → h1 78 25 = a → EvV X (d + 1) mX11_next 58 [(2, 78), (8, -1)] [] sh pt h1 K := fun h1 f1 c1 => by
    refine b_X11_next_58 hst (fun h2 e2 => ?_)
    have f2 : Fr PTm h h2 := by rw [e2]; exact f1.up (by unfold PTm; omega)
    have t2 := tpM_fr tp f2
    have c2 : h2 78 25 = a := by rw [e2, qup_of (by omega)]; exact c1
    have b2 : h2 78 26 = a := by rw [e2, qup_at]; exact c1
    rw [c2, t2.1]
    refine ⟨fun q => m_look hst t2 a0.1 (fun z => absurd z (by omega)) (fun _ => ?_), fun q h3 e3 => ?_⟩
    · have bb := (t2.2.2.2 a a0.1 q).2
      have word : 97 ≤ B a → B a ≤ 122 → ∀ h17 : qM, h17 = qup h2 78 24 1 → ∀ h18 : qM, h18 = qup h17 78 29 0 → EvV X (d + 1) mX11_next 109 [(2, 78), (8, -1)] [] sh pt h18 K := fun x y h17 e17 h18 e18 => by
        have lt : qLt B a = true := decide_eq_true ⟨x, y⟩
        have eR : tkR B n a = (2, wEn B n a, if wEn B n a - a ≤ 8 then wvp B a (wEn B n a - a).toNat else -1) := by rw [tkR, if_neg (by omega), if_pos lt]
        unfold tkM at k
        rw [eR] at k
        have sw := spn_ok (q := qLt B) (n - a).toNat a
        have ew : spn (qLt B) (n - a).toNat a = wEn B n a := rfl
        rw [ew] at sw
        generalize wEn B n a = e at *
        refine lp (σ := qM) (J := fun i h4 => Fr PTm h h4 ∧ h4 78 26 = i ∧ h4 78 25 = a ∧ h4 78 24 = 1 ∧ h4 78 29 = if i - a ≤ 8 then wvp B a (i - a).toNat else -1) (C := fun i h4 => EvV X (d + 1) mX11_next 109 [(2, 78), (8, -1)] [] sh pt h4 K) (n := e) sw.1 ?_ ?_ h18 ?_
        · intro i h4 i0 i1 ⟨f4, c4, p4, s4, v4⟩ kk
          have t4 := tpM_fr tp f4
          have bi := (t4.2.2.2 i (by omega) (by omega)).2
          have li := of_decide_eq_true (sw.2.2.1 i i0 i1)
          refine b_X11_next_109 hst ?_
          rw [c4]
          refine m_look hst t4 (by omega) (fun z => absurd z (by omega)) (fun _ => b_X11_isLetter hst ⟨fun z => absurd z (by omega), fun _ => ⟨fun z => absurd z (by omega), fun _ => ⟨fun z => absurd z (by decide), fun _ => ?_⟩⟩⟩)
          rw [c4, p4, v4]
          refine ⟨⟨by omega, by omega⟩, fun z h6 e6 => ?_, fun z => ?_⟩
          · have c6 : h6 78 26 = i := by rw [e6, qup_of (by omega)]; exact c4
            rw [c6]
            refine ⟨⟨by omega, by omega⟩, fun h7 e7 => kk h7 ⟨by rw [e7, e6]; exact (f4.up (by unfold PTm; omega)).up (by unfold PTm; omega), by rw [e7, qup_at], by rw [e7, e6, qup_of (by omega), qup_of (by omega)]; exact p4, by rw [e7, e6, qup_of (by omega), qup_of (by omega)]; exact s4, ?_⟩⟩
            rw [e7, e6, qup_of (by omega), qup_at, if_neg (by omega)]
          · rw [if_pos (by omega)]
            have bd := wvp_bd (B := B) (a := a) (i - a).toNat (fun j x y => sw.2.2.1 j x (by omega))
            have pw : (32 : Int) ^ (i - a).toNat ≤ 32 ^ 7 := (ipow (by decide) _ _ (by omega)).1
            have pv : (32 : Int) ^ 7 = 34359738368 := by decide
            refine ⟨⟨by omega, by omega⟩, m_look hst t4 (by omega) (fun z => absurd z (by omega)) (fun _ => ⟨⟨by omega, by omega⟩, ⟨by omega, by omega⟩, fun h10 e10 => ?_⟩)⟩
            have c10 : h10 78 26 = i := by rw [e10, qup_of (by omega)]; exact c4
            rw [c10]
            refine ⟨⟨by omega, by omega⟩, fun h11 e11 => kk h11 ⟨by rw [e11, e10]; exact (f4.up (by unfold PTm; omega)).up (by unfold PTm; omega), by rw [e11, qup_at], by rw [e11, e10, qup_of (by omega), qup_of (by omega)]; exact p4, by rw [e11, e10, qup_of (by omega), qup_of (by omega)]; exact s4, ?_⟩⟩
            rw [e11, e10, qup_of (by omega), qup_at, if_pos (by omega), show (i + 1 - a).toNat = (i - a).toNat + 1 by omega, wvp, show a + (((i - a).toNat : Nat) : Int) = i by omega]
            omega
        · intro h4 ⟨f4, c4, p4, s4, v4⟩
          have t4 := tpM_fr tp f4
          have done : (qI ((h4 78 26) - (h4 78 25))) ∧ ∀ h5 : qM, h5 = qup h4 78 28 ((h4 78 26) - (h4 78 25)) → K h5 := by
            rw [c4, p4]
            refine ⟨⟨by omega, by omega⟩, fun h5 e5 => k h5 (by rw [e5]; exact f4.up (by unfold PTm; omega)) ⟨by rw [e5, qup_of (by omega)]; exact s4, by rw [e5, qup_of (by omega)]; exact c4, by rw [e5, qup_of (by omega)]; exact p4, fun _ => ⟨by rw [e5, qup_of (by omega)]; exact v4, by rw [e5, qup_at]⟩, fun z => ?_⟩⟩
            rcases z with z | z
            · exact absurd z (by simp)
            · exact absurd z (by simp)
          refine b_X11_next_109 hst ?_
          rw [c4]
          refine m_look hst t4 (by omega) (fun z => b_X11_isLetter hst ⟨fun _ => ⟨fun _ => by rw [c4, p4] at done; rw [c4, p4]; exact done, fun z => absurd rfl z⟩, fun z => absurd z (by decide)⟩) (fun z => ?_)
          have ni := of_decide_eq_false (sw.2.2.2 (by omega))
          exact b_X11_isLetter hst ⟨fun _ => ⟨fun _ => by rw [c4, p4] at done; rw [c4, p4]; exact done, fun z => absurd rfl z⟩, fun x2 => ⟨fun _ => ⟨fun _ => by rw [c4, p4] at done; rw [c4, p4]; exact done, fun z => absurd rfl z⟩, fun x3 => absurd ⟨x2, x3⟩ ni⟩⟩
        · refine ⟨by rw [e18, e17]; exact (f2.up (by unfold PTm; omega)).up (by unfold PTm; omega), by rw [e18, e17, qup_of (by omega), qup_of (by omega)]; exact b2, by rw [e18, e17, qup_of (by omega), qup_of (by omega)]; exact c2, by rw [e18, e17, qup_of (by omega), qup_at], ?_⟩
          rw [e18, qup_at, if_pos (by omega), show (a - a).toNat = 0 by omega]
          rfl
      have num : 48 ≤ B a → B a ≤ 57 → ∀ h16 : qM, h16 = qup h2 78 27 0 → EvV X (d + 1) mX11_next 210 [(2, 78), (8, -1)] [] sh pt h16 K := fun x y h16 e16 => by
        have nl : qLt B a = false := decide_eq_false (by omega)
        have dg : qDg B a = true := decide_eq_true ⟨x, y⟩
        have eR : tkR B n a = (if dEn B n a - a ≤ 3 then 3 else 0, dEn B n a, nvp B a (dEn B n a - a).toNat) := by rw [tkR, if_neg (by omega), if_neg (by rw [nl]; decide), if_pos dg]
        unfold tkM at k
        rw [eR] at k
        have sw := spn_ok (q := qDg B) (n - a).toNat a
        have ew : spn (qDg B) (n - a).toNat a = dEn B n a := rfl
        rw [ew] at sw
        generalize dEn B n a = e at *
        refine lp (σ := qM) (J := fun i h4 => Fr PTm h h4 ∧ h4 78 26 = i ∧ h4 78 25 = a ∧ (0 ≤ h4 78 27 ∧ h4 78 27 < 1000) ∧ (i - a ≤ 3 → h4 78 27 = nvp B a (i - a).toNat)) (C := fun i h4 => EvV X (d + 1) mX11_next 210 [(2, 78), (8, -1)] [] sh pt h4 K) (n := e) sw.1 ?_ ?_ h16 ?_
        · intro i h4 i0 i1 ⟨f4, c4, p4, w4, v4⟩ kk
          have t4 := tpM_fr tp f4
          have bi := (t4.2.2.2 i (by omega) (by omega)).2
          have li := of_decide_eq_true (sw.2.2.1 i i0 i1)
          refine b_X11_next_210 hst ?_
          rw [c4]
          refine m_look hst t4 (by omega) (fun z => absurd z (by omega)) (fun _ => b_X11_isDigit hst ⟨fun z => absurd z (by omega), fun _ => ⟨fun z => absurd z (by omega), fun _ => ⟨fun z => absurd z (by decide), fun _ => ?_⟩⟩⟩)
          rw [c4, p4]
          refine ⟨⟨by omega, by omega⟩, fun z => ⟨⟨by omega, by omega⟩, fun h7 e7 => kk h7 ⟨by rw [e7]; exact f4.up (by unfold PTm; omega), by rw [e7, qup_at], by rw [e7, qup_of (by omega)]; exact p4, by rw [e7, qup_of (by omega)]; exact w4, fun w => absurd w (by omega)⟩⟩, fun z => ?_⟩
          have vi := v4 (by omega)
          have bd := nvp_bd (B := B) (a := a) (i - a).toNat (fun j x y => sw.2.2.1 j x (by omega))
          have pw : (10 : Int) ^ (i - a).toNat ≤ 10 ^ 2 := (ipow (by decide) _ _ (by omega)).1
          have pv : (10 : Int) ^ 2 = 100 := by decide
          refine ⟨⟨by omega, by omega⟩, m_look hst t4 (by omega) (fun z => absurd z (by omega)) (fun _ => ⟨⟨by omega, by omega⟩, ⟨by omega, by omega⟩, fun h10 e10 => ?_⟩)⟩
          have c10 : h10 78 26 = i := by rw [e10, qup_of (by omega)]; exact c4
          rw [c10]
          refine ⟨⟨by omega, by omega⟩, fun h11 e11 => kk h11 ⟨by rw [e11, e10]; exact (f4.up (by unfold PTm; omega)).up (by unfold PTm; omega), by rw [e11, qup_at], by rw [e11, e10, qup_of (by omega), qup_of (by omega)]; exact p4, by rw [e11, e10, qup_of (by omega), qup_at]; omega, fun w => ?_⟩⟩
          rw [e11, e10, qup_of (by omega), qup_at, vi, show (i + 1 - a).toNat = (i - a).toNat + 1 by omega, nvp, show a + (((i - a).toNat : Nat) : Int) = i by omega]
        · intro h4 ⟨f4, c4, p4, w4, v4⟩
          have t4 := tpM_fr tp f4
          have done : (qI (e - a)) ∧ ((e - a ≤ 3 → ∀ h5 : qM, h5 = qup h4 78 24 2 → K h5) ∧ (3 < e - a → ∀ h6 : qM, h6 = qup h4 78 24 4 → K h6)) := by
            refine ⟨⟨by omega, by omega⟩, fun w h5 e5 => ?_, fun w h5 e5 => ?_⟩
            · rw [if_pos w] at k
              refine k h5 (by rw [e5]; exact f4.up (by unfold PTm; omega)) ⟨by rw [e5, qup_at]; rfl, by rw [e5, qup_of (by omega)]; exact c4, by rw [e5, qup_of (by omega)]; exact p4, fun z => absurd z (by simp), fun _ => by rw [e5, qup_of (by omega)]; exact v4 w⟩
            · rw [if_neg (by omega)] at k
              refine k h5 (by rw [e5]; exact f4.up (by unfold PTm; omega)) ⟨by rw [e5, qup_at]; rfl, by rw [e5, qup_of (by omega)]; exact c4, by rw [e5, qup_of (by omega)]; exact p4, fun z => absurd z (by simp), fun z => ?_⟩
              rcases z with z | z
              · exact absurd z (by simp)
              · exact absurd z (by simp)
          refine b_X11_next_210 hst ?_
          rw [c4]
          refine m_look hst t4 (by omega) (fun z => b_X11_isDigit hst ⟨fun _ => ⟨fun _ => by rw [c4, p4]; exact done, fun z => absurd rfl z⟩, fun z => absurd z (by decide)⟩) (fun z => ?_)
          have ni := of_decide_eq_false (sw.2.2.2 (by omega))
          exact b_X11_isDigit hst ⟨fun _ => ⟨fun _ => by rw [c4, p4]; exact done, fun z => absurd rfl z⟩, fun x2 => ⟨fun _ => ⟨fun _ => by rw [c4, p4]; exact done, fun z => absurd rfl z⟩, fun x3 => absurd ⟨x2, x3⟩ ni⟩⟩
        · refine ⟨by rw [e16]; exact f2.up (by unfold PTm; omega), by rw [e16, qup_of (by omega)]; exact b2, by rw [e16, qup_of (by omega)]; exact c2, by rw [e16, qup_at]; decide, fun _ => by rw [e16, qup_at, show (a - a).toNat = 0 by omega]; rfl⟩
      have sig : ¬ (97 ≤ B a ∧ B a ≤ 122) → ¬ (48 ≤ B a ∧ B a ≤ 57) → (qI ((h2 78 25) + 1)) ∧ ∀ h8 : qM, h8 = qup h2 78 26 ((h2 78 25) + 1) → ∀ h9 : qM, h9 = qup h8 78 27 (B a) → ((B a = 58 → ∀ h10 : qM, h10 = qup h9 78 24 3 → K h10) ∧ (¬ B a = 58 → ((B a = 59 → ∀ h11 : qM, h11 = qup h9 78 24 3 → K h11) ∧ (¬ B a = 59 → ((B a = 123 → ∀ h12 : qM, h12 = qup h9 78 24 3 → K h12) ∧ (¬ B a = 123 → ((B a = 125 → ∀ h13 : qM, h13 = qup h9 78 24 3 → K h13) ∧ (¬ B a = 125 → ((¬ B a = 45 → ∀ h14 : qM, h14 = qup h9 78 24 4 → K h14) ∧ (B a = 45 → ∀ h15 : qM, h15 = qup h9 78 24 3 → K h15)))))))))) := fun x y => by
        have nl : qLt B a = false := decide_eq_false x
        have nd : qDg B a = false := decide_eq_false y
        have eR : tkR B n a = (if isSg (B a) then 4 else 0, a + 1, B a) := by rw [tkR, if_neg (by omega), if_neg (by rw [nl]; decide), if_neg (by rw [nd]; decide)]
        unfold tkM at k
        rw [eR] at k
        rw [c2]
        refine ⟨⟨by omega, by omega⟩, fun h8 e8 h9 e9 => ?_⟩
        have yes : isSg (B a) = true → ∀ h10 : qM, h10 = qup h9 78 24 3 → K h10 := fun g h10 e10 => by
          rw [if_pos g] at k
          refine k h10 (by rw [e10, e9, e8]; exact ((f2.up (by unfold PTm; omega)).up (by unfold PTm; omega)).up (by unfold PTm; omega)) ⟨by rw [e10, qup_at]; rfl, by rw [e10, e9, e8, qup_of (by omega), qup_of (by omega), qup_at], by rw [e10, e9, e8, qup_of (by omega), qup_of (by omega), qup_of (by omega)]; exact c2, fun z => absurd z (by simp), fun _ => by rw [e10, e9, qup_of (by omega), qup_at]⟩
        have noo : isSg (B a) = false → ∀ h10 : qM, h10 = qup h9 78 24 4 → K h10 := fun g h10 e10 => by
          rw [if_neg (by rw [g]; decide)] at k
          refine k h10 (by rw [e10, e9, e8]; exact ((f2.up (by unfold PTm; omega)).up (by unfold PTm; omega)).up (by unfold PTm; omega)) ⟨by rw [e10, qup_at]; rfl, by rw [e10, e9, e8, qup_of (by omega), qup_of (by omega), qup_at], by rw [e10, e9, e8, qup_of (by omega), qup_of (by omega), qup_of (by omega)]; exact c2, fun z => absurd z (by simp), fun z => ?_⟩
          rcases z with z | z
          · exact absurd z (by simp)
          · exact absurd z (by simp)
        exact ⟨fun g => yes (decide_eq_true (by omega)), fun g => ⟨fun g2 => yes (decide_eq_true (by omega)), fun g2 => ⟨fun g3 => yes (decide_eq_true (by omega)), fun g3 => ⟨fun g4 => yes (decide_eq_true (by omega)), fun g4 => ⟨fun g5 => noo (decide_eq_false (by omega)), fun g5 => yes (decide_eq_true (by omega))⟩⟩⟩⟩⟩
      have dig : ¬ (97 ≤ B a ∧ B a ≤ 122) → RunI X d mX11_isDigit [(0, B a)] sh pt h2 (fun r7 h6 => ((r7 = 0 → (qI ((h6 78 25) + 1)) ∧ ∀ h8 : qM, h8 = qup h6 78 26 ((h6 78 25) + 1) → ∀ h9 : qM, h9 = qup h8 78 27 (B a) → ((B a = 58 → ∀ h10 : qM, h10 = qup h9 78 24 3 → K h10) ∧ (¬ B a = 58 → ((B a = 59 → ∀ h11 : qM, h11 = qup h9 78 24 3 → K h11) ∧ (¬ B a = 59 → ((B a = 123 → ∀ h12 : qM, h12 = qup h9 78 24 3 → K h12) ∧ (¬ B a = 123 → ((B a = 125 → ∀ h13 : qM, h13 = qup h9 78 24 3 → K h13) ∧ (¬ B a = 125 → ((¬ B a = 45 → ∀ h14 : qM, h14 = qup h9 78 24 4 → K h14) ∧ (B a = 45 → ∀ h15 : qM, h15 = qup h9 78 24 3 → K h15))))))))))) ∧ (¬ r7 = 0 → ∀ h16 : qM, h16 = qup h6 78 27 0 → EvV X (d + 1) mX11_next 210 [(2, 78), (8, -1)] [] sh pt h16 K))) := fun x => b_X11_isDigit hst ⟨fun y => ⟨fun _ => sig x (by omega), fun z => absurd rfl z⟩, fun y => ⟨fun y2 => ⟨fun _ => sig x (by omega), fun z => absurd rfl z⟩, fun y2 => ⟨fun z => absurd z (by decide), fun _ => num y y2⟩⟩⟩
      exact b_X11_isLetter hst ⟨fun x => ⟨fun _ => dig (by omega), fun z => absurd rfl z⟩, fun x => ⟨fun y => ⟨fun _ => dig (by omega), fun z => absurd rfl z⟩, fun y => ⟨fun z => absurd z (by decide), fun _ => word x y⟩⟩⟩
    · have eR : tkR B n a = (1, a, 0) := by rw [tkR, if_pos q]
      unfold tkM at k
      rw [eR] at k
      refine k h3 (by rw [e3]; exact f2.up (by unfold PTm; omega)) ⟨by rw [e3, qup_at]; rfl, by rw [e3, qup_of (by omega)]; exact b2, by rw [e3, qup_of (by omega)]; exact c2, fun z => absurd z (by simp), fun z => ?_⟩
      rcases z with z | z
      · exact absurd z (by simp)
      · exact absurd z (by simp)
  refine b_X11_next hst (fun h1 e1 => ?_)
  refine lp (σ := qM) (J := fun i h1 => Fr PTm h h1 ∧ h1 78 25 = i) (C := fun i h1 => EvV X (d + 1) mX11_next 8 [(2, 78), (8, -1)] [] sh pt h1 K) (i := p) (n := a) s.1 ?_ ?_ h1 ⟨by rw [e1]; exact Fr.rf.up (by unfold PTm; omega), by rw [e1, qup_at]; exact hp⟩
  · intro i h2 i0 i1 ⟨f2, c2⟩ kk
    have t2 := tpM_fr tp f2
    have li := of_decide_eq_true (s.2.2.1 i i0 i1)
    have nx : ∀ h3, h3 = qup h2 78 25 (i + 1) → EvV X (d + 1) mX11_next 8 [(2, 78), (8, -1)] [] sh pt h3 K := fun h3 e3 => kk h3 ⟨by rw [e3]; exact f2.up (by unfold PTm; omega), by rw [e3, qup_at]⟩
    refine b_X11_next_8 hst ?_
    rw [c2, t2.1]
    refine ⟨fun z => absurd z (by omega), fun _ => m_look hst t2 (by omega) (fun z => absurd z (by omega)) (fun _ => ?_)⟩
    rw [c2]
    exact ⟨fun z => ⟨⟨by omega, by omega⟩, nx⟩, fun z => m_look hst t2 (by omega) (fun z => absurd z (by omega)) (fun _ => by rw [c2]; exact ⟨fun z2 => absurd li (by omega), fun z2 => ⟨⟨by omega, by omega⟩, nx⟩⟩)⟩
  · intro h2 ⟨f2, c2⟩
    have t2 := tpM_fr tp f2
    refine b_X11_next_8 hst ?_
    rw [c2, t2.1]
    refine ⟨fun _ => fin h2 f2 c2, fun z => m_look hst t2 (by omega) (fun z => absurd z (by omega)) (fun _ => ?_)⟩
    rw [c2]
    have ni := of_decide_eq_false (s.2.2.2 (by omega))
    exact ⟨fun z => absurd (Or.inl z) ni, fun z => m_look hst t2 (by omega) (fun z => absurd z (by omega)) (fun _ => ⟨fun _ => fin h2 f2 c2, fun z2 => absurd (Or.inr z2) ni⟩)⟩
end
