/-! how agains lie within each other -/
def Nd (k e : Int → Int) : Nat → Int → Int → Prop
  | 0, lo, hi => ∀ o, lo ≤ o → o < hi → ¬ k o = 10 ∧ e o = o + 1
  | w + 1, lo, hi => ∀ o, lo ≤ o → o < hi → (¬ k o = 10 → e o = o + 1) ∧ (k o = 10 → o < e o ∧ e o ≤ hi ∧ Nd k e w (o + 1) (e o))
theorem Nd_cg {k e k1 e1 : Int → Int} : ∀ (w : Nat) (lo hi : Int), (∀ o, lo ≤ o → o < hi → k1 o = k o ∧ e1 o = e o) → Nd k e w lo hi → Nd k1 e1 w lo hi := by
  intro w
  induction w with
  | zero =>
    intro lo hi q z o a b
    rw [(q o a b).1, (q o a b).2]
    exact z o a b
  | succ w ih =>
    intro lo hi q z o a b
    rw [(q o a b).1, (q o a b).2]
    refine ⟨(z o a b).1, fun c => ?_⟩
    have y := (z o a b).2 c
    exact ⟨y.1, y.2.1, ih _ _ (fun o' a' b' => q o' (by omega) (by omega)) y.2.2⟩
theorem Nd_up {k e : Int → Int} : ∀ (w : Nat) (lo hi : Int), Nd k e w lo hi → Nd k e (w + 1) lo hi := by
  intro w
  induction w with
  | zero =>
    intro lo hi z o a b
    exact ⟨fun _ => (z o a b).2, fun c => absurd c (z o a b).1⟩
  | succ w ih =>
    intro lo hi z o a b
    refine ⟨(z o a b).1, fun c => ?_⟩
    have y := (z o a b).2 c
    exact ⟨y.1, y.2.1, ih _ _ y.2.2⟩
theorem Nd_no {k e : Int → Int} {w : Nat} {lo hi : Int} (h : hi ≤ lo) : Nd k e w lo hi := by
  cases w with
  | zero => intro o a b; omega
  | succ w => intro o a b; omega
theorem Nd_one {k e : Int → Int} {w : Nat} {lo o : Int} (z : Nd k e w lo o) (c : ¬ k o = 10) (ee : e o = o + 1) : Nd k e w lo (o + 1) := by
  cases w with
  | zero =>
    intro x a b
    by_cases q : x = o
    · rw [q]; exact ⟨c, ee⟩
    · exact z x a (by omega)
  | succ w =>
    intro x a b
    by_cases q : x = o
    · rw [q]; exact ⟨fun _ => ee, fun y => absurd y c⟩
    · have y := z x a (by omega)
      exact ⟨y.1, fun u => ⟨(y.2 u).1, by have := (y.2 u).2.1; omega, (y.2 u).2.2⟩⟩
theorem Nd_cl {k e : Int → Int} {w : Nat} {lo op N : Int} (z : Nd k e (w + 1) lo op) (c : k op = 10) (ee : e op = N) (l : op < N) (y : Nd k e w (op + 1) N) : Nd k e (w + 1) lo N := by
  have y1 := Nd_up w _ _ y
  intro x a b
  by_cases q : x = op
  · rw [q]
    exact ⟨fun u => absurd c u, fun _ => ⟨by omega, by omega, by rw [ee]; exact y⟩⟩
  by_cases q2 : x < op
  · have u := z x a q2
    exact ⟨u.1, fun v => ⟨(u.2 v).1, by have := (u.2 v).2.1; omega, (u.2 v).2.2⟩⟩
  · exact y1 x (by omega) b
def lbv (le : Int → Int) (l : Int) : Int := if l = 0 then 0 else le (l - 1)
def bsv (L : Int) (op le : Int → Int) (i : Int) : Int := if i = 0 then lbv le L else op (i - 1) + 1
def tpv (N dp w : Int) (op : Int → Int) (i : Int) : Int := if i = dp then (if 3 ≤ w then N - 1 else N) else op i
def NIs (N L dp w od : Int) (op k e le : Int → Int) : Prop :=
  (3 ≤ w → od = N - 1 ∧ e (N - 1) = N) ∧ (∀ i, 0 ≤ i → i ≤ dp → 0 ≤ bsv L op le i ∧ bsv L op le i ≤ tpv N dp w op i ∧ Nd k e (3 - i).toNat (bsv L op le i) (tpv N dp w op i)) ∧ (∀ i, 0 ≤ i → i < dp → k (op i) = 10 ∧ op i < N) ∧ (∀ l, 0 ≤ l → l < L → 0 ≤ lbv le l ∧ lbv le l ≤ le l ∧ le l ≤ lbv le L ∧ Nd k e 3 (lbv le l) (le l))
def NI (t : Int) (S : qM) : Prop := NIs (S t 8) (S t 9) (S 9 13) (S 9 9) (S 9 10) (S 11) (S (t + 1)) (S (t + 6)) (S (t + 7))
theorem NI_to {t N L dp w od : Int} {op k e le : Int → Int} {S : qM} (hN : S t 8 = N) (hL : S t 9 = L) (hd : S 9 13 = dp) (hw : S 9 9 = w) (ho : S 9 10 = od) (h1 : ∀ i, S 11 i = op i) (h2 : ∀ i, S (t + 1) i = k i) (h3 : ∀ i, S (t + 6) i = e i) (h4 : ∀ i, S (t + 7) i = le i) (z : NIs N L dp w od op k e le) : NI t S := by
  have e1 : S 11 = op := funext h1
  have e2 : S (t + 1) = k := funext h2
  have e3 : S (t + 6) = e := funext h3
  have e4 : S (t + 7) = le := funext h4
  unfold NI
  rw [hN, hL, hd, hw, ho, e1, e2, e3, e4]
  exact z
section
variable {N L dp w w1 od od1 : Int} {op k e le : Int → Int}
theorem NIs_lo (a : w < 3) (b : w1 < 3) (z : NIs N L dp w od op k e le) : NIs N L dp w1 od1 op k e le := by
  have q : ∀ i, tpv N dp w1 op i = tpv N dp w op i := fun i => by
    unfold tpv
    rw [if_neg (show ¬ 3 ≤ w1 by omega), if_neg (show ¬ 3 ≤ w by omega)]
  refine ⟨fun c => by omega, fun i a b => ?_, z.2.2.1, z.2.2.2⟩
  rw [q]
  exact z.2.1 i a b
theorem NIs_hi (a : 3 ≤ w) (b : 3 ≤ w1) (z : NIs N L dp w od op k e le) : NIs N L dp w1 od op k e le := by
  have q : ∀ i, tpv N dp w1 op i = tpv N dp w op i := fun i => by
    unfold tpv
    rw [if_pos b, if_pos a]
  refine ⟨fun _ => z.1 a, fun i a b => ?_, z.2.2.1, z.2.2.2⟩
  rw [q]
  exact z.2.1 i a b
/-- the order is whole -/
theorem NIs_done (d0 : 0 ≤ dp) (a : 3 ≤ w) (b : w1 < 3) (c : ¬ k od = 10) (z : NIs N L dp w od op k e le) : NIs N L dp w1 od1 op k e le := by
  have z1 := z.1 a
  rw [z1.1] at c
  refine ⟨fun c => by omega, fun i i0 i1 => ?_, z.2.2.1, z.2.2.2⟩
  have y := z.2.1 i i0 i1
  unfold tpv at y ⊢
  by_cases q : i = dp
  · rw [if_pos q, if_pos a] at y
    rw [if_pos q, if_neg (show ¬ 3 ≤ w1 by omega)]
    have n := Nd_one y.2.2 c (by omega)
    rw [show N - 1 + 1 = N by omega] at n
    exact ⟨y.1, by omega, n⟩
  · rw [if_neg q] at y ⊢
    exact y
/-- a line ends -/
theorem NIs_line (a : w < 3) (b : w1 < 3) (L0 : 0 ≤ L) (d0 : dp = 0) (z : NIs N L dp w od op k e le) : NIs N (L + 1) dp w1 od1 op k e (fun i => if i = L then N else le i) := by
  have y := z.2.1 0 (by decide) (by omega)
  have t0 : tpv N dp w op 0 = N := by
    unfold tpv
    rw [if_pos d0.symm, if_neg (by omega)]
  have t1 : tpv N dp w1 op 0 = N := by
    unfold tpv
    rw [if_pos d0.symm, if_neg (by omega)]
  have b0 : bsv L op le 0 = lbv le L := by unfold bsv; rw [if_pos rfl]
  have lN : lbv (fun i => if i = L then N else le i) (L + 1) = N := by
    unfold lbv
    rw [if_neg (by omega), show L + 1 - 1 = L by omega]
    try dsimp only
    rw [if_pos rfl]
  have ll : ∀ l, l ≤ L → lbv (fun i => if i = L then N else le i) l = lbv le l := fun l q => by
    unfold lbv
    by_cases c : l = 0
    · rw [if_pos c, if_pos c]
    · rw [if_neg c, if_neg c]
      try dsimp only
      rw [if_neg (by omega)]
  rw [t0, b0] at y
  refine ⟨fun c => by omega, fun i i0 i1 => ?_, fun i i0 i1 => by omega, fun l l0 l1 => ?_⟩
  · have e0 : i = 0 := by omega
    subst e0
    rw [t1]
    unfold bsv
    rw [if_pos rfl, lN]
    exact ⟨by omega, by omega, Nd_no (by omega)⟩
  · rw [lN]
    by_cases c : l = L
    · rw [c, ll L (by omega)]
      try dsimp only
      rw [if_pos rfl]
      exact ⟨y.1, y.2.1, by omega, y.2.2⟩
    · have x := z.2.2.2 l l0 (by omega)
      rw [ll l (by omega)]
      try dsimp only
      rw [if_neg c]
      exact ⟨x.1, x.2.1, by omega, x.2.2.2⟩
/-- an again ends -/
theorem NIs_close (a : w < 3) (d1 : 0 < dp) (d3 : dp ≤ 3) (z : NIs N L dp w od op k e le) : NIs N L (dp - 1) w od1 op k (fun i => if i = op (dp - 1) then N else e i) le := by
  have top := z.2.1 dp (by omega) (by omega)
  have tt : tpv N dp w op dp = N := by
    unfold tpv
    rw [if_pos rfl, if_neg (by omega)]
  have bt : bsv L op le dp = op (dp - 1) + 1 := by unfold bsv; rw [if_neg (by omega)]
  rw [tt, bt] at top
  have b0 : bsv L op le 0 = lbv le L := by unfold bsv; rw [if_pos rfl]
  have mo : ∀ i, 0 ≤ i → i < dp → bsv L op le i ≤ op i := fun i i0 i1 => by
    have := (z.2.1 i i0 (by omega)).2.1
    unfold tpv at this
    rw [if_neg (by omega)] at this
    exact this
  have ms : ∀ i, 0 ≤ i → i + 1 < dp → op i < op (i + 1) := fun i i0 i1 => by
    have := mo (i + 1) (by omega) i1
    unfold bsv at this
    rw [if_neg (by omega), show i + 1 - 1 = i by omega] at this
    omega
  have mm : ∀ i, 0 ≤ i → i < dp → op i ≤ op (dp - 1) := fun i i0 i1 => by
    by_cases c1 : i = dp - 1
    · rw [c1]; omega
    by_cases c2 : i = dp - 2
    · have := ms i i0 (by omega)
      rw [show i + 1 = dp - 1 by omega] at this
      omega
    · have u := ms i i0 (by omega)
      have v := ms (i + 1) (by omega) (by omega)
      rw [show i + 1 + 1 = dp - 1 by omega] at v
      omega
  have m0 := mm 0 (by decide) d1
  have m1 := mo 0 (by decide) d1
  rw [b0] at m1
  refine ⟨fun c => by omega, fun i i0 i1 => ?_, fun i i0 i1 => z.2.2.1 i i0 (by omega), fun l l0 l1 => ?_⟩
  · have y := z.2.1 i i0 (by omega)
    by_cases q : i = dp - 1
    · have t2 : tpv N (dp - 1) w op i = N := by
        unfold tpv
        rw [if_pos q, if_neg (by omega)]
      have t3 : tpv N dp w op i = op (dp - 1) := by
        unfold tpv
        rw [if_neg (by omega), q]
      rw [t3] at y
      rw [t2]
      have w1 : (3 - i).toNat = (3 - dp).toNat + 1 := by omega
      rw [w1] at y ⊢
      refine ⟨y.1, by omega, ?_⟩
      refine Nd_cl (op := op (dp - 1)) (Nd_cg _ _ _ (fun o a b => ⟨rfl, ?_⟩) y.2.2) (z.2.2.1 (dp - 1) (by omega) (by omega)).1 ?_ (z.2.2.1 (dp - 1) (by omega) (by omega)).2 (Nd_cg _ _ _ (fun o a b => ⟨rfl, ?_⟩) top.2.2)
      · (try dsimp only); rw [if_neg (by omega)]
      · (try dsimp only); rw [if_pos rfl]
      · (try dsimp only); rw [if_neg (by omega)]
    · have t2 : tpv N (dp - 1) w op i = tpv N dp w op i := by
        unfold tpv
        rw [if_neg q, if_neg (by omega)]
      have t3 : tpv N dp w op i = op i := by
        unfold tpv
        rw [if_neg (by omega)]
      rw [t2]
      have mi := mm i i0 (by omega)
      refine ⟨y.1, y.2.1, Nd_cg _ _ _ (fun o a b => ⟨rfl, ?_⟩) y.2.2⟩
      try dsimp only
      rw [if_neg (by omega)]
  · have x := z.2.2.2 l l0 l1
    refine ⟨x.1, x.2.1, x.2.2.1, Nd_cg _ _ _ (fun o a b => ⟨rfl, ?_⟩) x.2.2.2⟩
    try dsimp only
    rw [if_neg (by omega)]
/-- an order more -/
theorem NIs_add {kd : Int} (d0 : 0 ≤ dp) (a : w < 3) (b : 3 ≤ w1) (z : NIs N L dp w od op k e le) : NIs (N + 1) L dp w1 N op (fun i => if i = N then kd else k i) (fun i => if i = N then N + 1 else e i) le := by
  have tb : ∀ i, 0 ≤ i → i ≤ dp → tpv N dp w op i ≤ N := fun i i0 i1 => by
    unfold tpv
    by_cases q : i = dp
    · rw [if_pos q, if_neg (by omega)]; omega
    · rw [if_neg q]
      have := (z.2.2.1 i i0 (by omega)).2
      omega
  have b0 : bsv L op le 0 = lbv le L := by unfold bsv; rw [if_pos rfl]
  have te : ∀ i, tpv (N + 1) dp w1 op i = tpv N dp w op i := fun i => by
    unfold tpv
    rw [if_pos b, if_neg (show ¬ 3 ≤ w by omega), show N + 1 - 1 = N by omega]
  refine ⟨fun _ => ⟨by omega, ?_⟩, fun i i0 i1 => ?_, fun i i0 i1 => ?_, fun l l0 l1 => ?_⟩
  · (try dsimp only); rw [show N + 1 - 1 = N by omega, if_pos rfl]
  · have y := z.2.1 i i0 i1
    rw [te]
    have := tb i i0 i1
    refine ⟨y.1, y.2.1, Nd_cg _ _ _ (fun o a b => ⟨?_, ?_⟩) y.2.2⟩
    · (try dsimp only); rw [if_neg (by omega)]
    · (try dsimp only); rw [if_neg (by omega)]
  · have y := z.2.2.1 i i0 i1
    try dsimp only
    rw [if_neg (by omega)]
    exact ⟨y.1, by omega⟩
  · have x := z.2.2.2 l l0 l1
    have y := z.2.1 0 (by decide) d0
    have := tb 0 (by decide) d0
    rw [b0] at y
    refine ⟨x.1, x.2.1, x.2.2.1, Nd_cg _ _ _ (fun o a b => ⟨?_, ?_⟩) x.2.2.2⟩
    · (try dsimp only); rw [if_neg (by omega)]
    · (try dsimp only); rw [if_neg (by omega)]
/-- an again begins -/
theorem NIs_brace (d0 : 0 ≤ dp) (a : 3 ≤ w) (b : w1 < 3) (c : k od = 10) (n0 : 0 ≤ N) (z : NIs N L dp w od op k e le) : NIs N L (dp + 1) w1 od1 (fun i => if i = dp then od else op i) k e le := by
  have z1 := z.1 a
  have be : ∀ i, i ≤ dp → bsv L (fun i => if i = dp then od else op i) le i = bsv L op le i := fun i q => by
    unfold bsv
    by_cases c : i = 0
    · rw [if_pos c, if_pos c]
    · rw [if_neg c, if_neg c]
      try dsimp only
      rw [if_neg (by omega)]
  refine ⟨fun c => by omega, fun i i0 i1 => ?_, fun i i0 i1 => ?_, z.2.2.2⟩
  · by_cases q : i = dp + 1
    · have b1 : bsv L (fun i => if i = dp then od else op i) le i = N := by
        unfold bsv
        rw [if_neg (by omega)]
        try dsimp only
        rw [if_pos (by omega)]
        omega
      have t1 : tpv N (dp + 1) w1 (fun i => if i = dp then od else op i) i = N := by
        unfold tpv
        rw [if_pos q, if_neg (by omega)]
      rw [b1, t1]
      exact ⟨n0, by omega, Nd_no (by omega)⟩
    · have y := z.2.1 i i0 (by omega)
      have t1 : tpv N (dp + 1) w1 (fun i => if i = dp then od else op i) i = tpv N dp w op i := by
        unfold tpv
        rw [if_neg q]
        (try dsimp only)
        by_cases c : i = dp
        · rw [if_pos c, if_pos c, if_pos a]; omega
        · rw [if_neg c, if_neg c]
      rw [be i (by omega), t1]
      exact y
  · by_cases q : i = dp
    · try dsimp only
      rw [if_pos q]
      exact ⟨c, by omega⟩
    · try dsimp only
      rw [if_neg q]
      exact z.2.2.1 i i0 (by omega)
end
section
variable {n t a : Int} {T : Int × Int × Int} {S S1 : qM}
/-- nothing of it changes but what stands next -/
theorem NI_fr {w : Int} (q : NIs (S t 8) (S t 9) (S 9 13) w (S 9 10) (S 11) (S (t + 1)) (S (t + 6)) (S (t + 7))) (hw : S1 9 9 = w) (f : Fr (fun x i => (x = 9 ∧ i ≠ 13 ∧ i ≠ 10) ∨ (x = t ∧ i ≠ 8 ∧ i ≠ 9) ∨ (t + 2 ≤ x ∧ x ≤ t + 5) ∨ x = t + 8) S S1) (ht : isT t) : NI t S1 := by
  have tn : t ≠ 9 ∧ t ≠ 11 ∧ 40 ≤ t := by rcases ht with e | e <;> omega
  exact NI_to (f _ _ (by omega)) (f _ _ (by omega)) (f _ _ (by omega)) hw (f _ _ (by omega)) (fun i => f _ _ (by omega)) (fun i => f _ _ (by omega)) (fun i => f _ _ (by omega)) (fun i => f _ _ (by omega)) q
theorem NI_flt {v : Int} (ht : isT t) (i : NI t S) : NI t (flt S v a) := by
  refine NI_fr i (by rw [flt, qup_of (by decide), qup_of (by decide)]) ?_ ht
  exact Fr.up (Fr.up Fr.rf (by omega)) (by omega)
theorem NI_ad {kd : Int} (ht : isT t) (w : S 9 9 = 2) (iv : IVb t S) (q : NI t S) : NI t (tAd t a kd S) := by
  obtain ⟨⟨s9, s10, s8, s9', _, _, s13, _⟩, ⟨r1, r2, r3, r4, r5, r6⟩, fS⟩ := tAd_at (S := S) (a := a) (k := kd) ht
  have tn : t ≠ 9 ∧ t ≠ 11 ∧ 40 ≤ t ∧ t ≤ 60 := by rcases ht with e | e <;> omega
  have wb := wbw_bd (k := kd)
  refine NI_to s8 s9' s13 s9 s10 (fun i => fS _ _ (by unfold PSt; omega)) (fun i => ?_) (fun i => ?_) (fun i => fS _ _ (by unfold PSt; omega)) (NIs_add (kd := kd) iv.2.1.1 (show S 9 9 < 3 by omega) (by omega) q)
  · by_cases c : i = S t 8
    · (try dsimp only); rw [if_pos c, c]; exact r1
    · (try dsimp only); rw [if_neg c]; exact fS _ _ (by unfold PSt; omega)
  · by_cases c : i = S t 8
    · (try dsimp only); rw [if_pos c, c]; exact r6
    · (try dsimp only); rw [if_neg c]; exact fS _ _ (by unfold PSt; omega)
theorem NI_tak (ht : isT t) (b : IVb t S) (d01 : S 9 9 ≤ 1 → S 9 13 = 0) (x : TXI t S) (q : NI t S) : NI t (tak t a T S) := by
  have tn : t ≠ 9 ∧ t ≠ 11 ∧ 40 ≤ t ∧ t ≤ 60 := by rcases ht with e | e <;> omega
  have fl : ∀ v, NI t (flt S v a) := fun v => NI_flt ht q
  have bb := b
  obtain ⟨b1, b2, b3, b4, b5, b6, b7, b8⟩ := b
  unfold tak
  split
  · exact fl 1
  split
  · rename_i w
    unfold tNm
    split
    · split
      · exact fl 3
      · exact NI_fr (NIs_lo (w := S 9 9) (w1 := 1) (by omega) (by decide) q) (by rw [qup_at]) (Fr.up (Fr.up (Fr.up (Fr.up Fr.rf (by omega)) (by omega)) (by omega)) (by omega)) ht
    · exact fl 2
  split
  · rename_i w
    unfold tCo
    split
    · exact NI_fr (NIs_lo (w := S 9 9) (w1 := 2) (by omega) (by decide) q) (by rw [qup_at]) (Fr.up Fr.rf (by omega)) ht
    · exact fl 2
  split
  · rename_i w
    unfold tOr
    split
    · rename_i z
      refine NI_to (N := S t 8) (L := S t 9 + 1) (dp := S 9 13) (w := 0) (od := S 9 10) (by rw [qup_of (by omega), qup_of (by omega), qup_of (by omega)]) (by rw [qup_of (by omega), qup_at]) (by rw [qup_of (by omega), qup_of (by omega), qup_of (by omega)]) qup_at (by rw [qup_of (by omega), qup_of (by omega), qup_of (by omega)]) (fun i => by rw [qup_of (by omega), qup_of (by omega), qup_of (by omega)]) (fun i => by rw [qup_of (by omega), qup_of (by omega), qup_of (by omega)]) (fun i => by rw [qup_of (by omega), qup_of (by omega), qup_of (by omega)]) (fun i => ?_) (NIs_line (w := S 9 9) (by omega) (by decide) b5.1 z.1 q)
      try dsimp only
      by_cases c : i = S t 9
      · rw [if_pos c, c, qup_of (by omega), qup_of (by omega), qup_at]
      · rw [if_neg c, qup_of (by omega), qup_of (by omega), qup_of (by omega)]
    split
    · rename_i z0 z
      refine NI_to (N := S t 8) (L := S t 9) (dp := S 9 13 - 1) (w := S 9 9) (od := S 9 10) (by rw [qup_of (by omega), qup_of (by omega)]) (by rw [qup_of (by omega), qup_of (by omega)]) (by rw [qup_of (by omega), qup_at]) (by rw [qup_of (by omega), qup_of (by omega)]) (by rw [qup_of (by omega), qup_of (by omega)]) (fun i => by rw [qup_of (by omega), qup_of (by omega)]) (fun i => by rw [qup_of (by omega), qup_of (by omega)]) (fun i => ?_) (fun i => by rw [qup_of (by omega), qup_of (by omega)]) (NIs_close (w := S 9 9) (by omega) z.1 b2.2 q)
      try dsimp only
      by_cases c : i = S 11 (S 9 13 - 1)
      · rw [if_pos c, c, qup_at]
      · rw [if_neg c, qup_of (by omega), qup_of (by omega)]
    generalize (if T.1 = 2 then kOf T.2.2 else -1) = kd at *
    unfold tOw
    split
    · exact fl 2
    split
    · exact fl 5
    split
    · exact fl 6
    · exact NI_ad ht w bb q
  split
  · rename_i w
    have kw := (x.2 (by omega)).2.2.2.2.2.2.2.1 w
    unfold tBr
    split
    · refine NI_to (N := S t 8) (L := S t 9) (dp := S 9 13 + 1) (w := 2) (od := S 9 10) (by rw [qup_of (by omega), qup_of (by omega), qup_of (by omega)]) (by rw [qup_of (by omega), qup_of (by omega), qup_of (by omega)]) (by rw [qup_of (by omega), qup_at]) qup_at (by rw [qup_of (by omega), qup_of (by omega), qup_of (by omega)]) (fun i => ?_) (fun i => by rw [qup_of (by omega), qup_of (by omega), qup_of (by omega)]) (fun i => by rw [qup_of (by omega), qup_of (by omega), qup_of (by omega)]) (fun i => by rw [qup_of (by omega), qup_of (by omega), qup_of (by omega)]) (NIs_brace (w := S 9 9) b2.1 (by omega) (by decide) kw.1 b1.1 q)
      try dsimp only
      by_cases c : i = S 9 13
      · rw [if_pos c, c, qup_of (by omega), qup_of (by omega), qup_at]
      · rw [if_neg c, qup_of (by omega), qup_of (by omega), qup_of (by omega)]
    · exact fl 2
  split
  · rename_i w
    unfold tSi
    split
    · exact NI_fr (NIs_hi (w := S 9 9) (w1 := 5) (by omega) (by decide) q) (by rw [qup_at]) (Fr.up (Fr.up Fr.rf (by omega)) (by omega)) ht
    split
    · exact NI_fr (NIs_hi (w := S 9 9) (w1 := 5) (by omega) (by decide) q) (by rw [qup_at]) (Fr.up (Fr.up Fr.rf (by omega)) (by omega)) ht
    · exact fl 2
  · have w5 : 5 ≤ S 9 9 := by omega
    have xw := x.2 (by omega)
    unfold tNu
    split
    · exact NI_fr q (by rw [qup_of (by omega)]) (Fr.up Fr.rf (by omega)) ht
    split
    · exact fl 2
    split
    · exact fl 4
    · have wr := wRw_bd (w := S 9 9)
      have key : NIs (S t 8) (S t 9) (S 9 13) (wNx (S 9 9)) (S 9 10) (S 11) (S (t + 1)) (S (t + 6)) (S (t + 7)) := by
        have cs : S 9 9 = 5 ∨ S 9 9 = 6 ∨ S 9 9 = 7 ∨ S 9 9 = 8 ∨ S 9 9 = 9 ∨ S 9 9 = 10 := by omega
        unfold okW at xw
        have hi : 3 ≤ wNx (S 9 9) → NIs (S t 8) (S t 9) (S 9 13) (wNx (S 9 9)) (S 9 10) (S 11) (S (t + 1)) (S (t + 6)) (S (t + 7)) := fun c => NIs_hi (w := S 9 9) (by omega) c q
        have lo : wNx (S 9 9) < 3 → ¬ S (t + 1) (S 9 10) = 10 → NIs (S t 8) (S t 9) (S 9 13) (wNx (S 9 9)) (S 9 10) (S 11) (S (t + 1)) (S (t + 6)) (S (t + 7)) := fun c c2 => NIs_done (w := S 9 9) (od := S 9 10) b2.1 (by omega) c c2 q
        have wv : (S 9 9 = 5 → wNx (S 9 9) = 2) ∧ (S 9 9 = 6 → wNx (S 9 9) = 2) ∧ (S 9 9 = 7 → wNx (S 9 9) = 5) ∧ (S 9 9 = 8 → wNx (S 9 9) = 9) ∧ (S 9 9 = 9 → wNx (S 9 9) = 5) ∧ (S 9 9 = 10 → wNx (S 9 9) = 3) := by
          refine ⟨fun z => ?_, fun z => ?_, fun z => ?_, fun z => ?_, fun z => ?_, fun z => ?_⟩ <;> rw [z] <;> rfl
        generalize wNx (S 9 9) = wn at *
        rcases cs with c | c | c | c | c | c
        · exact lo (by omega) (by omega)
        · exact lo (by omega) (by omega)
        · exact hi (by omega)
        · exact hi (by omega)
        · exact hi (by omega)
        · exact hi (by omega)
      exact NI_fr key (by rw [qup_of (by omega), qup_at]) (Fr.up (Fr.up (Fr.up Fr.rf (by omega)) (by omega)) (by omega)) ht
end
theorem Rch_ni {B : Int → Int} {n t : Int} {S0 S : qM} (ht : isT t) (iv0 : IV n t S0) (tx0 : TXI t S0) (n0 : NI t S0) (r : Rch B n t S0 S) : NI t S := by
  have tn : t ≠ 9 ∧ t ≠ 11 ∧ 40 ≤ t := by rcases ht with e | e <;> omega
  obtain ⟨k, ek⟩ := r
  subst ek
  induction k with
  | zero => exact n0
  | succ k ih =>
    obtain ⟨iv, tx⟩ := Rch_all (B := B) (S := its B n t k S0) ht iv0 tx0 ⟨k, rfl⟩
    show NI t (stp B n t (its B n t k S0))
    generalize its B n t k S0 = U at *
    have pb := iv.2.2.2.2.2.2.2.2.1
    have ab := tkA_bd (B := B) pb.2
    have tb := tkR_bd (B := B) (n := n) (a := tkA B n (U 9 5)) ab.2
    have i1 := IV_pos ht (q := (tkR B n (tkA B n (U 9 5))).2.1) (by omega) (by omega) iv
    have x1 : TXI t (qup U 9 5 (tkR B n (tkA B n (U 9 5))).2.1) := TXI_fr tx (by rw [qup_of (by omega)]) (by rw [qup_of (by omega)]) (by rw [qup_of (by omega)]) (fun j i _ _ => by rw [qup_of (by omega)])
    have y1 : NI t (qup U 9 5 (tkR B n (tkA B n (U 9 5))).2.1) := NI_fr ih (by rw [qup_of (by omega)]) (Fr.up Fr.rf (by omega)) ht
    unfold stp
    split
    · exact ih
    split
    · exact NI_fr y1 (by rw [qup_of (by omega)]) (Fr.up Fr.rf (by omega)) ht
    · refine NI_tak ht (IV_b i1) ?_ x1 y1
      exact i1.2.2.2.2.2.2.2.2.2.2.2.2.2
theorem rd0_ni {t n : Int} {h : qM} (ht : isT t) : NI t (rd0 t n h) := by
  obtain ⟨a1, a2, a3, a4, a5, a6, a7, a8⟩ := rd0_at (n := n) (h := h) ht
  have a9 : rd0 t n h 9 13 = 0 := by rcases ht with rfl | rfl <;> simp [rd0, qup]
  refine NI_to (op := rd0 t n h 11) (k := rd0 t n h (t + 1)) (e := rd0 t n h (t + 6)) (le := rd0 t n h (t + 7)) a5 a6 a9 a4 rfl (fun _ => rfl) (fun _ => rfl) (fun _ => rfl) (fun _ => rfl) ⟨fun c => absurd c (by decide), fun i i0 i1 => ?_, fun i i0 i1 => by omega, fun l l0 l1 => by omega⟩
  have e : i = 0 := by omega
  subst e
  unfold bsv lbv tpv
  rw [if_pos rfl, if_pos rfl, if_pos rfl, if_neg (by decide)]
  exact ⟨by decide, by decide, Nd_no (by decide)⟩
/-- how the orders of a text that was read lie -/
def NL (t : Int) (S : qM) : Prop := ∀ l, 0 ≤ l → l < S t 9 → 0 ≤ lbv (S (t + 7)) l ∧ lbv (S (t + 7)) l ≤ S (t + 7) l ∧ S (t + 7) l ≤ S t 8 ∧ Nd (S (t + 1)) (S (t + 6)) 3 (lbv (S (t + 7)) l) (S (t + 7) l)
theorem read_nl {B : Int → Int} {n t : Int} {S h : qM} (ht : isT t) (n0 : 0 ≤ n) (ng : 0 ≤ h 2 8 ∧ h 2 8 ≤ 8) (r : Rch B n t (rd0 t n h) S) (w : S 9 9 = 0) : NL t S := by
  have z := Rch_ni ht (rd0_iv ht n0 ng) (rd0_txi ht) (rd0_ni ht) r
  obtain ⟨iv, _⟩ := Rch_all ht (rd0_iv ht n0 ng) (rd0_txi ht) r
  have d0 := iv.2.2.2.2.2.2.2.2.2.2.2.2.2 (by omega)
  intro l l0 l1
  have x := z.2.2.2 l l0 l1
  have y := z.2.1 0 (by decide) (by omega)
  have e1 : bsv (S t 9) (S 11) (S (t + 7)) 0 = lbv (S (t + 7)) (S t 9) := by unfold bsv; rw [if_pos rfl]
  have e2 : tpv (S t 8) (S 9 13) (S 9 9) (S 11) 0 = S t 8 := by
    unfold tpv
    rw [if_pos d0.symm, if_neg (by omega)]
  rw [e1, e2] at y
  exact ⟨x.1, x.2.1, by omega, x.2.2.2⟩
