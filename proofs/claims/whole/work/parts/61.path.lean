/-! PATHS: the class -/
theorem qi2b_id {v : Int} (h0 : -128 ≤ v) (h1 : v ≤ 127) : qi2b v = v := by
  unfold qi2b
  rw [Int8.toInt_toInt32, Int32.toInt_toInt8, q_toI ⟨by omega, by omega⟩, Int.bmod_def]
  split <;> omega
theorem qishl_3s {a : Int} (h0 : -200000000 ≤ a) (h1 : a ≤ 200000000) : qishl a 3 = 8 * a := by
  unfold qishl
  show (BitVec.ofInt 32 a <<< ((BitVec.ofInt 32 3 &&& BitVec.ofInt 32 31).smod 32#32)).toInt = _
  rw [BitVec.shiftLeft_eq', q_sh31 (by decide) (by decide), BitVec.toInt_shiftLeft, BitVec.toNat_ofInt, Nat.shiftLeft_eq, Int.bmod_def]
  have e : ((a % ((2 ^ 32 : Nat) : Int)).toNat * 2 ^ (3 : Int).toNat : Nat) = (a % 4294967296).toNat * 8 := rfl
  rw [e]
  split <;> omega
theorem ql_andnot {s t : Int} (h0 : 0 ≤ s) (h1 : s ≤ 9223372036854775807) (h2 : 0 ≤ t) (h3 : t ≤ 9223372036854775807) : 0 ≤ qland s (qlxor t (-1)) ∧ qland s (qlxor t (-1)) ≤ s ∧ ∀ j : Int, 0 ≤ j → tb (qland s (qlxor t (-1))) j = (tb s j && !tb t j) := by
  have cm : qland s (qlxor t (-1)) = qland (qlxor t (-1)) s := by
    unfold qland
    rw [Int64.and_comm]
  have e1 : qland s (qlxor t (-1)) = (((qlxor t (-1) % 18446744073709551616).toNat &&& s.toNat : Nat) : Int) := by rw [cm, qland_nat h0 h1]
  have e2 : (qlxor t (-1) % 18446744073709551616).toNat = 18446744073709551615 - t.toNat := by
    have e3 : qlxor t (-1) = -t - 1 := by
      unfold qlxor
      show (BitVec.ofInt 64 t ^^^ BitVec.ofInt 64 (-1)).toInt = _
      have e4 : BitVec.ofInt 64 (-1) = BitVec.allOnes 64 := by decide
      rw [e4, BitVec.xor_allOnes, BitVec.toInt_not, BitVec.toNat_ofInt, Int.bmod_def]
      have e5 : (t % ((2 ^ 64 : Nat) : Int)).toNat = t.toNat := by omega
      rw [e5]
      split <;> omega
    rw [e3]
    omega
  have hle := Nat.and_le_right (n := (qlxor t (-1) % 18446744073709551616).toNat) (m := s.toNat)
  rw [e1]
  refine ⟨by omega, by omega, fun j hj => ?_⟩
  unfold tb
  rw [Int.toNat_natCast, Nat.testBit_and, e2]
  have e6 : 18446744073709551615 - t.toNat = 2 ^ 64 - (t.toNat + 1) := by omega
  rw [e6, Nat.testBit_two_pow_sub_succ (by omega)]
  by_cases hj2 : j.toNat < 64
  · simp [hj2, Bool.and_comm]
  · have e7 : s.toNat.testBit j.toNat = false := Nat.testBit_lt_two_pow (Nat.lt_of_lt_of_le (show s.toNat < 2 ^ 64 by omega) (Nat.pow_le_pow_right (by decide) (by omega)))
    simp [e7]
theorem tb_1l {m j : Int} (h2 : 0 ≤ m) (h3 : m < 60) (hj : 0 ≤ j) : (0 ≤ qlshl 1 m ∧ qlshl 1 m ≤ 1152921504606846975) ∧ tb (qlshl 1 m) j = decide (j = m) := by
  have hp : (2 : Nat) ^ m.toNat ≤ 2 ^ 59 := Nat.pow_le_pow_right (by decide) (by omega)
  rw [qlshl_1 h2 (by omega)]
  refine ⟨⟨Int.natCast_nonneg _, Int.le_trans (Int.ofNat_le.mpr hp) (by decide)⟩, ?_⟩
  unfold tb
  rw [Int.toNat_natCast, Nat.testBit_two_pow]
  by_cases e : j = m
  · simp [e]
  · have e2 : ¬ m.toNat = j.toNat := by omega
    simp [e, e2]
def fre (p : Int → Int → Int) (bE bN : Int → Int) (M m e n : Int) : Prop := (0 ≤ e ∧ e < 60 ∧ 0 ≤ n ∧ n < 40) ∧ ((e = bE m ∧ n = bN m) ∨ (p e n = 0 ∧ ∀ k, 0 ≤ k → k < M → k ≠ m → ¬ (bE k = e ∧ bN k = n)))
theorem fre_g {p : Int → Int → Int} {bE bN : Int → Int} {M m : Int} : gOk (fre p bE bN M m) := fun _ _ h => h.1
section
variable {X : qX} {d : Nat} {sh : qS} {pt h : qM} {p : Int → Int → Int} {bE bN : Int → Int} {M m : Int}
theorem x_bar {K : qM → Prop} (hst : St sh pt) (hM : h 2 3 = M) (M0 : 0 ≤ M) (M1 : M ≤ 20) (m0 : 0 ≤ m) (m1 : m < M) (hb : ∀ k, 0 ≤ k → k < M → h 3 k = bE k ∧ h 4 k = bN k ∧ 0 ≤ bE k ∧ bE k < 60 ∧ 0 ≤ bN k ∧ bN k < 40) (hp1 : ∀ n, 0 ≤ n → n < 40 → 0 ≤ h 6 n ∧ h 6 n ≤ 1152921504606846975) (hp : ∀ e n, 0 ≤ e → e < 60 → 0 ≤ n → n < 40 → (tb (h 6 n) e = true ↔ p e n ≠ 0))
    (k : ∀ h1, Fr (fun a _ => a = 29) h h1 → (∀ n, 0 ≤ n → n < 40 → 0 ≤ h1 29 n ∧ h1 29 n ≤ 1152921504606846975) → (∀ e n, 0 ≤ e → e < 60 → 0 ≤ n → n < 40 → (tb (h1 29 n) e = false ↔ fre p bE bN M m e n)) → K h1) : RunV X (d + 1) mX9_bar [(2, 28), (2, 2), (0, m)] sh pt h K := by
  refine b_X9_bar hst ⟨by decide, fun h1 e1 => ?_⟩
  refine lp (σ := qM) (J := fun i h2 => Fr (fun a _ => a = 29) h h2 ∧ (∀ n, 0 ≤ n → n < 40 → 0 ≤ h2 29 n ∧ h2 29 n ≤ 1152921504606846975) ∧ ∀ e n, 0 ≤ e → e < 60 → 0 ≤ n → n < 40 → (tb (h2 29 n) e = true ↔ (p e n ≠ 0 ∨ ∃ j, 0 ≤ j ∧ j < i ∧ bE j = e ∧ bN j = n))) (C := fun i h2 => EvV X (d + 1) mX9_bar 17 [(2, 28), (2, 2), (0, m), (0, i)] [] sh pt h2 K) M0 ?_ ?_ h1 ?_
  · intro i h2 i0 i1 ⟨f2, j1, j2⟩ kk
    have z := hb i i0 i1
    have e3 : h2 3 i = bE i ∧ h2 4 i = bN i ∧ h2 2 3 = M := ⟨by rw [f2 _ _ (by omega)]; exact z.1, by rw [f2 _ _ (by omega)]; exact z.2.1, by rw [f2 _ _ (by omega)]; exact hM⟩
    refine b_X9_bar_17 hst ⟨fun q => absurd q (by omega), fun _ => ?_⟩
    rw [e3.1, e3.2.1]
    have o := ql_or1 (s := h2 29 (bN i)) (m := bE i) (j1 _ (by omega) (by omega)).1 (j1 _ (by omega) (by omega)).2 (by omega) (by omega)
    refine ⟨by omega, by omega, by omega, by omega, fun h3 g3 => ⟨⟨by omega, by omega⟩, kk h3 ⟨by rw [g3]; exact f2.up rfl, fun n n0 n1 => ?_, fun e n e0 e1 n0 n1 => ?_⟩⟩⟩
    · by_cases q : n = bN i
      · rw [q, g3, qup_at]; exact ⟨o.1, o.2.1⟩
      · rw [g3, qup_of (by omega)]; exact j1 n n0 n1
    · by_cases q : n = bN i
      · rw [q, g3, qup_at, o.2.2 e e0]
        have w := j2 e (bN i) e0 e1 (by omega) (by omega)
        constructor
        · intro y
          rcases Bool.or_eq_true _ _ |>.mp y with y | y
          · rcases w.mp y with y | ⟨j, a, b, c⟩
            · exact Or.inl y
            · exact Or.inr ⟨j, a, by omega, c⟩
          · exact Or.inr ⟨i, i0, by omega, (of_decide_eq_true y).symm, rfl⟩
        · intro y
          rcases y with y | ⟨j, a, b, c⟩
          · rw [w.mpr (Or.inl y)]; rfl
          · by_cases q2 : j = i
            · rw [q2] at c
              rw [decide_eq_true c.1.symm, Bool.or_true]
            · rw [w.mpr (Or.inr ⟨j, a, by omega, c⟩)]; rfl
      · rw [g3, qup_of (by omega)]
        refine (j2 e n e0 e1 n0 n1).trans ⟨fun y => ?_, fun y => ?_⟩
        · rcases y with y | ⟨j, a, b, c⟩
          · exact Or.inl y
          · exact Or.inr ⟨j, a, by omega, c⟩
        · rcases y with y | ⟨j, a, b, c⟩
          · exact Or.inl y
          · by_cases q2 : j = i
            · rw [q2] at c
              exact absurd c.2.symm q
            · exact Or.inr ⟨j, a, by omega, c⟩
  · intro h2 ⟨f2, j1, j2⟩
    have z := hb m m0 m1
    have e3 : h2 3 m = bE m ∧ h2 4 m = bN m ∧ h2 2 3 = M := ⟨by rw [f2 _ _ (by omega)]; exact z.1, by rw [f2 _ _ (by omega)]; exact z.2.1, by rw [f2 _ _ (by omega)]; exact hM⟩
    refine b_X9_bar_17 hst ⟨fun _ => ?_, fun q => absurd q (by omega)⟩
    rw [e3.1, e3.2.1]
    have jj := j1 (bN m) (by omega) (by omega)
    have t1 := fun j (hj : 0 ≤ j) => tb_1l (m := bE m) (j := j) (by omega) (by omega) hj
    have o := ql_andnot (s := h2 29 (bN m)) (t := qlshl 1 (bE m)) jj.1 (by omega) (t1 0 (by decide)).1.1 (by have := (t1 0 (by decide)).1.2; omega)
    refine ⟨by omega, by omega, by omega, by omega, fun h3 g3 => k h3 (by rw [g3]; exact f2.up rfl) (fun n n0 n1 => ?_) (fun e n e0 e1 n0 n1 => ?_)⟩
    · by_cases q : n = bN m
      · rw [q, g3, qup_at]; exact ⟨o.1, by have := o.2.1; omega⟩
      · rw [g3, qup_of (by omega)]; exact j1 n n0 n1
    · have bit : tb (h3 29 n) e = false ↔ ((e = bE m ∧ n = bN m) ∨ tb (h2 29 n) e = false) := by
        by_cases q : n = bN m
        · rw [q, g3, qup_at, o.2.2 e e0, (t1 e e0).2]
          by_cases q2 : e = bE m
          · simp [q2]
          · simp [q2]
        · rw [g3, qup_of (by omega)]
          constructor
          · exact Or.inr
          · intro y
            rcases y with y | y
            · exact absurd y.2 q
            · exact y
      rw [bit]
      have w := j2 e n e0 e1 n0 n1
      have w2 : tb (h2 29 n) e = false ↔ ¬ (p e n ≠ 0 ∨ ∃ j, 0 ≤ j ∧ j < M ∧ bE j = e ∧ bN j = n) := by
        rw [← w]
        simp
      rw [w2]
      constructor
      · intro y
        refine ⟨⟨e0, e1, n0, n1⟩, ?_⟩
        rcases y with y | y
        · exact Or.inl y
        · exact Or.inr ⟨Classical.not_not.mp (fun q => y (Or.inl q)), fun k k0 k1 _ q => y (Or.inr ⟨k, k0, k1, q⟩)⟩
      · intro ⟨_, y⟩
        by_cases q : e = bE m ∧ n = bN m
        · exact Or.inl q
        · rcases y with y | y
          · exact Or.inl y
          · refine Or.inr (fun z => ?_)
            rcases z with z | ⟨j, a, b, c⟩
            · exact z y.1
            · by_cases q2 : j = m
              · rw [q2] at c
                exact q ⟨c.1.symm, c.2.symm⟩
              · exact y.2 j a b q2 c
  · have ec : ∀ n, 0 ≤ n → n < 40 → h1 29 n = h 6 n := fun n a b => by rw [e1, qcp_at ⟨a, by omega⟩, show (0 : Int) + (n - 0) = n by omega]
    refine ⟨fun a i q => by rw [e1, qcp_of (fun z => q z.1)], fun n a b => by rw [ec n a b]; exact hp1 n a b, fun e n a b c f => ?_⟩
    rw [ec n c f]
    refine (hp e n a b c f).trans ⟨Or.inl, fun y => ?_⟩
    rcases y with y | ⟨j, u, v, w⟩
    · exact y
    · omega
def PV (a i : Int) : Prop := a = 136 ∨ a = 137 ∨ (a = 28 ∧ i = 5)
def XB (h : qM) (σ : bq) : Prop := h 28 5 = σ.1 ∧ (∀ i, 0 ≤ i → i < σ.1 → h 137 i = σ.2.1 i) ∧ ∀ t, 0 ≤ t → t < 19200 → h 136 t = σ.2.2.1 t
theorem x_visit {K : qM → Prop} {σ : bq} {t k s : Int} (hst : St sh pt) (hsw : Sw sh pt) (xb : XB h σ) (t0 : 0 ≤ t) (t1 : t < 19200) (k0 : 0 ≤ k) (k1 : k ≤ 3) (ta : 0 ≤ σ.1) (rm : σ.2.2.1 t = 0 → σ.1 < 19200) (kk : ∀ h1, Fr PV h h1 → XB h1 (vis t k s σ) → K h1) : RunV X d mX9_visit [(2, 28), (0, t), (0, k)] sh pt h K := by
  obtain ⟨x1, x2, x3⟩ := xb
  refine b_X9_visit hst hsw ⟨⟨t0, t1⟩, ?_⟩
  rw [x3 t t0 t1, x1]
  refine ⟨fun q => kk h Fr.rf (by rw [vis_o t0 q]; exact ⟨x1, x2, x3⟩), fun q => ⟨fun q2 => absurd q2 (by have := rm q; omega), fun q2 => ⟨⟨by omega, by omega⟩, ⟨t0, t1⟩, ?_⟩⟩⟩
  rw [qi2b_id (by omega) (by omega)]
  refine ⟨⟨by omega, by omega⟩, fun h4 e4 => ?_⟩
  have a4 : h4 28 5 = σ.1 := by rw [e4, qup_of (by omega)]; exact x1
  rw [a4]
  refine ⟨⟨ta, q2⟩, fun h6 e6 => ?_⟩
  have a6 : h6 28 5 = σ.1 := by rw [e6, qup_of (by omega)]; exact a4
  rw [a6]
  refine ⟨⟨by omega, by omega⟩, fun h7 e7 => kk h7 ?_ ?_⟩
  · rw [e7, e6, e4]
    exact ((Fr.rf.up (Or.inl rfl)).up (Or.inr (Or.inl rfl))).up (Or.inr (Or.inr ⟨rfl, rfl⟩))
  · rw [vis_y t0 q]
    refine ⟨by rw [e7, qup_at], fun i i0 i1 => ?_, fun u u0 u1 => ?_⟩
    · dsimp only at i1 ⊢
      by_cases e : i = σ.1
      · rw [e, e7, e6, qup_of (by omega), qup_at, rup_at]
      · rw [e7, e6, e4, qup_of (by omega), qup_of (by omega), qup_of (by omega), rup_of e]
        exact x2 i i0 (by omega)
    · dsimp only
      by_cases e : u = t
      · rw [e, e7, e6, e4, qup_of (by omega), qup_of (by omega), qup_at, rup_at]
      · rw [e7, e6, e4, qup_of (by omega), qup_of (by omega), qup_of (by omega), rup_of e]
        exact x3 u u0 u1
theorem x_turned {K : Int → qM → Prop} {s v : Int} (hst : St sh pt) (s0 : 0 ≤ s) (s1 : s < 19200) (hv : v = 1 ∨ v = -1) (k : K (8 * (s / 8) + (s + v) % 8) h) : RunI X d mX9_turned [(0, s), (0, v)] sh pt h K := by
  refine b_X9_turned hst ⟨⟨by omega, by omega⟩, ?_⟩
  rw [qiand_m8 s0 (by omega), qiand_7, show s - s % 8 = 8 * (s / 8) by omega, qior_8 (by omega) (by omega) (by omega) (by omega)]
  exact k
theorem qst_bd {f : Int} (f0 : 0 ≤ f) (f1 : f < 8) : (-1 ≤ qstE f ∧ qstE f ≤ 1) ∧ (-1 ≤ qstN f ∧ qstN f ≤ 1) := by
  rcases w8 f0 f1 with rfl | rfl | rfl | rfl | rfl | rfl | rfl | rfl <;> decide
theorem x_visitAhead {K : qM → Prop} {fr : Int → Int → Prop} {σ : bq} {s : Int} (hst : St sh pt) (hsw : Sw sh pt) (g : gOk fr) (xb : XB h σ) (s0 : 0 ≤ s) (s1 : s < 19200) (ta : 0 ≤ σ.1) (rm : ∀ t, 0 ≤ t → t < 19200 → σ.2.2.1 t = 0 → σ.1 < 19200) (hb1 : ∀ n, 0 ≤ n → n < 40 → 0 ≤ h 29 n ∧ h 29 n ≤ 1152921504606846975) (hb2 : ∀ e n, 0 ≤ e → e < 60 → 0 ≤ n → n < 40 → (tb (h 29 n) e = false ↔ fr e n)) (kk : ∀ h1, Fr PV h h1 → XB h1 (vis (nx fr s 0) 0 s σ) → K h1) : RunV X (d + 1) mX9_visitAhead [(2, 28), (0, s)] sh pt h K := by
  have q3 : qishr s 3 = s / 8 := qishr_3 ⟨by omega, by omega⟩
  have q7 : qiand s 7 = s % 8 := qiand_7
  have st := qst_bd (f := s % 8) (by omega) (by omega)
  refine b_X9_visitAhead hst ?_
  rw [q3, q7]
  refine ⟨by omega, b_X2_eastStep hst ?_⟩
  rw [q7]
  refine ⟨by omega, ⟨by omega, by omega⟩, fun x ex => ⟨by omega, b_X2_northStep hst ?_⟩⟩
  rw [q7]
  refine ⟨by omega, ⟨by omega, by omega⟩, fun y ey => ?_⟩
  have no : ¬ fr x y → K h := fun q => kk h Fr.rf (by rw [nx_n (by rw [← ex, ← ey]; exact q), vis_n (by decide)]; exact xb)
  refine b_X2_isSpot hst ⟨fun a => ⟨fun _ => no (fun q => by have := g _ _ q; omega), fun z => absurd rfl z⟩, fun a => ⟨fun b => ⟨fun _ => no (fun q => by have := g _ _ q; omega), fun z => absurd rfl z⟩, fun b => ⟨fun c => ⟨fun _ => no (fun q => by have := g _ _ q; omega), fun z => absurd rfl z⟩, fun c => ⟨fun e => ⟨fun _ => no (fun q => by have := g _ _ q; omega), fun z => absurd rfl z⟩, fun e => ⟨fun z => absurd z (by decide), fun _ => ⟨⟨c, e⟩, ?_⟩⟩⟩⟩⟩⟩
  have bb := hb1 y c e
  have bit := ql_bit (s := h 29 y) (m := x) bb.1 (by omega) a (by omega)
  have w := hb2 x y a b c e
  rw [bit]
  by_cases t : tb (h 29 y) x = true
  · rw [if_pos t]
    exact ⟨fun _ => no (fun q => by rw [w.mpr q] at t; exact absurd t (by decide)), fun z => absurd z (by decide)⟩
  · rw [if_neg t]
    have f : fr x y := w.mp (by simpa using t)
    refine ⟨fun z => absurd rfl z, fun _ => b_X2_spot hst ⟨⟨by omega, by omega⟩, ⟨by omega, by omega⟩, ?_⟩⟩
    rw [qishl_3 (by omega) (by omega), qior_8 (by omega) (by omega) (by omega) (by omega)]
    have en : nx fr s 0 = 8 * (x * 40 + y) + s % 8 := by
      rw [nx_f (by rw [← ex, ← ey]; exact f), ← ex, ← ey]
      omega
    rw [← en]
    exact x_visit hst hsw xb (by omega) (by omega) (by decide) (by decide) ta (fun q => rm _ (by omega) (by omega) q) kk
end
