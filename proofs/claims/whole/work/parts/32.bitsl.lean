/-! bits of longs -/
theorem qland_nat {a m : Int} (h0 : 0 ≤ m) (h1 : m ≤ 9223372036854775807) : qland a m = (((a % 18446744073709551616).toNat &&& m.toNat : Nat) : Int) := by
  unfold qland
  show (BitVec.ofInt 64 a &&& BitVec.ofInt 64 m).toInt = _
  rw [BitVec.toInt_eq_toNat_cond, BitVec.toNat_and, BitVec.toNat_ofInt, BitVec.toNat_ofInt]
  have e1 : (m % ((2 ^ 64 : Nat) : Int)).toNat = m.toNat := by omega
  have e2 : (a % ((2 ^ 64 : Nat) : Int)).toNat = (a % 18446744073709551616).toNat := by omega
  rw [e1, e2]
  have h := Nat.and_le_right (n := (a % 18446744073709551616).toNat) (m := m.toNat)
  rw [if_pos (by omega)]
theorem qland_1 {a : Int} : qland a 1 = a % 2 := by
  rw [qland_nat (by decide) (by decide)]
  have e : (1 : Int).toNat = 2 ^ 1 - 1 := by decide
  rw [e, Nat.and_two_pow_sub_one_eq_mod]
  omega
theorem qland_31 {a : Int} : qland a 31 = a % 32 := by
  rw [qland_nat (by decide) (by decide)]
  have e : (31 : Int).toNat = 2 ^ 5 - 1 := by decide
  rw [e, Nat.and_two_pow_sub_one_eq_mod]
  omega
theorem qlor_nat {a b : Int} (h0 : 0 ≤ a) (h1 : a ≤ 9223372036854775807) (h2 : 0 ≤ b) (h3 : b ≤ 9223372036854775807) : qlor a b = ((a.toNat ||| b.toNat : Nat) : Int) := by
  unfold qlor
  show (BitVec.ofInt 64 a ||| BitVec.ofInt 64 b).toInt = _
  rw [BitVec.toInt_eq_toNat_cond, BitVec.toNat_or, BitVec.toNat_ofInt, BitVec.toNat_ofInt]
  have e1 : (a % ((2 ^ 64 : Nat) : Int)).toNat = a.toNat := by omega
  have e2 : (b % ((2 ^ 64 : Nat) : Int)).toNat = b.toNat := by omega
  rw [e1, e2]
  have h := Nat.or_lt_two_pow (n := 63) (x := a.toNat) (y := b.toNat) (by omega) (by omega)
  rw [if_pos (by omega)]
theorem q_sh63 {k : Int} (h0 : 0 ≤ k) (h1 : k ≤ 63) : ((BitVec.ofInt 64 k &&& BitVec.ofInt 64 63).smod 64#64).toNat = k.toNat := by
  have e : k = 0 ∨ k = 1 ∨ k = 2 ∨ k = 3 ∨ k = 4 ∨ k = 5 ∨ k = 6 ∨ k = 7 ∨ k = 8 ∨ k = 9 ∨ k = 10 ∨ k = 11 ∨ k = 12 ∨ k = 13 ∨ k = 14 ∨ k = 15 ∨ k = 16 ∨ k = 17 ∨ k = 18 ∨ k = 19 ∨ k = 20 ∨ k = 21 ∨ k = 22 ∨ k = 23 ∨ k = 24 ∨ k = 25 ∨ k = 26 ∨ k = 27 ∨ k = 28 ∨ k = 29 ∨ k = 30 ∨ k = 31 ∨ k = 32 ∨ k = 33 ∨ k = 34 ∨ k = 35 ∨ k = 36 ∨ k = 37 ∨ k = 38 ∨ k = 39 ∨ k = 40 ∨ k = 41 ∨ k = 42 ∨ k = 43 ∨ k = 44 ∨ k = 45 ∨ k = 46 ∨ k = 47 ∨ k = 48 ∨ k = 49 ∨ k = 50 ∨ k = 51 ∨ k = 52 ∨ k = 53 ∨ k = 54 ∨ k = 55 ∨ k = 56 ∨ k = 57 ∨ k = 58 ∨ k = 59 ∨ k = 60 ∨ k = 61 ∨ k = 62 ∨ k = 63 := by omega
  rcases e with rfl | rfl | rfl | rfl | rfl | rfl | rfl | rfl | rfl | rfl | rfl | rfl | rfl | rfl | rfl | rfl | rfl | rfl | rfl | rfl | rfl | rfl | rfl | rfl | rfl | rfl | rfl | rfl | rfl | rfl | rfl | rfl | rfl | rfl | rfl | rfl | rfl | rfl | rfl | rfl | rfl | rfl | rfl | rfl | rfl | rfl | rfl | rfl | rfl | rfl | rfl | rfl | rfl | rfl | rfl | rfl | rfl | rfl | rfl | rfl | rfl | rfl | rfl | rfl <;> decide
theorem qlshl_mul {a k : Int} (h0 : 0 ≤ k) (h1 : k ≤ 63) (h2 : 0 ≤ a) (h3 : a ≤ 9223372036854775807) (h4 : a.toNat * 2 ^ k.toNat < 9223372036854775808) : qlshl a k = ((a.toNat * 2 ^ k.toNat : Nat) : Int) := by
  unfold qlshl
  rw [q_i2l ⟨by omega, by omega⟩]
  show (BitVec.ofInt 64 a <<< ((BitVec.ofInt 64 k &&& BitVec.ofInt 64 63).smod 64#64)).toInt = _
  rw [BitVec.shiftLeft_eq', q_sh63 h0 h1, BitVec.toInt_shiftLeft, BitVec.toNat_ofInt, Nat.shiftLeft_eq]
  have e1 : (a % ((2 ^ 64 : Nat) : Int)).toNat = a.toNat := by omega
  rw [e1, Int.bmod_def]
  generalize a.toNat * 2 ^ k.toNat = P at *
  split <;> omega
theorem qlshl_1 {k : Int} (h0 : 0 ≤ k) (h1 : k ≤ 62) : qlshl 1 k = ((2 ^ k.toNat : Nat) : Int) := by
  have h : (2 : Nat) ^ k.toNat ≤ 2 ^ 62 := Nat.pow_le_pow_right (by decide) (by omega)
  have e : (1 : Int).toNat * 2 ^ k.toNat = 2 ^ k.toNat := by
    show 1 * _ = _
    rw [Nat.one_mul]
  rw [qlshl_mul h0 (by omega) (by decide) (by decide) (by rw [e]; omega), e]
theorem qlshl_5 {a : Int} (h0 : 0 ≤ a) (h1 : a ≤ 200000000000000000) : qlshl a 5 = 32 * a := by
  rw [qlshl_mul (by decide) (by decide) h0 (by omega) (by show a.toNat * 2 ^ 5 < _; omega)]
  show ((a.toNat * 2 ^ 5 : Nat) : Int) = _
  omega
theorem qlshr_div {a k : Int} (ha : qL a) (h0 : 0 ≤ k) (h1 : k ≤ 63) : qlshr a k = a / (2 ^ k.toNat : Nat) := by
  unfold qlshr
  rw [q_i2l ⟨by omega, by omega⟩]
  show (BitVec.sshiftRight' (BitVec.ofInt 64 a) ((BitVec.ofInt 64 k &&& BitVec.ofInt 64 63).smod 64#64)).toInt = _
  rw [BitVec.sshiftRight_eq', q_sh63 h0 h1, BitVec.toInt_sshiftRight, Int.shiftRight_eq_div_pow]
  have e : (BitVec.ofInt 64 a).toInt = a := q_toL ha
  rw [e]
theorem qlshr_5 {a : Int} (ha : qL a) : qlshr a 5 = a / 32 := by
  rw [qlshr_div ha (by decide) (by decide)]
  rfl
theorem qlushr_div {a k : Int} (h2 : 0 ≤ a) (h3 : a ≤ 9223372036854775807) (h0 : 0 ≤ k) (h1 : k ≤ 63) : qlushr a k = a / (2 ^ k.toNat : Nat) := by
  unfold qlushr
  rw [q_i2l ⟨by omega, by omega⟩]
  have e0 : (Int64.ofInt a).toUInt64.toNat = a.toNat := by
    show (BitVec.ofInt 64 a).toNat = _
    rw [BitVec.toNat_ofInt]
    omega
  have e1 : ((Int64.ofInt k).toUInt64 &&& Int64.toUInt64 63).toNat = k.toNat := by
    show (BitVec.ofInt 64 k &&& 63#64).toNat = _
    rw [BitVec.toNat_and, BitVec.toNat_ofInt]
    have e2 : (k % ((2 ^ 64 : Nat) : Int)).toNat = k.toNat := by omega
    have e3 : (63#64).toNat = 2 ^ 6 - 1 := by decide
    rw [e2, e3, Nat.and_two_pow_sub_one_eq_mod]
    omega
  show (((Int64.ofInt a).toUInt64 >>> ((Int64.ofInt k).toUInt64 &&& Int64.toUInt64 63)).toBitVec).toInt = _
  rw [BitVec.toInt_eq_toNat_cond]
  have e4 : ((Int64.ofInt a).toUInt64 >>> ((Int64.ofInt k).toUInt64 &&& Int64.toUInt64 63)).toBitVec.toNat = a.toNat / 2 ^ k.toNat := by
    show ((Int64.ofInt a).toUInt64 >>> ((Int64.ofInt k).toUInt64 &&& Int64.toUInt64 63)).toNat = _
    rw [UInt64.toNat_shiftRight, e0, e1, Nat.mod_eq_of_lt (by omega), Nat.shiftRight_eq_div_pow]
  rw [e4]
  have h5 : a.toNat / 2 ^ k.toNat ≤ a.toNat := Nat.div_le_self _ _
  rw [if_pos (by omega), Int.natCast_ediv]
  congr 1
  omega
theorem ql_bit {s m : Int} (h0 : 0 ≤ s) (h1 : s ≤ 9223372036854775807) (h2 : 0 ≤ m) (h3 : m ≤ 63) : qland (qlushr s m) 1 = if tb s m then 1 else 0 := by rw [qland_1, qlushr_div h0 h1 h2 h3, tb_div h0]
theorem ql_or1 {s m : Int} (h0 : 0 ≤ s) (h1 : s ≤ 1152921504606846975) (h2 : 0 ≤ m) (h3 : m < 60) : 0 ≤ qlor s (qlshl 1 m) ∧ qlor s (qlshl 1 m) ≤ 1152921504606846975 ∧ ∀ j : Int, 0 ≤ j → tb (qlor s (qlshl 1 m)) j = (tb s j || decide (j = m)) := by
  have hp : (2 : Nat) ^ m.toNat ≤ 2 ^ 59 := Nat.pow_le_pow_right (by decide) (by omega)
  have hn : 0 ≤ ((2 ^ m.toNat : Nat) : Int) := Int.natCast_nonneg _
  have hu : ((2 ^ m.toNat : Nat) : Int) ≤ 9223372036854775807 := Int.le_trans (Int.ofNat_le.mpr hp) (by decide)
  rw [qlshl_1 h2 (by omega), qlor_nat h0 (by omega) hn hu, Int.toNat_natCast]
  have h := Nat.or_lt_two_pow (n := 60) (x := s.toNat) (y := 2 ^ m.toNat) (by omega) (by omega)
  refine ⟨Int.natCast_nonneg _, by omega, fun j hj => ?_⟩
  unfold tb
  rw [Int.toNat_natCast, Nat.testBit_or, Nat.testBit_two_pow]
  congr 1
  by_cases e : j = m
  · simp [e]
  · have e2 : ¬ m.toNat = j.toNat := by omega
    simp [e, e2]
theorem qup_ap {h : qM} {a i v b j : Int} : qup h a i v b j = if b = a ∧ j = i then v else h b j := rfl
/-- a set of marchers alone -/
theorem q_set0 {v m : Int} (h0 : 0 ≤ v) (h1 : v ≤ 2147483647) (h2 : 0 ≤ m) (h3 : m ≤ 20) : (qiushr v m = 0) ↔ v < qishl 1 m := by
  rw [qiushr_div h0 h1 h2 (by omega), qishl_1 h2 (by omega)]
  have hp : 0 < 2 ^ m.toNat := Nat.pow_pos (by decide)
  have e : v / ((2 ^ m.toNat : Nat) : Int) = ((v.toNat / 2 ^ m.toNat : Nat) : Int) := by
    rw [Int.natCast_ediv]
    congr 1
    omega
  rw [e]
  constructor
  · intro z
    have z1 : v.toNat / 2 ^ m.toNat = 0 := by omega
    have z2 := (Nat.div_eq_zero_iff_lt hp).mp z1
    have z3 : ((v.toNat : Nat) : Int) < ((2 ^ m.toNat : Nat) : Int) := Int.ofNat_lt.mpr z2
    omega
  · intro z
    have z2 : v.toNat < 2 ^ m.toNat := by
      have : ((v.toNat : Nat) : Int) < ((2 ^ m.toNat : Nat) : Int) := by
        rw [Int.toNat_of_nonneg h0]
        exact z
      exact Int.ofNat_lt.mp this
    rw [Nat.div_eq_of_lt z2]
    rfl
