/-! numbers as bits -/
theorem qiand_nat {a m : Int} (h0 : 0 ≤ m) (h1 : m ≤ 2147483647) : qiand a m = (((a % 4294967296).toNat &&& m.toNat : Nat) : Int) := by
  unfold qiand
  show (BitVec.ofInt 32 a &&& BitVec.ofInt 32 m).toInt = _
  rw [BitVec.toInt_eq_toNat_cond, BitVec.toNat_and, BitVec.toNat_ofInt, BitVec.toNat_ofInt]
  have e1 : (m % ((2 ^ 32 : Nat) : Int)).toNat = m.toNat := by omega
  have e2 : (a % ((2 ^ 32 : Nat) : Int)).toNat = (a % 4294967296).toNat := by omega
  rw [e1, e2]
  have h := Nat.and_le_right (n := (a % 4294967296).toNat) (m := m.toNat)
  rw [if_pos (by omega)]
theorem qiand_pow {a : Int} (k : Nat) (m : Int) (hm : m.toNat = 2 ^ k - 1) (h0 : 0 ≤ m) (h1 : m ≤ 2147483647) : qiand a m = (((a % 4294967296).toNat % 2 ^ k : Nat) : Int) := by
  rw [qiand_nat h0 h1, hm, Nat.and_two_pow_sub_one_eq_mod]
theorem qiand_1 {a : Int} : qiand a 1 = a % 2 := by
  rw [qiand_pow 1 1 (by decide) (by decide) (by decide)]
  omega
theorem qiand_3 {a : Int} : qiand a 3 = a % 4 := by
  rw [qiand_pow 2 3 (by decide) (by decide) (by decide)]
  omega
theorem qiand_7 {a : Int} : qiand a 7 = a % 8 := by
  rw [qiand_pow 3 7 (by decide) (by decide) (by decide)]
  omega
theorem qiand_63 {a : Int} : qiand a 63 = a % 64 := by
  rw [qiand_pow 6 63 (by decide) (by decide) (by decide)]
  omega
theorem qiand_255 {a : Int} : qiand a 255 = a % 256 := by
  rw [qiand_pow 8 255 (by decide) (by decide) (by decide)]
  omega
theorem qiand_comm {a b : Int} : qiand a b = qiand b a := by
  unfold qiand
  rw [Int32.and_comm]
theorem nat_and_m8 {a : Nat} (h : a < 4294967296) : a &&& 4294967288 = a - a % 8 := by
  have e1 : a - a % 8 = (a >>> 3) <<< 3 := by
    rw [Nat.shiftLeft_eq, Nat.shiftRight_eq_div_pow]
    omega
  rw [e1]
  apply Nat.eq_of_testBit_eq
  intro i
  rw [Nat.testBit_and, Nat.testBit_shiftLeft, Nat.testBit_shiftRight]
  have e2 : (4294967288 : Nat) = (2 ^ 29 - 1) <<< 3 := by decide
  rw [e2, Nat.testBit_shiftLeft, Nat.testBit_two_pow_sub_one]
  by_cases h3 : 3 ≤ i
  · have e3 : 3 + (i - 3) = i := by omega
    rw [e3]
    by_cases h4 : i < 32
    · have e4 : i - 3 < 29 := by omega
      simp [h3, e4]
    · have e5 : a.testBit i = false := Nat.testBit_lt_two_pow (Nat.lt_of_lt_of_le h (by
        have : (4294967296 : Nat) = 2 ^ 32 := by decide
        rw [this]
        exact Nat.pow_le_pow_right (by decide) (by omega)))
      simp [e5]
  · simp [h3]
theorem qiand_m8 {a : Int} (h0 : 0 ≤ a) (h1 : a ≤ 2147483647) : qiand a (-8) = a - a % 8 := by
  rw [qiand_comm, qiand_nat h0 h1]
  have e1 : ((-8 : Int) % 4294967296).toNat = 4294967288 := by decide
  rw [e1, Nat.and_comm, nat_and_m8 (by omega)]
  omega
theorem qior_nat {a b : Int} (h0 : 0 ≤ a) (h1 : a ≤ 2147483647) (h2 : 0 ≤ b) (h3 : b ≤ 2147483647) : qior a b = ((a.toNat ||| b.toNat : Nat) : Int) := by
  unfold qior
  show (BitVec.ofInt 32 a ||| BitVec.ofInt 32 b).toInt = _
  rw [BitVec.toInt_eq_toNat_cond, BitVec.toNat_or, BitVec.toNat_ofInt, BitVec.toNat_ofInt]
  have e1 : (a % ((2 ^ 32 : Nat) : Int)).toNat = a.toNat := by omega
  have e2 : (b % ((2 ^ 32 : Nat) : Int)).toNat = b.toNat := by omega
  rw [e1, e2]
  have h := Nat.or_lt_two_pow (n := 31) (x := a.toNat) (y := b.toNat) (by omega) (by omega)
  rw [if_pos (by omega)]
theorem nat_or_8 {s b : Nat} (h : b < 8) : 8 * s ||| b = 8 * s + b := by
  have e := Nat.shiftLeft_add_eq_or_of_lt (i := 3) (b := b) (by omega) s
  rw [Nat.shiftLeft_eq] at e
  have e2 : 8 * s = s * 2 ^ 3 := by omega
  rw [e2, ← e]
theorem qior_8 {s b : Int} (h0 : 0 ≤ s) (h1 : s ≤ 200000000) (h2 : 0 ≤ b) (h3 : b < 8) : qior (8 * s) b = 8 * s + b := by
  rw [qior_nat (by omega) (by omega) h2 (by omega)]
  have e : (8 * s).toNat = 8 * s.toNat := by omega
  rw [e, nat_or_8 (by omega)]
  omega
theorem q_sh31 {k : Int} (h0 : 0 ≤ k) (h1 : k ≤ 31) : ((BitVec.ofInt 32 k &&& BitVec.ofInt 32 31).smod 32#32).toNat = k.toNat := by
  have e : k = 0 ∨ k = 1 ∨ k = 2 ∨ k = 3 ∨ k = 4 ∨ k = 5 ∨ k = 6 ∨ k = 7 ∨ k = 8 ∨ k = 9 ∨ k = 10 ∨ k = 11 ∨ k = 12 ∨ k = 13 ∨ k = 14 ∨ k = 15 ∨ k = 16 ∨ k = 17 ∨ k = 18 ∨ k = 19 ∨ k = 20 ∨ k = 21 ∨ k = 22 ∨ k = 23 ∨ k = 24 ∨ k = 25 ∨ k = 26 ∨ k = 27 ∨ k = 28 ∨ k = 29 ∨ k = 30 ∨ k = 31 := by omega
  rcases e with rfl | rfl | rfl | rfl | rfl | rfl | rfl | rfl | rfl | rfl | rfl | rfl | rfl | rfl | rfl | rfl | rfl | rfl | rfl | rfl | rfl | rfl | rfl | rfl | rfl | rfl | rfl | rfl | rfl | rfl | rfl | rfl <;> decide
theorem qishl_mul {a k : Int} (h0 : 0 ≤ k) (h1 : k ≤ 31) (h2 : 0 ≤ a) (h3 : a ≤ 2147483647) (h4 : a.toNat * 2 ^ k.toNat < 2147483648) : qishl a k = ((a.toNat * 2 ^ k.toNat : Nat) : Int) := by
  unfold qishl
  show (BitVec.ofInt 32 a <<< ((BitVec.ofInt 32 k &&& BitVec.ofInt 32 31).smod 32#32)).toInt = _
  rw [BitVec.shiftLeft_eq', q_sh31 h0 h1, BitVec.toInt_shiftLeft, BitVec.toNat_ofInt, Nat.shiftLeft_eq]
  have e1 : (a % ((2 ^ 32 : Nat) : Int)).toNat = a.toNat := by omega
  rw [e1, Int.bmod_def]
  generalize a.toNat * 2 ^ k.toNat = P at *
  split <;> omega
theorem qishl_1 {k : Int} (h0 : 0 ≤ k) (h1 : k ≤ 30) : qishl 1 k = ((2 ^ k.toNat : Nat) : Int) := by
  have h : (2 : Nat) ^ k.toNat ≤ 2 ^ 30 := Nat.pow_le_pow_right (by decide) (by omega)
  have e : (1 : Int).toNat * 2 ^ k.toNat = 2 ^ k.toNat := by
    show 1 * _ = _
    rw [Nat.one_mul]
  rw [qishl_mul h0 (by omega) (by decide) (by decide) (by rw [e]; omega), e]
theorem qishl_3 {a : Int} (h0 : 0 ≤ a) (h1 : a ≤ 200000000) : qishl a 3 = 8 * a := by
  rw [qishl_mul (by decide) (by decide) h0 (by omega) (by show a.toNat * 2 ^ 3 < _; omega)]
  show ((a.toNat * 2 ^ 3 : Nat) : Int) = _
  omega
theorem qishr_div {a k : Int} (ha : qI a) (h0 : 0 ≤ k) (h1 : k ≤ 31) : qishr a k = a / (2 ^ k.toNat : Nat) := by
  unfold qishr
  show (BitVec.sshiftRight' (BitVec.ofInt 32 a) ((BitVec.ofInt 32 k &&& BitVec.ofInt 32 31).smod 32#32)).toInt = _
  rw [BitVec.sshiftRight_eq', q_sh31 h0 h1, BitVec.toInt_sshiftRight, Int.shiftRight_eq_div_pow]
  have e : (BitVec.ofInt 32 a).toInt = a := q_toI ha
  rw [e]
theorem qishr_3 {a : Int} (ha : qI a) : qishr a 3 = a / 8 := by
  rw [qishr_div ha (by decide) (by decide)]
  rfl
theorem qiushr_div {a k : Int} (h2 : 0 ≤ a) (h3 : a ≤ 2147483647) (h0 : 0 ≤ k) (h1 : k ≤ 31) : qiushr a k = a / (2 ^ k.toNat : Nat) := by
  unfold qiushr
  have e0 : (Int32.ofInt a).toUInt32.toNat = a.toNat := by
    show (BitVec.ofInt 32 a).toNat = _
    rw [BitVec.toNat_ofInt]
    omega
  have e1 : ((Int32.ofInt k).toUInt32 &&& Int32.toUInt32 31).toNat = k.toNat := by
    show (BitVec.ofInt 32 k &&& 31#32).toNat = _
    rw [BitVec.toNat_and, BitVec.toNat_ofInt]
    have e2 : (k % ((2 ^ 32 : Nat) : Int)).toNat = k.toNat := by omega
    have e3 : (31#32).toNat = 2 ^ 5 - 1 := by decide
    rw [e2, e3, Nat.and_two_pow_sub_one_eq_mod]
    omega
  show (((Int32.ofInt a).toUInt32 >>> ((Int32.ofInt k).toUInt32 &&& Int32.toUInt32 31)).toBitVec).toInt = _
  rw [BitVec.toInt_eq_toNat_cond]
  have e4 : ((Int32.ofInt a).toUInt32 >>> ((Int32.ofInt k).toUInt32 &&& Int32.toUInt32 31)).toBitVec.toNat = a.toNat / 2 ^ k.toNat := by
    show ((Int32.ofInt a).toUInt32 >>> ((Int32.ofInt k).toUInt32 &&& Int32.toUInt32 31)).toNat = _
    rw [UInt32.toNat_shiftRight, e0, e1, Nat.mod_eq_of_lt (by omega), Nat.shiftRight_eq_div_pow]
  rw [e4]
  have h5 : a.toNat / 2 ^ k.toNat ≤ a.toNat := Nat.div_le_self _ _
  rw [if_pos (by omega), Int.natCast_ediv]
  congr 1
  omega
/-- a bit of a number that is not below 0 -/
def tb (s m : Int) : Bool := s.toNat.testBit m.toNat
theorem tb_div {s m : Int} (h0 : 0 ≤ s) : (s / (2 ^ m.toNat : Nat)) % 2 = if tb s m then 1 else 0 := by
  have e : s / (2 ^ m.toNat : Nat) % 2 = ((s.toNat / 2 ^ m.toNat % 2 : Nat) : Int) := by
    have e1 : s = (s.toNat : Int) := by omega
    conv => lhs; rw [e1]
    rfl
  rw [e]
  unfold tb
  rw [Nat.testBit_eq_decide_div_mod_eq]
  have h := Nat.mod_lt (s.toNat / 2 ^ m.toNat) (show 0 < 2 by decide)
  by_cases h1 : s.toNat / 2 ^ m.toNat % 2 = 1
  · simp [h1]
  · have h2 : s.toNat / 2 ^ m.toNat % 2 = 0 := by omega
    simp [h2]
theorem q_bitU {s m : Int} (h0 : 0 ≤ s) (h1 : s ≤ 2147483647) (h2 : 0 ≤ m) (h3 : m ≤ 31) : qiand (qiushr s m) 1 = if tb s m then 1 else 0 := by rw [qiand_1, qiushr_div h0 h1 h2 h3, tb_div h0]
theorem q_bitS {s m : Int} (h0 : 0 ≤ s) (h1 : s ≤ 2147483647) (h2 : 0 ≤ m) (h3 : m ≤ 31) : qiand (qishr s m) 1 = if tb s m then 1 else 0 := by rw [qiand_1, qishr_div ⟨by omega, by omega⟩ h2 h3, tb_div h0]
theorem q_or1 {s m : Int} (h0 : 0 ≤ s) (h1 : s ≤ 2147483647) (h2 : 0 ≤ m) (h3 : m ≤ 30) : 0 ≤ qior s (qishl 1 m) ∧ qior s (qishl 1 m) ≤ 2147483647 ∧ ∀ j : Int, 0 ≤ j → tb (qior s (qishl 1 m)) j = (tb s j || decide (j = m)) := by
  have hp : (2 : Nat) ^ m.toNat ≤ 2 ^ 30 := Nat.pow_le_pow_right (by decide) (by omega)
  have hn : 0 ≤ ((2 ^ m.toNat : Nat) : Int) := Int.natCast_nonneg _
  have hu : ((2 ^ m.toNat : Nat) : Int) ≤ 2147483647 := Int.le_trans (Int.ofNat_le.mpr hp) (by decide)
  rw [qishl_1 h2 h3, qior_nat h0 h1 hn hu, Int.toNat_natCast]
  have h := Nat.or_lt_two_pow (n := 31) (x := s.toNat) (y := 2 ^ m.toNat) (by omega) (by omega)
  refine ⟨Int.natCast_nonneg _, by omega, fun j hj => ?_⟩
  unfold tb
  rw [Int.toNat_natCast, Nat.testBit_or, Nat.testBit_two_pow]
  congr 1
  by_cases e : j = m
  · simp [e]
  · have e2 : ¬ m.toNat = j.toNat := by omega
    simp [e, e2]
theorem q_andnot {s t : Int} (h0 : 0 ≤ s) (h1 : s ≤ 2147483647) (h2 : 0 ≤ t) (h3 : t ≤ 2147483647) : 0 ≤ qiand s (qixor t (-1)) ∧ qiand s (qixor t (-1)) ≤ s ∧ ∀ j : Int, 0 ≤ j → tb (qiand s (qixor t (-1))) j = (tb s j && !tb t j) := by
  have e1 : qiand s (qixor t (-1)) = (((qixor t (-1) % 4294967296).toNat &&& s.toNat : Nat) : Int) := by rw [qiand_comm, qiand_nat h0 h1]
  have e2 : (qixor t (-1) % 4294967296).toNat = 4294967295 - t.toNat := by
    have e3 : qixor t (-1) = -t - 1 := by
      unfold qixor
      show (BitVec.ofInt 32 t ^^^ BitVec.ofInt 32 (-1)).toInt = _
      have e4 : BitVec.ofInt 32 (-1) = BitVec.allOnes 32 := by decide
      rw [e4, BitVec.xor_allOnes, BitVec.toInt_not, BitVec.toNat_ofInt, Int.bmod_def]
      have e5 : (t % ((2 ^ 32 : Nat) : Int)).toNat = t.toNat := by omega
      rw [e5]
      split <;> omega
    rw [e3]
    omega
  have hle := Nat.and_le_right (n := (qixor t (-1) % 4294967296).toNat) (m := s.toNat)
  rw [e1]
  refine ⟨by omega, by omega, fun j hj => ?_⟩
  unfold tb
  rw [Int.toNat_natCast, Nat.testBit_and, e2]
  have e6 : 4294967295 - t.toNat = 2 ^ 32 - (t.toNat + 1) := by omega
  rw [e6, Nat.testBit_two_pow_sub_succ (by omega)]
  by_cases hj2 : j.toNat < 32
  · simp [hj2, Bool.and_comm]
  · have e7 : s.toNat.testBit j.toNat = false := Nat.testBit_lt_two_pow (Nat.lt_of_lt_of_le (show s.toNat < 2 ^ 32 by omega) (Nat.pow_le_pow_right (by decide) (by omega)))
    simp [e7]
theorem qor_tb {s t : Int} (h0 : 0 ≤ s) (h1 : s ≤ 2147483647) (h2 : 0 ≤ t) (h3 : t ≤ 2147483647) : 0 ≤ qior s t ∧ qior s t ≤ 2147483647 ∧ ∀ j : Int, tb (qior s t) j = (tb s j || tb t j) := by
  rw [qior_nat h0 h1 h2 h3]
  have h := Nat.or_lt_two_pow (n := 31) (x := s.toNat) (y := t.toNat) (by omega) (by omega)
  refine ⟨by omega, by omega, fun j => ?_⟩
  unfold tb
  rw [Int.toNat_natCast, Nat.testBit_or]
theorem tb_0 {j : Int} : tb 0 j = false := by simp [tb]
