section
variable {X : qX} {d : Nat} {sh : qS} {pt h : qM}
theorem x_group {K : Int → qM → Prop} {v s : Int} (hst : St sh pt) (hm : 0 ≤ h 2 3 ∧ h 2 3 ≤ 20) (hg : 0 ≤ h 2 8 ∧ h 2 8 ≤ 8) (qs : qI s) (k5 : ¬ (isNm v ∧ 1 ≤ s ∧ s < qishl 1 (h 2 3)) → K (-1) (qup h 0 12 5))
    (k7 : isNm v → 1 ≤ s → s < qishl 1 (h 2 3) → fnd (h 7) v (h 2 8).toNat 0 = -1 → h 2 8 = 8 → K (-1) (qup h 0 12 7))
    (kA : isNm v → 1 ≤ s → s < qishl 1 (h 2 3) → ∀ g, g = fnd (h 7) v (h 2 8).toNat 0 → g ≠ -1 → K g (qup (qup (qup h 7 g v) 8 g s) 0 12 0))
    (kB : isNm v → 1 ≤ s → s < qishl 1 (h 2 3) → fnd (h 7) v (h 2 8).toNat 0 = -1 → h 2 8 < 8 → K (h 2 8) (qup (qup (qup (qup h 2 8 (h 2 8 + 1)) 7 (h 2 8) v) 8 (h 2 8) s) 0 12 0)) : RunI X (d + 1) mX10_group [(2, 0), (1, v), (0, s)] sh pt h K := by
  have set := fun (a : 0 ≤ s) => q_set0 a qs.2 hm.1 hm.2
  have fo := fnd_ok (f := h 7) (v := v) (h 2 8).toNat 0
  refine b_X10_group hst (x_isName hst (fun nm => ⟨fun c => absurd c (by decide), fun _ => ⟨fun c => ?_, fun c => ?_⟩⟩) (fun nm => ⟨fun _ => ?_, fun c => absurd rfl c⟩))
  · exact b_X10_none hst (fun h1 e1 => by rw [e1]; exact k5 (fun z => by have := z.2.1; omega))
  · refine b_X2_isSet hst ⟨fun c1 => ⟨fun c => absurd rfl c, fun _ => b_X10_none hst (fun h1 e1 => by rw [e1]; exact k5 (fun z => by have := z.2.1; omega))⟩, fun c1 => ⟨fun c2 => ⟨fun c => absurd rfl c, fun _ => b_X10_none hst (fun h1 e1 => by rw [e1]; exact k5 (fun z => c2 ((set c1).mpr z.2.2)))⟩, fun c2 => ⟨fun _ => ?_, fun c => absurd c (by decide)⟩⟩⟩
    have s1 : 1 ≤ s := by omega
    have s2 := (set c1).mp c2
    refine b_X2_groupNamed hst (x_groupNamed hst hg.2 (h 2 8).toNat 0 (by omega) (by omega) ⟨fun c3 => ?_, fun c3 => ⟨fun c4 => ?_, fun c4 => ?_⟩⟩)
    · refine b_X2_tellGroup hst ⟨fun _ => ⟨by omega, fun h2 e2 => ⟨by omega, fun h4 e4 => ?_⟩⟩, fun c => absurd c c3⟩
      exact b_X10_answer hst (fun h5 e5 => by rw [e5, e4, e2]; exact kA nm s1 s2 _ rfl c3)
    · refine b_X2_tellGroup hst ⟨fun c => absurd c3 c, fun _ => ⟨⟨by omega, by omega⟩, fun h5 e5 => ⟨by omega, fun h7 e7 => ⟨by omega, fun h9 e9 => ?_⟩⟩⟩⟩
      exact b_X10_answer hst (fun h10 e10 => by rw [e10, e9, e7, e5]; exact kB nm s1 s2 c3 c4)
    · exact b_X10_none hst (fun h1 e1 => by rw [e1]; exact k7 nm s1 s2 c3 (by omega))
  · exact b_X10_none hst (fun h1 e1 => by rw [e1]; exact k5 (fun z => nm z.1))
theorem m_group {K : Int → qM → Prop} {v s : Int} (hst : St sh pt) (hg : 0 ≤ h 78 9 ∧ h 78 9 ≤ 8) (k5 : ¬ (isNm v ∧ 1 ≤ s ∧ s < qishl 1 (h 78 7)) → K (-1) (qup (qup (qup h 78 1 0) 78 0 0) 78 0 5))
    (k7 : isNm v → 1 ≤ s → s < qishl 1 (h 78 7) → fnd (h 87) v (h 78 9).toNat 0 = -1 → h 78 9 = 8 → K (-1) (qup (qup (qup h 78 1 0) 78 0 0) 78 0 7))
    (kA : isNm v → 1 ≤ s → s < qishl 1 (h 78 7) → ∀ g, g = fnd (h 87) v (h 78 9).toNat 0 → g ≠ -1 → K g (qup (qup (qup (qup h 78 1 0) 78 0 0) 87 g v) 85 g s))
    (kB : isNm v → 1 ≤ s → s < qishl 1 (h 78 7) → fnd (h 87) v (h 78 9).toNat 0 = -1 → h 78 9 < 8 → K (h 78 9) (qup (qup (qup (qup (qup h 78 1 0) 78 0 0) 78 9 (h 78 9 + 1)) 87 (h 78 9) v) 85 (h 78 9) s)) : RunI X (d + 1) mX11_group [(2, 78), (1, v), (0, s)] sh pt h K := by
  refine b_X11_group hst (fun h1 e1 h2 e2 => ?_)
  have r1 : h2 78 7 = h 78 7 := by rw [e2, e1]; simp [qup]
  have r2 : h2 78 9 = h 78 9 := by rw [e2, e1]; simp [qup]
  have r3 : h2 87 = h 87 := by funext i; rw [e2, e1]; simp [qup]
  have fo := fnd_ok (f := h 87) (v := v) (h 78 9).toNat 0
  have no : ∀ w : Int, K (-1) (qup (qup (qup h 78 1 0) 78 0 0) 78 0 w) → RunI X d mX11_refuse [(2, 78), (0, w)] sh pt h2 (fun r6 h5 => K r6 h5) := fun w k => b_X11_refuse hst (fun h3 e3 => by rw [e3, e2, e1]; exact k)
  refine m_isName hst (fun nm => ⟨fun c => absurd c (by decide), fun _ => ⟨fun c => no 5 (k5 (fun z => by have := z.2.1; omega)), fun c => ?_⟩⟩) (fun nm => ⟨fun _ => no 5 (k5 (fun z => nm z.1)), fun c => absurd rfl c⟩)
  rw [r1]
  refine ⟨fun c2 => ?_, fun c2 => no 5 (k5 (fun z => by have := z.2.2; omega))⟩
  refine b_X11_groupOf hst (m_groupOf hst (by omega) (h 78 9).toNat 0 (by omega) (by omega) ?_)
  rw [r3, r2]
  refine ⟨fun c3 => ?_, fun c3 => ⟨fun c4 => ?_, fun c4 => no 7 (k7 nm c c2 (by omega) c4)⟩⟩
  · refine b_X11_group_66 hst ⟨fun _ => ⟨by omega, fun h3 e3 => ⟨by omega, fun h4 e4 => ?_⟩⟩, fun c => absurd c (by omega)⟩
    rw [e4, e3, e2, e1]
    exact kA nm c c2 _ rfl (by omega)
  · refine b_X11_group_66 hst ⟨fun c => absurd c (by omega), fun _ => ?_⟩
    rw [r2]
    refine ⟨⟨by omega, by omega⟩, fun h5 e5 => ⟨by omega, fun h7 e7 => ⟨by omega, fun h9 e9 => ?_⟩⟩⟩
    rw [e9, e7, e5, e2, e1]
    exact kB nm c c2 (by omega) (by omega)
/-- the bytes of an int, the highest first -/
def byt (v j : Int) : Int := if j = 0 then v / 16777216 % 256 else if j = 1 then v / 65536 % 256 else if j = 2 then v / 256 % 256 else v % 256
theorem qiushr_any {a k : Int} (h0 : 1 ≤ k) (h1 : k ≤ 31) : qiushr a k = (a % 4294967296) / (2 ^ k.toNat : Nat) := by
  unfold qiushr
  have e0 : (Int32.ofInt a).toUInt32.toNat = (a % 4294967296).toNat := by
    show (BitVec.ofInt 32 a).toNat = _
    rw [BitVec.toNat_ofInt]
    omega
  have e1 : ((Int32.ofInt k).toUInt32 &&& Int32.toUInt32 31).toNat = k.toNat := by
    show (BitVec.ofInt 32 k &&& 31#32).toNat = _
    rw [BitVec.toNat_and, BitVec.toNat_ofInt]
    have e2 : (k % ((2 ^ 32 : Nat) : Int)).toNat = k.toNat := by omega
    have e3 : (31#32).toNat = 2 ^ 5 - 1 := by decide
    rw [e2, e3, Nat.and_two_pow_sub_one_eq_mod]
    omega
  show (((Int32.ofInt a).toUInt32 >>> ((Int32.ofInt k).toUInt32 &&& Int32.toUInt32 31)).toBitVec).toInt = _
  rw [BitVec.toInt_eq_toNat_cond]
  have e4 : ((Int32.ofInt a).toUInt32 >>> ((Int32.ofInt k).toUInt32 &&& Int32.toUInt32 31)).toBitVec.toNat = (a % 4294967296).toNat / 2 ^ k.toNat := by
    show ((Int32.ofInt a).toUInt32 >>> ((Int32.ofInt k).toUInt32 &&& Int32.toUInt32 31)).toNat = _
    rw [UInt32.toNat_shiftRight, e0, e1, Nat.mod_eq_of_lt (by omega), Nat.shiftRight_eq_div_pow]
  rw [e4]
  have h5 : (a % 4294967296).toNat / 2 ^ k.toNat ≤ (a % 4294967296).toNat / 2 ^ 1 := Nat.div_le_div_left (Nat.pow_le_pow_right (by decide) (by omega)) (by decide)
  rw [if_pos (by omega), Int.natCast_ediv]
  congr 1
  omega
theorem qiushr_0 {a : Int} (h : qI a) : qiushr a 0 = a := by
  unfold qiushr
  show (BitVec.ofInt 32 a >>> (0 : Nat)).toInt = a
  rw [BitVec.ushiftRight_zero]
  exact q_toI h
theorem qi2b_eq {a : Int} (h : qI a) : qi2b a = (a + 128) % 256 - 128 := by
  unfold qi2b
  rw [Int8.toInt_toInt32, Int32.toInt_toInt8, q_toI h, Int.bmod_def]
  split <;> omega
abbrev PA (n : Int) (a i : Int) : Prop := (a = 10 ∧ n ≤ i ∧ i < n + 4) ∨ (a = 9 ∧ i = 1)
theorem x_append {K : qM → Prop} {v n : Int} (hst : St sh pt) (hv : qI v) (hn : h 9 1 = n) (h0 : 0 ≤ n) (h1 : n ≤ 496) (k : ∀ h1, Fr (PA n) h h1 → h1 9 1 = n + 4 → (∀ j : Int, 0 ≤ j → j < 4 → h1 10 (n + j) = byt v j) → K h1) : RunV X d mX4_append [(2, 9), (0, v)] sh pt h K := by
  have s24 : qiand (qiushr v 24) 255 = v / 16777216 % 256 := by
    rw [qiand_255, qiushr_any (by decide) (by decide)]
    show v % 4294967296 / 16777216 % 256 = _
    omega
  have s16 : qiand (qiushr v 16) 255 = v / 65536 % 256 := by
    rw [qiand_255, qiushr_any (by decide) (by decide)]
    show v % 4294967296 / 65536 % 256 = _
    omega
  have s8 : qiand (qiushr v 8) 255 = v / 256 % 256 := by
    rw [qiand_255, qiushr_any (by decide) (by decide)]
    show v % 4294967296 / 256 % 256 = _
    omega
  have s0 : qiand (qiushr v 0) 255 = v % 256 := by rw [qiand_255, qiushr_0 hv]
  have step : ∀ (g g1 : qM) (s l b : Int), 0 ≤ s → s ≤ 24 → g 9 1 = l → 0 ≤ l → l < 500 → qiand (qiushr v s) 255 = b → g1 = qup (qup g 10 l b) 9 1 (l + 1) → EvV X d mX4_append 3 [(2, 9), (0, v), (0, s + (-8))] [] sh pt g1 K → EvV X d mX4_append 3 [(2, 9), (0, v), (0, s)] [] sh pt g K := by
    intro g g1 s l b a0 a1 a2 a3 a4 a5 a6 kk
    refine b_X4_append_3 hst ⟨fun c => absurd c (by omega), fun _ => ⟨fun c => absurd c (by omega), fun _ => ?_⟩⟩
    rw [a2, a5]
    refine ⟨⟨a3, a4⟩, fun h2 e2 => ?_⟩
    have r : h2 9 1 = l := by rw [e2, ← a2]; simp [qup]
    rw [r]
    refine ⟨⟨by omega, by omega⟩, fun h3 e3 => ⟨⟨by omega, by omega⟩, ?_⟩⟩
    rw [e3, e2, ← a6]
    exact kk
  refine b_X4_append hst ?_
  refine step _ _ 24 n _ (by decide) (by decide) hn h0 (by omega) s24 rfl ?_
  refine step _ _ 16 (n + 1) _ (by decide) (by decide) qup_at (by omega) (by omega) s16 rfl ?_
  refine step _ _ 8 (n + 1 + 1) _ (by decide) (by decide) qup_at (by omega) (by omega) s8 rfl ?_
  refine step _ _ 0 (n + 1 + 1 + 1) _ (by decide) (by decide) qup_at (by omega) (by omega) s0 rfl ?_
  refine b_X4_append_3 hst ⟨fun _ => ?_, fun c => absurd c (by decide)⟩
  refine k _ ?_ ?_ ?_
  · refine Fr.up (Fr.up (Fr.up (Fr.up (Fr.up (Fr.up (Fr.up (Fr.up Fr.rf ?_) ?_) ?_) ?_) ?_) ?_) ?_) ?_ <;> omega
  · rw [qup_at]
    omega
  · intro j a b
    have e : j = 0 ∨ j = 1 ∨ j = 2 ∨ j = 3 := by omega
    rcases e with rfl | rfl | rfl | rfl
    · rw [qup_of (by omega), qup_of (by omega), qup_of (by omega), qup_of (by omega), qup_of (by omega), qup_of (by omega), qup_of (by omega), show n + 0 = n by omega, qup_at]
      rfl
    · rw [qup_of (by omega), qup_of (by omega), qup_of (by omega), qup_of (by omega), qup_of (by omega), qup_at]
      rfl
    · rw [qup_of (by omega), qup_of (by omega), qup_of (by omega), show n + 2 = n + 1 + 1 by omega, qup_at]
      rfl
    · rw [qup_of (by omega), show n + 3 = n + 1 + 1 + 1 by omega, qup_at]
      rfl
abbrev PB (n : Int) (a i : Int) : Prop := (a = 88 ∧ n ≤ i ∧ i < n + 4) ∨ (a = 78 ∧ i = 18)
theorem m_lay {K : qM → Prop} {v n : Int} (hst : St sh pt) (hv : qI v) (hn : h 78 18 = n) (h0 : 0 ≤ n) (h1 : n ≤ 496) (k : ∀ h1, Fr (PB n) h h1 → h1 78 18 = n + 4 → (∀ j : Int, 0 ≤ j → j < 4 → h1 88 (n + j) % 256 = byt v j) → K h1) : RunV X d mX11_lay [(2, 78), (0, v)] sh pt h K := by
  have sb : ∀ s : Int, 0 ≤ s → s ≤ 24 → qi2b (qishr v s) = (v / (2 ^ s.toNat : Nat) + 128) % 256 - 128 := fun s a b => by
    rw [qishr_div hv a (by omega), qi2b_eq]
    have p1 : (1 : Nat) ≤ 2 ^ s.toNat := Nat.one_le_two_pow
    have p2 : ((1 : Nat) : Int) ≤ ((2 ^ s.toNat : Nat) : Int) := Int.ofNat_le.mpr p1
    have p3 : v / ((2 ^ s.toNat : Nat) : Int) ≤ 2147483647 := by
      refine Int.le_trans (Int.ediv_le_ediv (by omega) hv.2) (Int.ediv_le_self _ (by decide))
    have p4 : -2147483648 ≤ v / ((2 ^ s.toNat : Nat) : Int) := by
      refine (Int.le_ediv_iff_mul_le (by omega)).mpr ?_
      have p5 : (-2147483648 : Int) * ((2 ^ s.toNat : Nat) : Int) ≤ -2147483648 := by
        generalize ((2 ^ s.toNat : Nat) : Int) = P at p2
        omega
      omega
    exact ⟨p4, p3⟩
  have step : ∀ (g g1 : qM) (s l : Int), 0 ≤ s → s ≤ 3 → g 78 18 = l → 0 ≤ l → l < 500 → g1 = qup (qup g 88 l (qi2b (qishr v (8 * s)))) 78 18 (l + 1) → EvV X d mX11_lay 2 [(2, 78), (0, v), (0, s + (-1))] [] sh pt g1 K → EvV X d mX11_lay 2 [(2, 78), (0, v), (0, s)] [] sh pt g K := by
    intro g g1 s l a0 a1 a2 a3 a4 a6 kk
    refine b_X11_lay_2 hst ⟨fun c => absurd c (by omega), fun _ => ?_⟩
    rw [a2]
    refine ⟨⟨by omega, by omega⟩, ⟨a3, a4⟩, by rw [sb _ (by omega) (by omega)]; omega, fun h2 e2 => ?_⟩
    have r : h2 78 18 = l := by rw [e2, ← a2]; simp [qup]
    rw [r]
    refine ⟨⟨by omega, by omega⟩, fun h3 e3 => ⟨⟨by omega, by omega⟩, ?_⟩⟩
    rw [e3, e2, ← a6]
    exact kk
  refine b_X11_lay hst ?_
  refine step _ _ 3 n (by decide) (by decide) hn h0 (by omega) rfl ?_
  refine step _ _ 2 (n + 1) (by decide) (by decide) qup_at (by omega) (by omega) rfl ?_
  refine step _ _ 1 (n + 1 + 1) (by decide) (by decide) qup_at (by omega) (by omega) rfl ?_
  refine step _ _ 0 (n + 1 + 1 + 1) (by decide) (by decide) qup_at (by omega) (by omega) rfl ?_
  refine b_X11_lay_2 hst ⟨fun _ => ?_, fun c => absurd c (by decide)⟩
  refine k _ ?_ ?_ ?_
  · refine Fr.up (Fr.up (Fr.up (Fr.up (Fr.up (Fr.up (Fr.up (Fr.up Fr.rf ?_) ?_) ?_) ?_) ?_) ?_) ?_) ?_ <;> omega
  · rw [qup_at]
    omega
  · intro j a b
    have e : j = 0 ∨ j = 1 ∨ j = 2 ∨ j = 3 := by omega
    rcases e with rfl | rfl | rfl | rfl
    · rw [qup_of (by omega), qup_of (by omega), qup_of (by omega), qup_of (by omega), qup_of (by omega), qup_of (by omega), qup_of (by omega), show n + 0 = n by omega, qup_at, sb _ (by decide) (by decide)]
      show ((v / 16777216 + 128) % 256 - 128) % 256 = v / 16777216 % 256
      omega
    · rw [qup_of (by omega), qup_of (by omega), qup_of (by omega), qup_of (by omega), qup_of (by omega), qup_at, sb _ (by decide) (by decide)]
      show ((v / 65536 + 128) % 256 - 128) % 256 = v / 65536 % 256
      omega
    · rw [qup_of (by omega), qup_of (by omega), qup_of (by omega), show n + 2 = n + 1 + 1 by omega, qup_at, sb _ (by decide) (by decide)]
      show ((v / 256 + 128) % 256 - 128) % 256 = v / 256 % 256
      omega
    · rw [qup_of (by omega), show n + 3 = n + 1 + 1 + 1 by omega, qup_at, sb _ (by decide) (by decide)]
      show ((v / 1 + 128) % 256 - 128) % 256 = v % 256
      omega
end
