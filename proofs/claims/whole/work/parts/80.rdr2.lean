/-! the reader: what holds at each step; the class to its end -/
def IVs (n N dp w od L p ln mi ng : Int) (op : Int → Int) : Prop := (0 ≤ N ∧ N ≤ 60) ∧ (0 ≤ dp ∧ dp ≤ 3) ∧ (3 ≤ w → 0 ≤ od ∧ od < N) ∧ (∀ i, 0 ≤ i → i < dp → 0 ≤ op i ∧ op i < N) ∧ (0 ≤ L ∧ L ≤ 8) ∧ (w ≠ 0 → L < 8) ∧ (0 ≤ w ∧ w ≤ 10) ∧ (0 ≤ ng ∧ ng ≤ 8) ∧ (0 ≤ p ∧ p ≤ n) ∧ (0 ≤ ln ∧ ln ≤ 255) ∧ NT (fun g => tb ln g = true) 8 = L + (if w = 0 then 0 else 1) ∧ (mi = 0 ∨ (mi = 1 ∧ (w = 8 ∨ w = 9))) ∧ (w = 10 ∨ w = 3 → dp < 3) ∧ (w ≤ 1 → dp = 0)
def IV (n t : Int) (S : qM) : Prop := IVs n (S t 8) (S 9 13) (S 9 9) (S 9 10) (S t 9) (S 9 5) (S 9 14) (S 9 11) (S 2 8) (fun i => S 11 i)
theorem IV_b {n t : Int} {S : qM} (v : IV n t S) : IVb t S := by
  obtain ⟨a1, a2, a3, a4, a5, a6, a7, a8, _⟩ := v
  exact ⟨a1, a2, a3, a4, a5, a6, a7, a8⟩
theorem NT_lt {P : Int → Prop} {g : Int} {k : Nat} (g0 : 0 ≤ g) (g1 : g < k) (q : ¬ P g) : NT P k < k := by
  have a := NT_add (P := P) (Q := fun u => P u ∨ u = g) g0 q k g1 (fun t _ _ => Iff.rfl)
  have b := (NT_bd (P := fun u => P u ∨ u = g) k).2
  omega
theorem or255 {s g : Int} (s0 : 0 ≤ s) (s1 : s ≤ 255) (g0 : 0 ≤ g) (g1 : g < 8) : 0 ≤ qior s (qishl 1 g) ∧ qior s (qishl 1 g) ≤ 255 := by
  obtain ⟨a, b, c⟩ := q_or1 (s := s) (m := g) s0 (by omega) g0 (by omega)
  refine ⟨a, ?_⟩
  have r : qishl 1 g = ((1 <<< g.toNat : Nat) : Int) := by
    have : g = 0 ∨ g = 1 ∨ g = 2 ∨ g = 3 ∨ g = 4 ∨ g = 5 ∨ g = 6 ∨ g = 7 := by omega
    rcases this with e | e | e | e | e | e | e | e <;> rw [e] <;> decide
  have l : (1 <<< g.toNat : Nat) < 2 ^ 8 := by
    rw [Nat.one_shiftLeft]
    exact Nat.pow_lt_pow_right (by decide) (by omega)
  generalize (1 <<< g.toNat : Nat) = x at r l
  rw [r, qior_nat s0 (by omega) (by omega) (by omega)]
  have := Nat.or_lt_two_pow (x := s.toNat) (y := (x : Int).toNat) (n := 8) (by omega) (by omega)
  omega
theorem IV_l8 {n t : Int} {S : qM} (v : IV n t S) : S 9 9 = 0 → ∀ g, 0 ≤ g → g < 8 → qiand (qiushr (S 9 14) g) 1 = 0 → S t 9 < 8 := by
  obtain ⟨a1, a2, a3, a4, a5, a6, a7, a8, a9, b1, b2, b3, b4, b5⟩ := v
  intro w g g0 g1 e
  rw [if_pos w] at b2
  have f := (tb_free (u := S 9 14) (s := g) b1.1 (by omega) g0 (by omega)).1.mp e
  have l := NT_lt (P := fun g => tb (S 9 14) g = true) (k := 8) g0 (by omega) (by rw [f]; decide)
  omega
section
variable {n t a : Int} {T : Int × Int × Int} {S : qM}
theorem IV_flt {v : Int} (ht : isT t) (i : IV n t S) : IV n t (flt S v a) := by
  rcases ht with rfl | rfl <;> simpa [IV, flt, qup] using i
theorem kOf_bd {v : Int} : -1 ≤ kOf v ∧ kOf v ≤ 10 := by
  have := fnd_ok (f := qstW) (v := v) 11 0
  unfold kOf
  omega
theorem wbw_bd {k : Int} : (4 ≤ wbw k ∧ wbw k ≤ 10 ∧ wbw k ≠ 9) ∧ (wbw k = 10 → k = 10) := by
  unfold wbw
  repeat' split
  all_goals omega
theorem wNx_bd {w : Int} : (wNx w = 2 ∨ wNx w = 3 ∨ wNx w = 5 ∨ wNx w = 9) ∧ (wNx w = 3 → w = 10) := by
  unfold wNx
  repeat' split
  all_goals omega
theorem wRw_bd {w : Int} : 3 ≤ wRw w ∧ wRw w ≤ 5 := by
  unfold wRw
  repeat' split
  all_goals omega
theorem IV_nm (ht : isT t) (w : S 9 9 = 0) (i : IV n t S) : IV n t (tNm t a T S) := by
  have l8 := IV_l8 i w
  unfold tNm
  split
  · have fo := fnd_ok (f := S 7) (v := T.2.2) (S 2 8).toNat 0
    generalize fnd (S 7) T.2.2 (S 2 8).toNat 0 = g at *
    split
    · exact IV_flt ht i
    · rename_i z
      obtain ⟨a1, a2, a3, a4, a5, a6, a7, a8, a9, b1, b2, b3, b4, b5⟩ := i
      have g0 : 0 ≤ g ∧ g < 8 := by omega
      have z2 : qiand (qiushr (S 9 14) g) 1 = 0 := by omega
      have l9 := l8 g g0.1 g0.2 z2
      have f := (tb_free (u := S 9 14) (s := g) b1.1 (by omega) g0.1 (by omega)).1.mp z2
      have o1 : 0 ≤ qior (S 9 14) (qishl 1 g) ∧ qior (S 9 14) (qishl 1 g) ≤ 255 := or255 b1.1 b1.2 g0.1 g0.2
      have o2 : ∀ j, 0 ≤ j → j < 8 → (tb (qior (S 9 14) (qishl 1 g)) j = true ↔ (tb (S 9 14) j = true ∨ j = g)) := fun j j0 _ => by rw [(q_or1 b1.1 (by omega) g0.1 (by omega)).2.2 j j0]; simp
      have o3 := NT_add (P := fun j => tb (S 9 14) j = true) (Q := fun j => tb (qior (S 9 14) (qishl 1 g)) j = true) g0.1 (by rw [f]; decide) 8 (by omega) (fun j j0 j1 => o2 j j0 (by omega))
      rw [if_pos w] at b2
      have c5 := b5 (by omega)
      have key : IVs n (S t 8) (S 9 13) 1 (S 9 10) (S t 9) (S 9 5) (qior (S 9 14) (qishl 1 g)) (S 9 11) (S 2 8) (fun i => S 11 i) := ⟨a1, a2, fun c => absurd c (by decide), a4, a5, fun _ => by omega, by decide, a8, a9, o1, by rw [if_neg (by decide)]; omega, by omega, fun c => by omega, fun _ => c5⟩
      rcases ht with rfl | rfl <;> simpa [IV, qup] using key
  · exact IV_flt ht i
theorem IV_co (ht : isT t) (w : S 9 9 = 1) (i : IV n t S) : IV n t (tCo a T S) := by
  unfold tCo
  split
  · obtain ⟨a1, a2, a3, a4, a5, a6, a7, a8, a9, b1, b2, b3, b4, b5⟩ := i
    have key : IVs n (S t 8) (S 9 13) 2 (S 9 10) (S t 9) (S 9 5) (S 9 14) (S 9 11) (S 2 8) (fun i => S 11 i) := ⟨a1, a2, fun c => absurd c (by decide), a4, a5, fun _ => a6 (by omega), by decide, a8, a9, b1, by rw [b2, if_neg (by omega), if_neg (by decide)], by omega, fun c => by omega, fun c => absurd c (by decide)⟩
    rcases ht with rfl | rfl <;> simpa [IV, qup] using key
  · exact IV_flt ht i
theorem IV_ow {k : Int} (ht : isT t) (w : S 9 9 = 2) (kb : -1 ≤ k ∧ k ≤ 10) (i : IV n t S) : IV n t (tOw t a k S) := by
  unfold tOw
  split
  · exact IV_flt ht i
  split
  · exact IV_flt ht i
  split
  · exact IV_flt ht i
  · rename_i z1 z2 z3
    have wb := wbw_bd (k := k)
    unfold tAd
    generalize wbw k = w1 at wb ⊢
    obtain ⟨a1, a2, a3, a4, a5, a6, a7, a8, a9, b1, b2, b3, b4, b5⟩ := i
    have key : IVs n (S t 8 + 1) (S 9 13) w1 (S t 8) (S t 9) (S 9 5) (S 9 14) (S 9 11) (S 2 8) (fun i => S 11 i) := ⟨by omega, a2, fun _ => by omega, fun i i0 i1 => by have := a4 i i0 i1; dsimp only at this ⊢; omega, a5, fun _ => a6 (by omega), by omega, a8, a9, b1, by rw [b2, if_neg (by omega), if_neg (by omega)], by omega, fun c => by omega, fun c => by omega⟩
    rcases ht with rfl | rfl <;> simpa [IV, qup] using key
theorem IV_or (ht : isT t) (w : S 9 9 = 2) (i : IV n t S) : IV n t (tOr t a T S) := by
  unfold tOr
  split
  · rename_i z
    obtain ⟨a1, a2, a3, a4, a5, a6, a7, a8, a9, b1, b2, b3, b4, b5⟩ := i
    have a6' := a6 (by omega)
    have key : IVs n (S t 8) (S 9 13) 0 (S 9 10) (S t 9 + 1) (S 9 5) (S 9 14) (S 9 11) (S 2 8) (fun i => S 11 i) := ⟨a1, a2, fun c => absurd c (by decide), a4, by omega, fun c => absurd rfl c, by decide, a8, a9, b1, by rw [b2, if_neg (by omega), if_pos rfl]; omega, by omega, fun c => by omega, fun _ => z.1⟩
    rcases ht with rfl | rfl <;> simpa [IV, qup] using key
  split
  · rename_i z1 z2
    obtain ⟨a1, a2, a3, a4, a5, a6, a7, a8, a9, b1, b2, b3, b4, b5⟩ := i
    have key : IVs n (S t 8) (S 9 13 - 1) (S 9 9) (S 9 10) (S t 9) (S 9 5) (S 9 14) (S 9 11) (S 2 8) (fun i => S 11 i) := ⟨a1, by omega, a3, fun i i0 i1 => a4 i i0 (by omega), a5, a6, a7, a8, a9, b1, b2, b3, fun c => by omega, fun c => by omega⟩
    rcases ht with rfl | rfl <;> simpa [IV, qup] using key
  · refine IV_ow ht w ?_ i
    split
    · exact kOf_bd
    · decide
theorem IV_br (ht : isT t) (w : S 9 9 = 3) (i : IV n t S) : IV n t (tBr a T S) := by
  unfold tBr
  split
  · rename_i z
    obtain ⟨a1, a2, a3, a4, a5, a6, a7, a8, a9, b1, b2, b3, b4, b5⟩ := i
    have a3' := a3 (by omega)
    have key : IVs n (S t 8) (S 9 13 + 1) 2 (S 9 10) (S t 9) (S 9 5) (S 9 14) (S 9 11) (S 2 8) (fun i => if i = S 9 13 then S 9 10 else S 11 i) := ⟨a1, by omega, fun c => absurd c (by decide), fun i i0 i1 => by
      dsimp only
      split
      · omega
      · exact a4 i i0 (by omega), a5, fun _ => a6 (by omega), by decide, a8, a9, b1, by rw [b2, if_neg (by omega), if_neg (by decide)], by omega, fun c => by omega, fun c => by omega⟩
    rcases ht with rfl | rfl <;> simpa [IV, qup] using key
  · exact IV_flt ht i
theorem IV_si (ht : isT t) (w : S 9 9 = 4) (i : IV n t S) : IV n t (tSi t a T S) := by
  have key : IVs n (S t 8) (S 9 13) 5 (S 9 10) (S t 9) (S 9 5) (S 9 14) (S 9 11) (S 2 8) (fun i => S 11 i) := by
    obtain ⟨a1, a2, a3, a4, a5, a6, a7, a8, a9, b1, b2, b3, b4, b5⟩ := id i
    exact ⟨a1, a2, fun _ => a3 (by omega), a4, a5, fun _ => a6 (by omega), by decide, a8, a9, b1, by rw [b2, if_neg (by omega), if_neg (by decide)], by omega, fun c => by omega, fun c => absurd c (by decide)⟩
  unfold tSi
  split
  · rcases ht with rfl | rfl <;> simpa [IV, qup] using key
  split
  · rcases ht with rfl | rfl <;> simpa [IV, qup] using key
  · exact IV_flt ht i
theorem IV_nu (ht : isT t) (w : 5 ≤ S 9 9) (i : IV n t S) : IV n t (tNu t a T S) := by
  unfold tNu
  split
  · rename_i z
    obtain ⟨a1, a2, a3, a4, a5, a6, a7, a8, a9, b1, b2, b3, b4, b5⟩ := i
    have key : IVs n (S t 8) (S 9 13) (S 9 9) (S 9 10) (S t 9) (S 9 5) (S 9 14) 1 (S 2 8) (fun i => S 11 i) := ⟨a1, a2, a3, a4, a5, a6, a7, a8, a9, b1, b2, Or.inr ⟨rfl, z.1⟩, b4, b5⟩
    rcases ht with rfl | rfl <;> simpa [IV, qup] using key
  split
  · exact IV_flt ht i
  split
  · exact IV_flt ht i
  · have wn := wNx_bd (w := S 9 9)
    have wr := wRw_bd (w := S 9 9)
    obtain ⟨a1, a2, a3, a4, a5, a6, a7, a8, a9, b1, b2, b3, b4, b5⟩ := i
    generalize wNx (S 9 9) = w1 at wn ⊢
    generalize wRw (S 9 9) = r1 at wr ⊢
    generalize (if S 9 11 = 0 then T.2.2 else -T.2.2) = v1
    have key : IVs n (S t 8) (S 9 13) w1 (S 9 10) (S t 9) (S 9 5) (S 9 14) 0 (S 2 8) (fun i => S 11 i) := ⟨a1, a2, fun _ => a3 (by omega), a4, a5, fun _ => a6 (by omega), by omega, a8, a9, b1, by rw [b2, if_neg (by omega), if_neg (by omega)], Or.inl rfl, fun c => by omega, fun c => by omega⟩
    have : r1 = 3 ∨ r1 = 4 ∨ r1 = 5 := by omega
    rcases ht with rfl | rfl <;> rcases this with rfl | rfl | rfl <;> simpa [IV, qup] using key
theorem IV_tak (ht : isT t) (i : IV n t S) : IV n t (tak t a T S) := by
  have w := i.2.2.2.2.2.2.1
  unfold tak
  split
  · exact IV_flt ht i
  split
  · exact IV_nm ht ‹_› i
  split
  · exact IV_co ht ‹_› i
  split
  · exact IV_or ht ‹_› i
  split
  · exact IV_br ht ‹_› i
  split
  · exact IV_si ht ‹_› i
  · exact IV_nu ht (by omega) i
theorem IV_pos {q : Int} (ht : isT t) (q0 : 0 ≤ q) (q1 : q ≤ n) (i : IV n t S) : IV n t (qup S 9 5 q) := by
  obtain ⟨a1, a2, a3, a4, a5, a6, a7, a8, a9, b1, b2, b3, b4, b5⟩ := i
  have key : IVs n (S t 8) (S 9 13) (S 9 9) (S 9 10) (S t 9) q (S 9 14) (S 9 11) (S 2 8) (fun i => S 11 i) := ⟨a1, a2, a3, a4, a5, a6, a7, a8, ⟨q0, q1⟩, b1, b2, b3, b4, b5⟩
  rcases ht with rfl | rfl <;> simpa [IV, qup] using key
end
