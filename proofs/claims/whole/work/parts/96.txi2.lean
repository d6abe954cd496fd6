/-! a step keeps what holds of the orders -/
section
variable {n t a : Int} {T : Int × Int × Int} {S : qM}
theorem TXI_ad {k : Int} (ht : isT t) (w : S 9 9 = 2) (kb : 0 ≤ k ∧ k ≤ 10) (q : TXI t S) : TXI t (tAd t a k S) := by
  obtain ⟨⟨s9, s10, s8, _, _, _, _, _⟩, ⟨r1, r2, r3, r4, r5, r6⟩, fS⟩ := tAd_at (S := S) (a := a) (k := k) ht
  have tn : t ≠ 9 ∧ 40 ≤ t := by rcases ht with e | e <;> omega
  refine ⟨fun o o0 o1 c => ?_, fun _ => ?_⟩
  · have wb := wbw_bd (k := k)
    have ne : ¬ o = S t 8 := by omega
    have f : ∀ j, 1 ≤ j → j ≤ 5 → tAd t a k S (t + j) o = S (t + j) o := fun j _ _ => fS _ _ (by unfold PSt; omega)
    rw [f 1 (by decide) (by decide), f 3 (by decide) (by decide), f 4 (by decide) (by decide), f 5 (by decide) (by decide)]
    exact q.1 o o0 (by omega) (Or.inl (by omega))
  · rw [s10, s9, r1, r3, r4, r5]
    have : k = 0 ∨ k = 1 ∨ k = 2 ∨ k = 3 ∨ k = 4 ∨ k = 5 ∨ k = 6 ∨ k = 7 ∨ k = 8 ∨ k = 9 ∨ k = 10 := by omega
    rcases this with e | e | e | e | e | e | e | e | e | e | e <;> rw [e] <;> unfold okW wbw <;> decide
theorem TXI_tak (ht : isT t) (tb3 : T.1 = 3 → 0 ≤ T.2.2) (b : IVb t S) (mi : S 9 11 = 0 ∨ S 9 9 = 8 ∨ S 9 9 = 9) (q : TXI t S) : TXI t (tak t a T S) := by
  have tn : t ≠ 9 ∧ t ≠ 11 ∧ 40 ≤ t ∧ t ≤ 60 := by rcases ht with e | e <;> omega
  obtain ⟨_, _, b3, _, _, _, b7, _⟩ := b
  have fl : ∀ v, TXI t (flt S v a) := fun v => TXI_flt ht q
  unfold tak
  split
  · exact fl 1
  split
  · rename_i w
    unfold tNm
    split
    · split
      · exact fl 3
      · exact TXI_low q (by omega) (by rw [qup_at]; decide) (by rw [qup_of (by omega), qup_of (by omega), qup_of (by omega), qup_of (by omega)]) (fun j i _ _ => by rw [qup_of (by omega), qup_of (by omega), qup_of (by omega), qup_of (by omega)])
    · exact fl 2
  split
  · rename_i w
    unfold tCo
    split
    · exact TXI_low q (by omega) (by rw [qup_at]; decide) (by rw [qup_of (by omega)]) (fun j i _ _ => by rw [qup_of (by omega)])
    · exact fl 2
  split
  · rename_i w
    unfold tOr
    split
    · exact TXI_low q (by omega) (by rw [qup_at]; decide) (by rw [qup_of (by omega), qup_of (by omega), qup_of (by omega)]) (fun j i _ _ => by rw [qup_of (by omega), qup_of (by omega), qup_of (by omega)])
    split
    · exact TXI_low q (by omega) (by rw [qup_of (by omega), qup_of (by omega)]; omega) (by rw [qup_of (by omega), qup_of (by omega)]) (fun j i _ _ => by rw [qup_of (by omega), qup_of (by omega)])
    have kb : -1 ≤ (if T.1 = 2 then kOf T.2.2 else -1) ∧ (if T.1 = 2 then kOf T.2.2 else -1) ≤ 10 := by
      split
      · exact kOf_bd
      · decide
    generalize (if T.1 = 2 then kOf T.2.2 else -1) = kd at *
    unfold tOw
    split
    · exact fl 2
    split
    · exact fl 5
    split
    · exact fl 6
    · exact TXI_ad ht w (by omega) q
  split
  · rename_i w
    have ob := b3 (by omega)
    unfold tBr
    split
    · refine TXI_put (S' := _) (w := 2) (r := 3) (v := S (t + 3) (S 9 10)) q (by omega) (fun j i _ _ _ => by rw [qup_of (by omega), qup_of (by omega), qup_of (by omega)]) (by rw [qup_of (by omega), qup_of (by omega), qup_of (by omega)]) (by rw [qup_of (by omega), qup_of (by omega), qup_of (by omega)]) (by rw [qup_of (by omega), qup_of (by omega), qup_of (by omega)]) qup_at ob (by decide) (fun g => ⟨fun _ => ?_, fun c => absurd c (by decide)⟩)
      rw [if_pos rfl, if_neg (by decide), if_neg (by decide)]
      rw [w] at g
      unfold okW at g
      unfold okO
      omega
    · exact fl 2
  split
  · rename_i w
    have ob := b3 (by omega)
    have sd : ∀ s : Int, (s = 0 ∨ s = 1) → TXI t (qup (qup S (t + 3) (S 9 10) s) 9 9 5) := fun s hs => by
      refine TXI_put (w := 5) (r := 3) (v := s) q (by omega) (fun j i _ _ c => by rw [qup_of (by omega), qup_of (by omega)]) (by rw [qup_of (by omega), qup_at]) (by rw [qup_of (by omega), qup_of (by omega)]) (by rw [qup_of (by omega), qup_of (by omega)]) qup_at ob (by decide) (fun g => ⟨fun c => absurd c (by decide), fun _ => ?_⟩)
      rw [if_pos rfl, if_neg (by decide), if_neg (by decide)]
      rw [w] at g
      unfold okW at g ⊢
      omega
    unfold tSi
    split
    · exact sd 0 (Or.inl rfl)
    split
    · exact sd 1 (Or.inr rfl)
    · exact fl 2
  · have w5 : 5 ≤ S 9 9 := by omega
    have ob := b3 (by omega)
    unfold tNu
    split
    · exact TXI_fr q (by rw [qup_of (by omega)]) (by rw [qup_of (by omega)]) (by rw [qup_of (by omega)]) (fun j i _ _ => by rw [qup_of (by omega)])
    split
    · exact fl 2
    split
    · exact fl 4
    · rename_i n1 n3 n4
      have t3 := tb3 (by omega)
      have lh : wLo (S 9 9) ≤ T.2.2 ∧ T.2.2 ≤ wHi (S 9 9) := by omega
      have wr := wRw_bd (w := S 9 9)
      generalize ev : (if S 9 11 = 0 then T.2.2 else -T.2.2) = v
      refine TXI_put (w := wNx (S 9 9)) (r := wRw (S 9 9)) (v := v) q (by omega) (fun j i _ _ c => by rw [qup_of (by omega), qup_of (by omega), qup_of (by omega)]) (by rw [qup_of (by omega), qup_of (by omega), qup_at]) (by rw [qup_of (by omega), qup_of (by omega), qup_of (by omega)]) (by rw [qup_of (by omega), qup_of (by omega), qup_of (by omega)]) (by rw [qup_of (by omega), qup_at]) ob (by omega) (fun g => ?_)
      generalize S (t + 1) (S 9 10) = k at *
      generalize S (t + 3) (S 9 10) = m at *
      generalize S (t + 4) (S 9 10) = nw at *
      generalize S (t + 5) (S 9 10) = c at *
      have vv : (S 9 11 = 0 → v = T.2.2) ∧ (¬ S 9 11 = 0 → v = -T.2.2) := by
        constructor
        · intro z; rw [if_pos z] at ev; exact ev.symm
        · intro z; rw [if_neg z] at ev; exact ev.symm
      have cs : S 9 9 = 5 ∨ S 9 9 = 6 ∨ S 9 9 = 7 ∨ S 9 9 = 8 ∨ S 9 9 = 9 ∨ S 9 9 = 10 := by omega
      unfold okW at g
      rcases cs with e | e | e | e | e | e <;> rw [e] at g lh mi ⊢ <;> simp [wLo, wHi, wRw, wNx, okO, okW] at g lh mi ⊢ <;> omega
end
