/-! told only where a line may begin -/
theorem Rch_told {B : Int → Int} {n t : Int} {S0 S : qM} (ht : isT t) (z : S0 t 10 = 0) (r : Rch B n t S0 S) (e : ¬ S t 10 = 0) : S 9 9 = 0 ∧ S t 10 = 1 := by
  have tn : t ≠ 9 ∧ 40 ≤ t := by rcases ht with x | x <;> omega
  obtain ⟨k, ek⟩ := r
  subst ek
  induction k with
  | zero => exact absurd z e
  | succ k ih =>
    have es : its B n t (k + 1) S0 = stp B n t (its B n t k S0) := rfl
    rw [es] at e ⊢
    by_cases c : its B n t k S0 t 10 = 0
    · generalize its B n t k S0 = U at *
      unfold stp at e ⊢
      split at e
      · exact absurd c e
      · rename_i q
        rw [if_neg q]
        split at e
        · rename_i q2
          rw [if_pos q2]
          exact ⟨by rw [qup_of (by omega), qup_of (by omega)]; exact q2.2, qup_at⟩
        · rw [tak_fr t 10 (by unfold PXk; omega), qup_of (by omega)] at e
          exact absurd c e
    · rw [stp, if_pos (Or.inr c)]
      exact ih c
