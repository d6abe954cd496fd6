/-! what holds of the orders that were read -/
/-- an order read to its end -/
def okO (k m nw c : Int) : Prop := (0 ≤ k ∧ k ≤ 10) ∧ (k ≤ 4 → 1 ≤ c ∧ c ≤ 99) ∧ (k = 5 → (1 ≤ m ∧ m ≤ 7) ∧ c = 0) ∧ (k = 6 → (m = 0 ∨ m = 1) ∧ 1 ≤ c ∧ c ≤ 99) ∧ (k = 7 ∨ k = 8 → (2 ≤ m ∧ m ≤ 5) ∧ 1 ≤ c ∧ c ≤ 99) ∧ (k = 9 → (-59 ≤ m ∧ m ≤ 59) ∧ (-59 ≤ nw ∧ nw ≤ 59) ∧ 1 ≤ c ∧ c ≤ 99) ∧ (k = 10 → (2 ≤ m ∧ m ≤ 20) ∧ c = 0)
/-- an order of which w stands next -/
def okW (w k m nw c : Int) : Prop := (0 ≤ k ∧ k ≤ 10) ∧ (w = 6 → k = 5 ∧ c = 0) ∧ (w = 4 → k = 6) ∧ (w = 7 → k = 7 ∨ k = 8) ∧ (w = 8 → k = 9) ∧ (w = 9 → k = 9 ∧ (-59 ≤ m ∧ m ≤ 59)) ∧ (w = 10 → k = 10 ∧ c = 0) ∧ (w = 3 → k = 10 ∧ c = 0 ∧ (2 ≤ m ∧ m ≤ 20)) ∧ (w = 5 → k ≤ 4 ∨ (k = 6 ∧ (m = 0 ∨ m = 1)) ∨ ((k = 7 ∨ k = 8) ∧ (2 ≤ m ∧ m ≤ 5)) ∨ (k = 9 ∧ (-59 ≤ m ∧ m ≤ 59) ∧ (-59 ≤ nw ∧ nw ≤ 59)))
def TXI (t : Int) (S : qM) : Prop := (∀ o, 0 ≤ o → o < S t 8 → (S 9 9 < 3 ∨ ¬ o = S 9 10) → okO (S (t + 1) o) (S (t + 3) o) (S (t + 4) o) (S (t + 5) o)) ∧ (3 ≤ S 9 9 → okW (S 9 9) (S (t + 1) (S 9 10)) (S (t + 3) (S 9 10)) (S (t + 4) (S 9 10)) (S (t + 5) (S 9 10)))
section
variable {n t a : Int} {T : Int × Int × Int} {S S' : qM}
theorem TXI_fr (q : TXI t S) (w : S' 9 9 = S 9 9) (o : S' 9 10 = S 9 10) (e : S' t 8 = S t 8) (f : ∀ j i, 1 ≤ j → j ≤ 5 → S' (t + j) i = S (t + j) i) : TXI t S' := by
  unfold TXI at *
  rw [w, o, e]
  simp only [f 1 _ (by decide) (by decide), f 3 _ (by decide) (by decide), f 4 _ (by decide) (by decide), f 5 _ (by decide) (by decide)]
  exact q
/-- the order is done -/
theorem TXI_low (q : TXI t S) (w0 : S 9 9 < 3) (w : S' 9 9 < 3) (e : S' t 8 = S t 8) (f : ∀ j i, 1 ≤ j → j ≤ 5 → S' (t + j) i = S (t + j) i) : TXI t S' := by
  refine ⟨fun o o0 o1 _ => ?_, fun c => by omega⟩
  simp only [f 1 _ (by decide) (by decide), f 3 _ (by decide) (by decide), f 4 _ (by decide) (by decide), f 5 _ (by decide) (by decide)]
  exact q.1 o o0 (by omega) (Or.inl w0)
theorem TXI_flt {v : Int} (ht : isT t) (i : TXI t S) : TXI t (flt S v a) := by
  have tn : t ≠ 9 ∧ 40 ≤ t := by rcases ht with e | e <;> omega
  exact TXI_fr i (by rw [flt, qup_of (by omega), qup_of (by omega)]) (by rw [flt, qup_of (by omega), qup_of (by omega)]) (by rw [flt, qup_of (by omega), qup_of (by omega)]) (fun j i _ _ => by rw [flt, qup_of (by omega), qup_of (by omega)])
/-- one place of the order is written, and what stands next changes -/
theorem TXI_put {S' : qM} {w r v : Int} (q : TXI t S) (w3 : 3 ≤ S 9 9) (f : ∀ j i, 1 ≤ j → j ≤ 5 → ¬ (j = r ∧ i = S 9 10) → S' (t + j) i = S (t + j) i) (fv : S' (t + r) (S 9 10) = v) (e10 : S' 9 10 = S 9 10) (e8 : S' t 8 = S t 8) (e9 : S' 9 9 = w) (ob : 0 ≤ S 9 10 ∧ S 9 10 < S t 8) (rb : 3 ≤ r ∧ r ≤ 5)
    (g : okW (S 9 9) (S (t + 1) (S 9 10)) (S (t + 3) (S 9 10)) (S (t + 4) (S 9 10)) (S (t + 5) (S 9 10)) → (w < 3 → okO (S (t + 1) (S 9 10)) (if r = 3 then v else S (t + 3) (S 9 10)) (if r = 4 then v else S (t + 4) (S 9 10)) (if r = 5 then v else S (t + 5) (S 9 10))) ∧ (3 ≤ w → okW w (S (t + 1) (S 9 10)) (if r = 3 then v else S (t + 3) (S 9 10)) (if r = 4 then v else S (t + 4) (S 9 10)) (if r = 5 then v else S (t + 5) (S 9 10)))) : TXI t S' := by
  have gg := g (q.2 w3)
  have k1 : S' (t + 1) (S 9 10) = S (t + 1) (S 9 10) := f 1 _ (by decide) (by decide) (by omega)
  have k3 : S' (t + 3) (S 9 10) = if r = 3 then v else S (t + 3) (S 9 10) := by
    split
    · rename_i c; rw [c] at fv; exact fv
    · exact f 3 _ (by decide) (by decide) (by omega)
  have k4 : S' (t + 4) (S 9 10) = if r = 4 then v else S (t + 4) (S 9 10) := by
    split
    · rename_i c; rw [c] at fv; exact fv
    · exact f 4 _ (by decide) (by decide) (by omega)
  have k5 : S' (t + 5) (S 9 10) = if r = 5 then v else S (t + 5) (S 9 10) := by
    split
    · rename_i c; rw [c] at fv; exact fv
    · exact f 5 _ (by decide) (by decide) (by omega)
  refine ⟨fun o o0 o1 c => ?_, fun c => ?_⟩
  · by_cases z : o = S 9 10
    · rw [z, k1, k3, k4, k5]
      exact gg.1 (by omega)
    · rw [f 1 o (by decide) (by decide) (by omega), f 3 o (by decide) (by decide) (by omega), f 4 o (by decide) (by decide) (by omega), f 5 o (by decide) (by decide) (by omega)]
      exact q.1 o o0 (by omega) (Or.inr z)
  · rw [e10, e9, k1, k3, k4, k5]
    exact gg.2 (by omega)
end
