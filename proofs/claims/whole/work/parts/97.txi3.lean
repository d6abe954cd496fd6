/-! all that is reached keeps it -/
theorem Rch_all {B : Int → Int} {n t : Int} {S0 S : qM} (ht : isT t) (iv0 : IV n t S0) (tx0 : TXI t S0) (r : Rch B n t S0 S) : IV n t S ∧ TXI t S := by
  have tn : t ≠ 9 ∧ 40 ≤ t := by rcases ht with e | e <;> omega
  obtain ⟨k, ek⟩ := r
  subst ek
  induction k with
  | zero => exact ⟨iv0, tx0⟩
  | succ k ih =>
    obtain ⟨iv, tx⟩ := ih
    show IV n t (stp B n t (its B n t k S0)) ∧ TXI t (stp B n t (its B n t k S0))
    generalize its B n t k S0 = U at *
    have pb := iv.2.2.2.2.2.2.2.2.1
    have ab := tkA_bd (B := B) pb.2
    have tb := tkR_bd (B := B) (n := n) (a := tkA B n (U 9 5)) ab.2
    have i1 := IV_pos ht (q := (tkR B n (tkA B n (U 9 5))).2.1) (by omega) (by omega) iv
    have x1 : TXI t (qup U 9 5 (tkR B n (tkA B n (U 9 5))).2.1) := TXI_fr tx (by rw [qup_of (by omega)]) (by rw [qup_of (by omega)]) (by rw [qup_of (by omega)]) (fun j i _ _ => by rw [qup_of (by omega)])
    unfold stp
    split
    · exact ⟨iv, tx⟩
    split
    · generalize (tkR B n (tkA B n (U 9 5))).2.1 = p at *
      refine ⟨?_, TXI_fr x1 (by rw [qup_of (by omega)]) (by rw [qup_of (by omega)]) (by rw [qup_of (by omega)]) (fun j i _ _ => by rw [qup_of (by omega)])⟩
      rcases ht with rfl | rfl <;> simpa [IV, qup] using i1
    · refine ⟨IV_tak ht i1, TXI_tak ht (fun c => (tb.2.2.2.2 c).1) (IV_b i1) ?_ x1⟩
      have := i1.2.2.2.2.2.2.2.2.2.2.2.1
      omega
theorem rd0_txi {t n : Int} {h : qM} (ht : isT t) : TXI t (rd0 t n h) := by
  have a : rd0 t n h t 8 = 0 := by rcases ht with rfl | rfl <;> simp [rd0, qup]
  have b : rd0 t n h 9 9 = 0 := by rcases ht with rfl | rfl <;> simp [rd0, qup]
  exact ⟨fun o o0 o1 => by omega, fun c => by omega⟩
theorem rd0_at {t n : Int} {h : qM} (ht : isT t) : rd0 t n h 9 2 = 0 ∧ rd0 t n h t 10 = 0 ∧ rd0 t n h 9 5 = 0 ∧ rd0 t n h 9 9 = 0 ∧ rd0 t n h t 8 = 0 ∧ rd0 t n h t 9 = 0 ∧ rd0 t n h t 11 = 0 ∧ rd0 t n h 9 14 = 0 := by
  rcases ht with rfl | rfl <;> simp [rd0, qup]
/-- a text that was read: every order is right -/
theorem read_ok {B : Int → Int} {n t : Int} {S h : qM} (ht : isT t) (n0 : 0 ≤ n) (ng : 0 ≤ h 2 8 ∧ h 2 8 ≤ 8) (r : Rch B n t (rd0 t n h) S) (w : S 9 9 < 3) : ∀ o, 0 ≤ o → o < S t 8 → okO (S (t + 1) o) (S (t + 3) o) (S (t + 4) o) (S (t + 5) o) :=
  fun o o0 o1 => (Rch_all ht (rd0_iv ht n0 ng) (rd0_txi ht) r).2.1 o o0 o1 (Or.inl w)
