/-! readText of the class, whole -/
def rd0 (t n : Int) (h : qM) : qM := qup (qup (qup (qup (qup (qup (qup (qup (qup (qup (qup (qup h 9 4 n) 9 5 0) 9 2 0) 9 3 (-1)) 9 9 0) 9 11 0) 9 13 0) 9 14 0) t 8 0) t 9 0) t 11 0) t 10 0
theorem NT_no {P : Int → Prop} : ∀ k : Nat, (∀ t : Int, 0 ≤ t → t < k → ¬ P t) → NT P k = 0 := by
  intro k
  induction k with
  | zero => intro _; rfl
  | succ k ih =>
    intro q
    have a := ih (fun t a b => q t a (by omega))
    have e : NT P (k + 1) = NT P k + cif (P k) 1 0 := rfl
    rw [e, a, cif_f (q k (by omega) (by omega))]
    rfl
theorem rd0_iv {t n : Int} {h : qM} (ht : isT t) (n0 : 0 ≤ n) (ng : 0 ≤ h 2 8 ∧ h 2 8 ≤ 8) : IV n t (rd0 t n h) := by
  have key : IVs n 0 0 0 (h 9 10) 0 0 0 0 (h 2 8) (fun i => h 11 i) := ⟨by decide, by decide, fun c => absurd c (by decide), fun i a b => by omega, by decide, fun c => absurd rfl c, by decide, ng, ⟨by decide, n0⟩, by decide, by rw [NT_no 8 (fun t _ _ => by rw [tb_0]; decide)]; rfl, Or.inl rfl, fun c => by omega, fun _ => rfl⟩
  rcases ht with rfl | rfl <;> simpa [IV, qup, rd0] using key
section
variable {X : qX} {d : Nat} {sh : qS} {pt h : qM} {t n : Int} {B : Int → Int}
theorem x_readText {K : qM → Prop} (hst : St sh pt) (ht : isT t) (n0 : 0 ≤ n) (n1 : n ≤ h 9 1) (n2 : h 9 1 ≤ 500) (hB : ∀ i, 0 ≤ i → i < n → h 10 i = B i ∧ 0 ≤ B i ∧ B i ≤ 255) (ng : 0 ≤ h 2 8 ∧ h 2 8 ≤ 8) (k : ∀ S h1, Rch B n t (rd0 t n h) S → Std t S → IV n t S → Fr (PXs t) (rd0 t n h) S → Fr jk S h1 → K h1) : RunV X (d + 4) mX4_readText [(2, 9), (0, n), (2, t), (2, 2)] sh pt h K := by
  have tn : t ≠ 9 ∧ t ≠ 10 ∧ t ≠ 11 ∧ t ≠ 2 ∧ 40 ≤ t := by rcases ht with e | e <;> omega
  refine b_X4_readText hst ht (b_J9_min_7cf53 hst ⟨fun c => absurd c (by omega), fun _ => ?_⟩)
  intro h3 e3 h4 e4 h5 e5 h6 e6 h7 e7 h8 e8 h9 e9 h10 e10
  refine b_X7_clear hst ht (fun h11 e11 h12 e12 h13 e13 h14 e14 => ?_)
  have e : h14 = rd0 t n h := by rw [e14, e13, e12, e11, e10, e9, e8, e7, e6, e5, e4, e3]; rfl
  subst e
  refine x_readLoop (B := B) (n := n) (S0 := rd0 t n h) hst ht ?_ k (n.toNat + 2) 0 (rd0 t n h) (rd0 t n h) ?_ Rch.rf (rd0_iv ht n0 ng) Fr.rf ?_ Fr.rf (by decide) ?_
  · refine ⟨?_, by omega, fun i a b => ?_⟩
    · rcases ht with rfl | rfl <;> simp [rd0, qup]
    · have : rd0 t n h 10 i = h 10 i := by rcases ht with rfl | rfl <;> simp [rd0, qup]
      rw [this]
      exact hB i a b
  · have a : rd0 t n h 9 5 = 0 := by rcases ht with rfl | rfl <;> simp [rd0, qup]
    rw [a]
    split <;> omega
  · rcases ht with rfl | rfl <;> simp [rd0, qup]
  · have a : rd0 t n h 9 5 = 0 := by rcases ht with rfl | rfl <;> simp [rd0, qup]
    rw [a]
    split <;> omega
end
