/-! at most forty-nine pairs of spots are not free -/
theorem NT_ne {M m : Int} (m0 : 0 ≤ m) (m1 : m < M) : NT (fun k => k ≠ m) M.toNat ≤ M - 1 := by
  have a := NT_add (P := fun k => k ≠ m) (Q := fun _ => True) m0 (fun z => z rfl) M.toNat (by omega) (fun t _ _ => ⟨fun _ => by omega, fun _ => trivial⟩)
  rw [NT_all M.toNat (fun _ _ _ => trivial)] at a
  omega
theorem nf_of {p : Int → Int → Int} {bE bN : Int → Int} {M m : Int} {P : Int → Prop} (M1 : M ≤ 20) (m0 : 0 ≤ m) (m1 : m < M) (hP : ∀ e n, 0 ≤ e → e < 60 → 0 ≤ n → n < 40 → p e n ≠ 0 → P (40 * e + n)) (hc : NT P 2400 ≤ 30) : NT (fun w => ¬ flP (fre p bE bN M m) w) 1200 ≤ 49 := by
  have r := NT_or (R := fun w => ¬ flP (fre p bE bN M m) w) (P := fun w => p (w % 60) (2 * (w / 60)) ≠ 0 ∨ p (w % 60) (2 * (w / 60) + 1) ≠ 0) (Q := fun w => ∃ k, 0 ≤ k ∧ k < M ∧ k ≠ m ∧ bE k = w % 60 ∧ (bN k = 2 * (w / 60) ∨ bN k = 2 * (w / 60) + 1)) 1200 (fun t a b q => by
    by_cases c : p (t % 60) (2 * (t / 60)) ≠ 0 ∨ p (t % 60) (2 * (t / 60) + 1) ≠ 0
    · exact Or.inl c
    · by_cases g : ∃ k, 0 ≤ k ∧ k < M ∧ k ≠ m ∧ bE k = t % 60 ∧ (bN k = 2 * (t / 60) ∨ bN k = 2 * (t / 60) + 1)
      · exact Or.inr g
      · refine absurd ?_ q
        exact ⟨⟨by omega, Or.inr ⟨by omega, fun k k0 k1 k2 z => g ⟨k, k0, k1, k2, z.1, Or.inl z.2⟩⟩⟩, ⟨by omega, Or.inr ⟨by omega, fun k k0 k1 k2 z => g ⟨k, k0, k1, k2, z.1, Or.inr z.2⟩⟩⟩⟩)
  have a := NT_inj (f := fun w => if p (w % 60) (2 * (w / 60)) ≠ 0 then 40 * (w % 60) + 2 * (w / 60) else 40 * (w % 60) + (2 * (w / 60) + 1)) (b := 2400) 1200 (fun w => p (w % 60) (2 * (w / 60)) ≠ 0 ∨ p (w % 60) (2 * (w / 60) + 1) ≠ 0) P (fun i a b u => by
    split
    · exact ⟨by omega, by omega, hP _ _ (by omega) (by omega) (by omega) (by omega) ‹_›⟩
    · exact ⟨by omega, by omega, hP _ _ (by omega) (by omega) (by omega) (by omega) (by omega)⟩) (fun i j a b c d u v e => by
    split at e <;> split at e <;> omega)
  have ch : ∀ w : Int, ∃ k : Int, (∃ k, 0 ≤ k ∧ k < M ∧ k ≠ m ∧ bE k = w % 60 ∧ (bN k = 2 * (w / 60) ∨ bN k = 2 * (w / 60) + 1)) → 0 ≤ k ∧ k < M ∧ k ≠ m ∧ bE k = w % 60 ∧ (bN k = 2 * (w / 60) ∨ bN k = 2 * (w / 60) + 1) := fun w => by
    by_cases g : ∃ k, 0 ≤ k ∧ k < M ∧ k ≠ m ∧ bE k = w % 60 ∧ (bN k = 2 * (w / 60) ∨ bN k = 2 * (w / 60) + 1)
    · obtain ⟨k, z⟩ := g
      exact ⟨k, fun _ => z⟩
    · exact ⟨0, fun z => absurd z g⟩
  obtain ⟨f, hf⟩ := Classical.axiomOfChoice ch
  have b := NT_inj (f := f) (b := M.toNat) 1200 (fun w => ∃ k, 0 ≤ k ∧ k < M ∧ k ≠ m ∧ bE k = w % 60 ∧ (bN k = 2 * (w / 60) ∨ bN k = 2 * (w / 60) + 1)) (fun k => k ≠ m) (fun i a b u => by
    have := hf i u
    exact ⟨this.1, by omega, this.2.2.1⟩) (fun i j a b c d u v e => by
    have z1 := (hf i u).2.2.2
    have z2 := (hf j v).2.2.2
    rw [e] at z1
    omega)
  have c := NT_ne m0 m1
  omega
