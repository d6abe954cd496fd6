/-! words of the specs -/
def qB (p : Prop) [Decidable p] : Int := if p then 1 else 0
theorem qB0 {p : Prop} [Decidable p] : (qB p = 0) = ¬ p := by
  unfold qB
  by_cases h : p <;> simp [h]
theorem qB1 {p : Prop} [Decidable p] : (qB p = 1) = p := by
  unfold qB
  by_cases h : p <;> simp [h]
theorem qB01 {p : Prop} [Decidable p] : 0 ≤ qB p ∧ qB p ≤ 1 := by
  unfold qB
  by_cases h : p <;> simp [h]
theorem qB_t {p : Prop} [Decidable p] (h : p) : qB p = 1 := if_pos h
theorem qB_f {p : Prop} [Decidable p] (h : ¬ p) : qB p = 0 := if_neg h
theorem nn {p : Prop} : (¬ ¬ p) = p := by
  by_cases h : p <;> simp [h]
/-- what may have changed -/
def Fr (P : Int → Int → Prop) (h h' : qM) : Prop := ∀ a i : Int, ¬ P a i → h' a i = h a i
theorem Fr.rf {P : Int → Int → Prop} {h : qM} : Fr P h h := fun _ _ _ => rfl
theorem Fr.tr {P : Int → Int → Prop} {h h1 h2 : qM} (a : Fr P h h1) (b : Fr P h1 h2) : Fr P h h2 := fun x i q => (b x i q).trans (a x i q)
theorem Fr.wk {P P' : Int → Int → Prop} {h h1 : qM} (a : Fr P h h1) (w : ∀ x i, P x i → P' x i) : Fr P' h h1 := fun x i q => a x i (fun z => q (w x i z))
theorem Fr.up {P : Int → Int → Prop} {h h1 : qM} {x i v : Int} (a : Fr P h h1) (w : P x i) : Fr P h (qup h1 x i v) := fun y j q => by
  have e : ¬ (y = x ∧ j = i) := fun z => q (by rw [z.1, z.2]; exact w)
  unfold qup
  rw [if_neg e]
  exact a y j q
theorem qup_at {h : qM} {a i v : Int} : qup h a i v a i = v := by simp [qup]
theorem qup_of {h : qM} {a i v b j : Int} (e : ¬ (b = a ∧ j = i)) : qup h a i v b j = h b j := by
  unfold qup
  rw [if_neg e]
