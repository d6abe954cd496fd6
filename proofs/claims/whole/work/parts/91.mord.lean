/-! the reference's orders() -/
def TX (t : Int) (S h : qM) : Prop := h 78 30 = S t 9 ∧ h 90 0 = 0 ∧ (∀ l, 0 ≤ l → l < S t 9 → h 90 (l + 1) = S (t + 7) l) ∧ (∀ l, 0 ≤ l → l < S t 9 → (0 ≤ h 89 l ∧ h 89 l ≤ 1048575) ∧ (0 ≤ S (t + 8) l ∧ S (t + 8) l ≤ 1048575) ∧ ∀ m, 0 ≤ m → (tb (S (t + 8) l) m = true ↔ (tb (h 89 l) m = true ∧ ∀ l', 0 ≤ l' → l' < l → tb (h 89 l') m = false))) ∧ (∀ o, 0 ≤ o → o < S t 8 → RO t S (fun x i => if x = 100 then h 94 i else if x = 101 then h 95 i else if x = 102 then h 96 i else if x = 103 then h 97 i else if x = 104 then h 98 i else h x i) o ∧ h 99 o = S (t + 6) o)
section
variable {X : qX} {d : Nat} {sh : qS} {pt S0 : qM} {B : Int → Int} {n t : Int}
theorem m_copy {K : qM → Prop} {h : qM} {L N : Int} {E141 E169 E197 : Int → qM → Prop} (L0 : 0 ≤ L ∧ L ≤ 8) (N0 : 0 ≤ N ∧ N ≤ 60)
    (s1 : ∀ v g, (L < v → E169 0 g) → (v ≤ L → 0 ≤ v → E141 (v + 1) (qup g 90 v (g 93 v))) → E141 v g) (s2 : ∀ v g, (L ≤ v → E197 0 g) → (v < L → 0 ≤ v → E169 (v + 1) (qup g 89 v (g 91 v))) → E169 v g)
    (s3 : ∀ v g, (N ≤ v → K g) → (v < N → 0 ≤ v → ∀ g', Fr (fun a i => (94 ≤ a ∧ a ≤ 99) ∧ i = v) g g' → (g' 94 v = g 100 v ∧ g' 95 v = g 101 v ∧ g' 96 v = g 102 v ∧ g' 97 v = g 103 v ∧ g' 98 v = g 104 v ∧ g' 99 v = g 105 v) → E197 (v + 1) g') → E197 v g)
    (k : ∀ g, Fr (fun a _ => a = 89 ∨ a = 90 ∨ (94 ≤ a ∧ a ≤ 99)) h g → (∀ l, 0 ≤ l → l ≤ L → g 90 l = h 93 l) → (∀ l, 0 ≤ l → l < L → g 89 l = h 91 l) → (∀ o, 0 ≤ o → o < N → g 94 o = h 100 o ∧ g 95 o = h 101 o ∧ g 96 o = h 102 o ∧ g 97 o = h 103 o ∧ g 98 o = h 104 o ∧ g 99 o = h 105 o) → K g) : E141 0 h := by
  have l3 : ∀ (j : Nat) (v : Int) (g : qM), v + j = N → 0 ≤ v → Fr (fun a _ => a = 89 ∨ a = 90 ∨ (94 ≤ a ∧ a ≤ 99)) h g → (∀ l, 0 ≤ l → l ≤ L → g 90 l = h 93 l) → (∀ l, 0 ≤ l → l < L → g 89 l = h 91 l) → (∀ o, 0 ≤ o → o < v → g 94 o = h 100 o ∧ g 95 o = h 101 o ∧ g 96 o = h 102 o ∧ g 97 o = h 103 o ∧ g 98 o = h 104 o ∧ g 99 o = h 105 o) → E197 v g := by
    intro j
    induction j with
    | zero =>
      intro v g e v0 f a b c
      exact s3 v g (fun _ => k g f a b (fun o o0 o1 => c o o0 (by omega))) (fun z => absurd z (by omega))
    | succ j ih =>
      intro v g e v0 f a b c
      refine s3 v g (fun z => absurd z (by omega)) (fun _ _ g' f' w => ih (v + 1) g' (by omega) (by omega) (Fr.tr f (Fr.wk f' (fun x i z => by omega))) (fun l l0 l1 => by rw [f' 90 l (by omega)]; exact a l l0 l1) (fun l l0 l1 => by rw [f' 89 l (by omega)]; exact b l l0 l1) (fun o o0 o1 => ?_))
      by_cases z : o = v
      · rw [z, w.1, w.2.1, w.2.2.1, w.2.2.2.1, w.2.2.2.2.1, w.2.2.2.2.2, f 100 v (by omega), f 101 v (by omega), f 102 v (by omega), f 103 v (by omega), f 104 v (by omega), f 105 v (by omega)]
        exact ⟨rfl, rfl, rfl, rfl, rfl, rfl⟩
      · rw [f' 94 o (by omega), f' 95 o (by omega), f' 96 o (by omega), f' 97 o (by omega), f' 98 o (by omega), f' 99 o (by omega)]
        exact c o o0 (by omega)
  have l2 : ∀ (j : Nat) (v : Int) (g : qM), v + j = L → 0 ≤ v → Fr (fun a _ => a = 89 ∨ a = 90 ∨ (94 ≤ a ∧ a ≤ 99)) h g → (∀ l, 0 ≤ l → l ≤ L → g 90 l = h 93 l) → (∀ l, 0 ≤ l → l < v → g 89 l = h 91 l) → E169 v g := by
    intro j
    induction j with
    | zero =>
      intro v g e v0 f a b
      exact s2 v g (fun _ => l3 N.toNat 0 g (by omega) (by decide) f a (fun l l0 l1 => b l l0 (by omega)) (fun o o0 o1 => by omega)) (fun z => absurd z (by omega))
    | succ j ih =>
      intro v g e v0 f a b
      refine s2 v g (fun z => absurd z (by omega)) (fun _ _ => ih (v + 1) _ (by omega) (by omega) (Fr.up f (by omega)) (fun l l0 l1 => by rw [qup_of (by omega)]; exact a l l0 l1) (fun l l0 l1 => ?_))
      by_cases z : l = v
      · rw [z, qup_at, f 91 v (by omega)]
      · rw [qup_of (by omega)]
        exact b l l0 (by omega)
  have l1 : ∀ (j : Nat) (v : Int) (g : qM), v + j = L + 1 → 0 ≤ v → Fr (fun a _ => a = 89 ∨ a = 90 ∨ (94 ≤ a ∧ a ≤ 99)) h g → (∀ l, 0 ≤ l → l < v → g 90 l = h 93 l) → E141 v g := by
    intro j
    induction j with
    | zero =>
      intro v g e v0 f a
      exact s1 v g (fun _ => l2 L.toNat 0 g (by omega) (by decide) f (fun l l0 l1 => a l l0 (by omega)) (fun l l0 l1 => by omega)) (fun z => absurd z (by omega))
    | succ j ih =>
      intro v g e v0 f a
      refine s1 v g (fun z => absurd z (by omega)) (fun _ _ => ih (v + 1) _ (by omega) (by omega) (Fr.up f (by omega)) (fun l l0 l1 => ?_))
      by_cases z : l = v
      · rw [z, qup_at, f 93 v (by omega)]
      · rw [qup_of (by omega)]
        exact a l l0 (by omega)
  exact l1 (L + 1).toNat 0 h (by omega) (by decide) Fr.rf (fun l l0 l1 => by omega)
end
