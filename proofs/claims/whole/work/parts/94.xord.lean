/-! orders() of the class, whole -/
theorem tak_3 {t a : Int} {T : Int × Int × Int} {S : qM} (ht : isT t) (e : tak t a T S 9 2 = 0) : tak t a T S 9 3 = S 9 3 := by
  have tn : t ≠ 9 ∧ 40 ≤ t := by rcases ht with x | x <;> omega
  have fl : ∀ v, v ≠ 0 → flt S v a 9 2 = 0 → flt S v a 9 3 = S 9 3 := fun v q z => by rw [flt_k.1] at z; exact absurd z q
  revert e
  unfold tak
  split
  · exact fl 1 (by decide)
  split
  · unfold tNm
    split
    · split
      · exact fl 3 (by decide)
      · exact fun _ => by rw [qup_of (by omega), qup_of (by omega), qup_of (by omega), qup_of (by omega)]
    · exact fl 2 (by decide)
  split
  · unfold tCo
    split
    · exact fun _ => by rw [qup_of (by omega)]
    · exact fl 2 (by decide)
  split
  · unfold tOr
    split
    · exact fun _ => by rw [qup_of (by omega), qup_of (by omega), qup_of (by omega)]
    split
    · exact fun _ => by rw [qup_of (by omega), qup_of (by omega)]
    generalize (if T.1 = 2 then kOf T.2.2 else -1) = kd
    unfold tOw
    split
    · exact fl 2 (by decide)
    split
    · exact fl 5 (by decide)
    split
    · exact fl 6 (by decide)
    · exact fun _ => by rw [tAd, qup_of (by omega), qup_of (by omega), qup_of (by omega), qup_of (by omega), qup_of (by omega), qup_of (by omega), qup_of (by omega), qup_of (by omega), qup_of (by omega)]
  split
  · unfold tBr
    split
    · exact fun _ => by rw [qup_of (by omega), qup_of (by omega), qup_of (by omega)]
    · exact fl 2 (by decide)
  split
  · unfold tSi
    split
    · exact fun _ => by rw [qup_of (by omega), qup_of (by omega)]
    split
    · exact fun _ => by rw [qup_of (by omega), qup_of (by omega)]
    · exact fl 2 (by decide)
  · unfold tNu
    split
    · exact fun _ => by rw [qup_of (by omega)]
    split
    · exact fl 2 (by decide)
    split
    · exact fl 4 (by decide)
    · have wr := wRw_bd (w := S 9 9)
      exact fun _ => by rw [qup_of (by omega), qup_of (by omega), qup_of (by omega)]
theorem Rch_3 {B : Int → Int} {n t : Int} {S0 S : qM} (ht : isT t) (z : S0 9 2 = 0) (r : Rch B n t S0 S) (e : S 9 2 = 0) : S 9 3 = S0 9 3 := by
  have tn : t ≠ 9 ∧ 40 ≤ t := by rcases ht with x | x <;> omega
  obtain ⟨k, ek⟩ := r
  subst ek
  induction k with
  | zero => rfl
  | succ k ih =>
    have es : its B n t (k + 1) S0 = stp B n t (its B n t k S0) := rfl
    rw [es] at e ⊢
    by_cases c : its B n t k S0 9 2 = 0
    · have i := ih c
      generalize its B n t k S0 = U at *
      unfold stp at e ⊢
      split at e
      · rename_i q
        rw [if_pos q]; exact i
      · rename_i q
        rw [if_neg q]
        split at e
        · rename_i q2
          rw [if_pos q2, qup_of (by omega), qup_of (by omega)]; exact i
        · rename_i q2
          rw [if_neg q2, tak_3 ht e, qup_of (by omega)]; exact i
    · rw [stp, if_pos (Or.inl c)] at e
      exact absurd e c
section
variable {X : qX} {d rc rs : Nat} {sh : qS} {pt h : qM} {Q : Option qV → qG → Prop} {B : Int → Int}
theorem x_orders {t ts n : Int} (hst : St sh pt) (e8 : pt 0 8 = t) (ht : isT t) (e9 : pt 0 9 = ts) (hts : isT ts) (n2 : h 9 1 ≤ 500) (hB : ∀ i, 0 ≤ i → i < n → n ≤ h 9 1 → h 10 i = B i ∧ 0 ≤ B i ∧ B i ≤ 255) (ng : 0 ≤ h 2 8 ∧ h 2 8 ≤ 8)
    (kn : ¬ (0 ≤ n ∧ n ≤ h 9 1) → Q (some (0, -1)) (sh, pt, qup h 0 12 5))
    (kf : 0 ≤ n → n ≤ h 9 1 → ∀ S h1, Rch B n ts (rd0 ts n h) S → ¬ S 9 2 = 0 → Fr (PXs ts) (rd0 ts n h) S → Fr (fun a i => jk a i ∨ (a = 9 ∧ i = 1) ∨ (a = 0 ∧ (i = 12 ∨ i = 13 ∨ i = 14))) S h1 → h1 9 1 = 0 → h1 0 12 = 10 → h1 0 13 = S 9 2 → h1 0 14 = S 9 3 → Q (some (0, -1)) (sh, pt, h1))
    (ks : 0 ≤ n → n ≤ h 9 1 → ∀ S h1 pt', Rch B n ts (rd0 ts n h) S → S 9 2 = 0 → ¬ S ts 10 = 0 → IV n ts S → Fr (PXs ts) (rd0 ts n h) S → Fr (fun a i => jk a i ∨ (a = 9 ∧ i = 1) ∨ (a = 0 ∧ (i = 12 ∨ i = 13 ∨ i = 14))) S h1 → h1 9 1 = 0 → h1 0 12 = 0 → h1 0 13 = 0 → h1 0 14 = -1 → St sh pt' → pt' 0 8 = ts → pt' 0 9 = t → (∀ a i : Int, ¬ (a = 0 ∧ (i = 8 ∨ i = 9)) → pt' a i = pt a i) → Q (some (0, S ts 8)) (sh, pt', h1)) : Run X (d + 5) rc rs mX10_orders [(2, 0), (0, n)] (sh, pt, h) Q := by
  have tn : ts ≠ 9 ∧ ts ≠ 0 ∧ 40 ≤ ts := by rcases hts with x | x <;> omega
  have no : ¬ (0 ≤ n ∧ n ≤ h 9 1) → RunI X (d + 4) mX10_none [(2, 0), (0, 5)] sh pt h (fun r h1 => Q (some (0, r)) (sh, pt, h1)) := fun q => b_X10_none hst (fun h1 e1 => by rw [e1]; exact kn q)
  show Ev X (d + 5) rc rs mX10_orders 0 [(2, 0), (0, n), (8, -1)] [] (sh, pt, h) Q
  refine c_X10_orders hst e8 ht e9 hts ⟨fun c => no (by omega), fun n0 => ⟨fun n1 => ?_, fun c => no (by omega)⟩⟩
  refine x_readText (B := B) hst hts n0 n1 n2 (fun i a b => hB i a b n1) ng (fun S h3 r sd iv fS f3 h4 d4 h5 d5 h6 d6 => ?_)
  have u2 : h4 9 2 = S 9 2 := by rw [d4, qup_of (by omega)]; exact f3 9 2 (by unfold jk; omega)
  have u3 : h5 9 3 = S 9 3 := by rw [d5, qup_of (by omega), d4, qup_of (by omega)]; exact f3 9 3 (by unfold jk; omega)
  have w13 : h6 0 13 = S 9 2 := by rw [d6, qup_of (by omega), d5, qup_at, u2]
  have w14 : h6 0 14 = S 9 3 := by rw [d6, qup_at, u3]
  have w1 : h6 9 1 = 0 := by rw [d6, qup_of (by omega), d5, qup_of (by omega), d4, qup_at]
  have f6 : Fr (fun a i => jk a i ∨ (a = 9 ∧ i = 1) ∨ (a = 0 ∧ (i = 12 ∨ i = 13 ∨ i = 14))) S h6 := by
    rw [d6, d5, d4]
    exact Fr.up (Fr.up (Fr.up (Fr.wk f3 (fun a i z => Or.inl z)) (by omega)) (by omega)) (by omega)
  rw [w13]
  refine ⟨fun c => x_orders_91 hst hts (fun pt' st p8 p9 pp => ?_), fun c => b_X10_none hst (fun h7 d7 => ?_)⟩
  · have z3 : S 9 3 = -1 := by
      rw [Rch_3 hts (by rcases hts with rfl | rfl <;> simp [rd0, qup]) r c]
      rcases hts with rfl | rfl <;> simp [rd0, qup]
    have w8 : h6 ts 8 = S ts 8 := f6 ts 8 (by unfold jk; omega)
    rw [w8]
    refine ks n0 n1 S _ pt' r c (by rcases sd with x | x; exact absurd c x; exact x) iv fS (Fr.up f6 (by omega)) (by rw [qup_of (by omega)]; exact w1) qup_at (by rw [qup_of (by omega), w13]; exact c) (by rw [qup_of (by omega), w14]; exact z3) st p8 p9 pp
  · rw [d7]
    exact kf n0 n1 S _ r c fS (Fr.up f6 (by omega)) (by rw [qup_of (by omega)]; exact w1) qup_at (by rw [qup_of (by omega)]; exact w13) (by rw [qup_of (by omega)]; exact w14)
end
