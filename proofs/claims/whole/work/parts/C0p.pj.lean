/-! cells that no part of it reads, one by one -/
section
variable {c cs a i : Int}
theorem pj_0 (q : Pst a i) : Pjk c cs a i := Or.inl q
theorem pj_1 (q : a = 9 ∧ i ≠ 1) : Pjk c cs a i := Or.inr (Or.inl q)
theorem pj_2 (q : a = 11) : Pjk c cs a i := Or.inr (Or.inr (Or.inl q))
theorem pj_3 (q : 12 ≤ a ∧ a ≤ 18) : Pjk c cs a i := Or.inr (Or.inr (Or.inr (Or.inl q)))
theorem pj_4 (q : 21 ≤ a ∧ a ≤ 27) : Pjk c cs a i := Or.inr (Or.inr (Or.inr (Or.inr (Or.inl q))))
theorem pj_5 (q : a = 28 ∧ i ≠ 0) : Pjk c cs a i := Or.inr (Or.inr (Or.inr (Or.inr (Or.inr (Or.inl q)))))
theorem pj_6 (q : a = 29) : Pjk c cs a i := Or.inr (Or.inr (Or.inr (Or.inr (Or.inr (Or.inr (Or.inl q))))))
theorem pj_7 (q : a = 30 ∧ 3 ≤ i) : Pjk c cs a i := Or.inr (Or.inr (Or.inr (Or.inr (Or.inr (Or.inr (Or.inr (Or.inl q)))))))
theorem pj_8 (q : a = 31) : Pjk c cs a i := Or.inr (Or.inr (Or.inr (Or.inr (Or.inr (Or.inr (Or.inr (Or.inr (Or.inl q))))))))
theorem pj_9 (q : 37 ≤ a ∧ a ≤ 40) : Pjk c cs a i := Or.inr (Or.inr (Or.inr (Or.inr (Or.inr (Or.inr (Or.inr (Or.inr (Or.inr (Or.inl q)))))))))
theorem pj_10 (q : a = 41 ∧ 3 ≤ i) : Pjk c cs a i := Or.inr (Or.inr (Or.inr (Or.inr (Or.inr (Or.inr (Or.inr (Or.inr (Or.inr (Or.inr (Or.inl q))))))))))
theorem pj_11 (q : a = c + 2) : Pjk c cs a i := Or.inr (Or.inr (Or.inr (Or.inr (Or.inr (Or.inr (Or.inr (Or.inr (Or.inr (Or.inr (Or.inr (Or.inl q)))))))))))
theorem pj_12 (q : a = c + 3) : Pjk c cs a i := Or.inr (Or.inr (Or.inr (Or.inr (Or.inr (Or.inr (Or.inr (Or.inr (Or.inr (Or.inr (Or.inr (Or.inr (Or.inl q))))))))))))
theorem pj_13 (q : a = cs + 2) : Pjk c cs a i := Or.inr (Or.inr (Or.inr (Or.inr (Or.inr (Or.inr (Or.inr (Or.inr (Or.inr (Or.inr (Or.inr (Or.inr (Or.inr (Or.inl q)))))))))))))
theorem pj_14 (q : a = cs + 3) : Pjk c cs a i := Or.inr (Or.inr (Or.inr (Or.inr (Or.inr (Or.inr (Or.inr (Or.inr (Or.inr (Or.inr (Or.inr (Or.inr (Or.inr (Or.inr (Or.inl q))))))))))))))
theorem pj_15 (q : a = cs) : Pjk c cs a i := Or.inr (Or.inr (Or.inr (Or.inr (Or.inr (Or.inr (Or.inr (Or.inr (Or.inr (Or.inr (Or.inr (Or.inr (Or.inr (Or.inr (Or.inr (Or.inl q)))))))))))))))
theorem pj_16 (q : 91 ≤ a ∧ a ≤ 93) : Pjk c cs a i := Or.inr (Or.inr (Or.inr (Or.inr (Or.inr (Or.inr (Or.inr (Or.inr (Or.inr (Or.inr (Or.inr (Or.inr (Or.inr (Or.inr (Or.inr (Or.inr (Or.inl q))))))))))))))))
theorem pj_17 (q : 100 ≤ a ∧ a ≤ 105) : Pjk c cs a i := Or.inr (Or.inr (Or.inr (Or.inr (Or.inr (Or.inr (Or.inr (Or.inr (Or.inr (Or.inr (Or.inr (Or.inr (Or.inr (Or.inr (Or.inr (Or.inr (Or.inr (Or.inl q)))))))))))))))))
theorem pj_18 (q : 109 ≤ a ∧ a ≤ 118) : Pjk c cs a i := Or.inr (Or.inr (Or.inr (Or.inr (Or.inr (Or.inr (Or.inr (Or.inr (Or.inr (Or.inr (Or.inr (Or.inr (Or.inr (Or.inr (Or.inr (Or.inr (Or.inr (Or.inr (Or.inl q))))))))))))))))))
theorem pj_19 (q : 120 ≤ a ∧ a ≤ 122) : Pjk c cs a i := Or.inr (Or.inr (Or.inr (Or.inr (Or.inr (Or.inr (Or.inr (Or.inr (Or.inr (Or.inr (Or.inr (Or.inr (Or.inr (Or.inr (Or.inr (Or.inr (Or.inr (Or.inr (Or.inr (Or.inl q)))))))))))))))))))
theorem pj_20 (q : 129 ≤ a ∧ a ≤ 133) : Pjk c cs a i := Or.inr (Or.inr (Or.inr (Or.inr (Or.inr (Or.inr (Or.inr (Or.inr (Or.inr (Or.inr (Or.inr (Or.inr (Or.inr (Or.inr (Or.inr (Or.inr (Or.inr (Or.inr (Or.inr (Or.inr (Or.inl q))))))))))))))))))))
theorem pj_21 (q : a = 136) : Pjk c cs a i := Or.inr (Or.inr (Or.inr (Or.inr (Or.inr (Or.inr (Or.inr (Or.inr (Or.inr (Or.inr (Or.inr (Or.inr (Or.inr (Or.inr (Or.inr (Or.inr (Or.inr (Or.inr (Or.inr (Or.inr (Or.inr (Or.inl q)))))))))))))))))))))
theorem pj_22 (q : a = 137) : Pjk c cs a i := Or.inr (Or.inr (Or.inr (Or.inr (Or.inr (Or.inr (Or.inr (Or.inr (Or.inr (Or.inr (Or.inr (Or.inr (Or.inr (Or.inr (Or.inr (Or.inr (Or.inr (Or.inr (Or.inr (Or.inr (Or.inr (Or.inr (Or.inl q))))))))))))))))))))))
theorem pj_23 (q : a = 78 ∧ (i = 19 ∨ (22 ≤ i ∧ i ≤ 29) ∨ i = 31 ∨ i = 32 ∨ (55 ≤ i ∧ i ≤ 75) ∨ i = 78 ∨ i = 79 ∨ 100 ≤ i)) : Pjk c cs a i := Or.inr (Or.inr (Or.inr (Or.inr (Or.inr (Or.inr (Or.inr (Or.inr (Or.inr (Or.inr (Or.inr (Or.inr (Or.inr (Or.inr (Or.inr (Or.inr (Or.inr (Or.inr (Or.inr (Or.inr (Or.inr (Or.inr (Or.inr (q)))))))))))))))))))))))
theorem Pj_r (q : a = 78 ∧ i ≤ 1) : Pjk c cs a i := Or.inl (Or.inr q)
theorem Pj_x (q : a = 0 ∧ i = 12) : Pjk c cs a i := Or.inl (Or.inl q)
theorem Pj_PS (q : PS a i) : Pjk c cs a i := pj_10 ⟨q.1, by have := q.2; omega⟩
theorem Pj_PM (q : PM a i) : Pjk c cs a i := pj_23 ⟨q.1, by have := q.2; omega⟩
theorem Pj_Of (q : POf a i) : Pjk c cs a i := by
  rcases q with q | q | q | q | q | q
  · exact pj_8 q
  · exact pj_9 ⟨by omega, by omega⟩
  · exact pj_9 ⟨by omega, by omega⟩
  · exact pj_9 ⟨by omega, by omega⟩
  · exact pj_9 ⟨by omega, by omega⟩
  · exact pj_7 ⟨q.1, by have := q.2; omega⟩
theorem Pj_Fa (q : PFa a i) : Pjk c cs a i := by
  unfold PFa at q
  exact pj_20 ⟨by omega, by omega⟩
theorem Pj_Xg (q : PXg a i) (n : ¬ a = 19) (n2 : ¬ a = 20) : Pjk c cs a i := by
  rcases q with q | q | q | q | q | q | q | q | q
  · exact absurd q n
  · exact absurd q n2
  · exact pj_4 ⟨by omega, by omega⟩
  · exact pj_4 ⟨by omega, by omega⟩
  · exact pj_4 ⟨by omega, by omega⟩
  · exact pj_4 ⟨by omega, by omega⟩
  · exact pj_4 ⟨by omega, by omega⟩
  · exact pj_4 ⟨by omega, by omega⟩
  · exact pj_4 ⟨by omega, by omega⟩
end
