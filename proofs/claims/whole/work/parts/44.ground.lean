/-! the field -/
section
variable {X : qX} {d : Nat} {sh : qS} {pt h : qM}
theorem x_marcher {K : Int → qM → Prop} {e n f : Int} (hst : St sh pt) (hm : 0 ≤ h 2 3 ∧ h 2 3 ≤ 20) (k5 : ¬ (0 ≤ e ∧ e < 60 ∧ 0 ≤ n ∧ n < 40 ∧ 0 ≤ f ∧ f < 8) → K (-1) (qup h 0 12 5)) (k7 : 0 ≤ e ∧ e < 60 ∧ 0 ≤ n ∧ n < 40 ∧ 0 ≤ f ∧ f < 8 → h 2 3 = 20 → K (-1) (qup h 0 12 7))
    (k0 : 0 ≤ e ∧ e < 60 ∧ 0 ≤ n ∧ n < 40 ∧ 0 ≤ f ∧ f < 8 → h 2 3 < 20 → K (h 2 3) (qup (qup (qup (qup (qup h 3 (h 2 3) e) 4 (h 2 3) n) 5 (h 2 3) f) 2 3 (h 2 3 + 1)) 0 12 0)) : RunI X (d + 1) mX10_marcher [(2, 0), (0, e), (0, n), (0, f)] sh pt h K := by
  have e1 : h 2 3 + 1 - 1 = h 2 3 := by omega
  refine b_X10_marcher hst  ?_
  refine b_X2_isSpot hst  ?_
  try simp only [qup_ap, Int.reduceEq, Int.reduceNeg, false_and, and_false, true_and, and_true, and_self, reduceIte]
  refine And.intro (fun c1_ => ?_) (fun c1_ => ?_)
  · refine And.intro (fun _ => ?_) (fun c_ => absurd c_ (by decide))
    refine b_X10_none hst  ?_
    intro h2_ eh2_
    subst eh2_
    try simp only [qup_ap, Int.reduceEq, Int.reduceNeg, false_and, and_false, true_and, and_true, and_self, reduceIte]
    try simp only [qup_ap, Int.reduceEq, Int.reduceNeg, false_and, and_false, true_and, and_true, and_self, reduceIte]
    first | exact k5 (by omega) | exact k7 (by omega) (by omega) | (rw [e1]; exact k0 (by omega) (by omega))
  · try simp only [qup_ap, Int.reduceEq, Int.reduceNeg, false_and, and_false, true_and, and_true, and_self, reduceIte]
    refine And.intro (fun c3_ => ?_) (fun c3_ => ?_)
    · refine And.intro (fun _ => ?_) (fun c_ => absurd c_ (by decide))
      refine b_X10_none hst  ?_
      intro h4_ eh4_
      subst eh4_
      try simp only [qup_ap, Int.reduceEq, Int.reduceNeg, false_and, and_false, true_and, and_true, and_self, reduceIte]
      try simp only [qup_ap, Int.reduceEq, Int.reduceNeg, false_and, and_false, true_and, and_true, and_self, reduceIte]
      first | exact k5 (by omega) | exact k7 (by omega) (by omega) | (rw [e1]; exact k0 (by omega) (by omega))
    · try simp only [qup_ap, Int.reduceEq, Int.reduceNeg, false_and, and_false, true_and, and_true, and_self, reduceIte]
      refine And.intro (fun c5_ => ?_) (fun c5_ => ?_)
      · refine And.intro (fun _ => ?_) (fun c_ => absurd c_ (by decide))
        refine b_X10_none hst  ?_
        intro h6_ eh6_
        subst eh6_
        try simp only [qup_ap, Int.reduceEq, Int.reduceNeg, false_and, and_false, true_and, and_true, and_self, reduceIte]
        try simp only [qup_ap, Int.reduceEq, Int.reduceNeg, false_and, and_false, true_and, and_true, and_self, reduceIte]
        first | exact k5 (by omega) | exact k7 (by omega) (by omega) | (rw [e1]; exact k0 (by omega) (by omega))
      · try simp only [qup_ap, Int.reduceEq, Int.reduceNeg, false_and, and_false, true_and, and_true, and_self, reduceIte]
        refine And.intro (fun c7_ => ?_) (fun c7_ => ?_)
        · refine And.intro (fun _ => ?_) (fun c_ => absurd c_ (by decide))
          refine b_X10_none hst  ?_
          intro h8_ eh8_
          subst eh8_
          try simp only [qup_ap, Int.reduceEq, Int.reduceNeg, false_and, and_false, true_and, and_true, and_self, reduceIte]
          try simp only [qup_ap, Int.reduceEq, Int.reduceNeg, false_and, and_false, true_and, and_true, and_self, reduceIte]
          first | exact k5 (by omega) | exact k7 (by omega) (by omega) | (rw [e1]; exact k0 (by omega) (by omega))
        · refine And.intro (fun c_ => absurd c_ (by decide)) (fun _ => ?_)
          refine b_X2_isFace hst  ?_
          try simp only [qup_ap, Int.reduceEq, Int.reduceNeg, false_and, and_false, true_and, and_true, and_self, reduceIte]
          refine And.intro (fun c9_ => ?_) (fun c9_ => ?_)
          · refine And.intro (fun c_ => absurd c_ (by decide)) (fun _ => ?_)
            refine b_X10_none hst  ?_
            intro h10_ eh10_
            subst eh10_
            try simp only [qup_ap, Int.reduceEq, Int.reduceNeg, false_and, and_false, true_and, and_true, and_self, reduceIte]
            try simp only [qup_ap, Int.reduceEq, Int.reduceNeg, false_and, and_false, true_and, and_true, and_self, reduceIte]
            first | exact k5 (by omega) | exact k7 (by omega) (by omega) | (rw [e1]; exact k0 (by omega) (by omega))
          · try simp only [qup_ap, Int.reduceEq, Int.reduceNeg, false_and, and_false, true_and, and_true, and_self, reduceIte]
            refine And.intro (fun c11_ => ?_) (fun c11_ => ?_)
            · refine And.intro (fun c_ => absurd c_ (by decide)) (fun _ => ?_)
              refine b_X10_none hst  ?_
              intro h12_ eh12_
              subst eh12_
              try simp only [qup_ap, Int.reduceEq, Int.reduceNeg, false_and, and_false, true_and, and_true, and_self, reduceIte]
              try simp only [qup_ap, Int.reduceEq, Int.reduceNeg, false_and, and_false, true_and, and_true, and_self, reduceIte]
              first | exact k5 (by omega) | exact k7 (by omega) (by omega) | (rw [e1]; exact k0 (by omega) (by omega))
            · refine And.intro (fun _ => ?_) (fun c_ => absurd c_ (by decide))
              try simp only [qup_ap, Int.reduceEq, Int.reduceNeg, false_and, and_false, true_and, and_true, and_self, reduceIte]
              refine And.intro (fun c13_ => ?_) (fun c13_ => ?_)
              · refine b_X2_addMarcher hst  ?_
                try simp only [qup_ap, Int.reduceEq, Int.reduceNeg, false_and, and_false, true_and, and_true, and_self, reduceIte]
                refine And.intro (by first | omega | exact ⟨by omega, by omega⟩) ?_
                intro h14_ eh14_
                subst eh14_
                try simp only [qup_ap, Int.reduceEq, Int.reduceNeg, false_and, and_false, true_and, and_true, and_self, reduceIte]
                try simp only [qup_ap, Int.reduceEq, Int.reduceNeg, false_and, and_false, true_and, and_true, and_self, reduceIte]
                refine And.intro (by first | omega | exact ⟨by omega, by omega⟩) ?_
                intro h15_ eh15_
                subst eh15_
                try simp only [qup_ap, Int.reduceEq, Int.reduceNeg, false_and, and_false, true_and, and_true, and_self, reduceIte]
                try simp only [qup_ap, Int.reduceEq, Int.reduceNeg, false_and, and_false, true_and, and_true, and_self, reduceIte]
                refine And.intro (by first | omega | exact ⟨by omega, by omega⟩) ?_
                intro h16_ eh16_
                subst eh16_
                try simp only [qup_ap, Int.reduceEq, Int.reduceNeg, false_and, and_false, true_and, and_true, and_self, reduceIte]
                try simp only [qup_ap, Int.reduceEq, Int.reduceNeg, false_and, and_false, true_and, and_true, and_self, reduceIte]
                refine And.intro (by first | omega | exact ⟨by omega, by omega⟩) ?_
                intro h17_ eh17_
                subst eh17_
                try simp only [qup_ap, Int.reduceEq, Int.reduceNeg, false_and, and_false, true_and, and_true, and_self, reduceIte]
                try simp only [qup_ap, Int.reduceEq, Int.reduceNeg, false_and, and_false, true_and, and_true, and_self, reduceIte]
                refine And.intro (by first | omega | exact ⟨by omega, by omega⟩) ?_
                refine b_X10_answer hst  ?_
                intro h18_ eh18_
                subst eh18_
                try simp only [qup_ap, Int.reduceEq, Int.reduceNeg, false_and, and_false, true_and, and_true, and_self, reduceIte]
                try simp only [qup_ap, Int.reduceEq, Int.reduceNeg, false_and, and_false, true_and, and_true, and_self, reduceIte]
                first | exact k5 (by omega) | exact k7 (by omega) (by omega) | (rw [e1]; exact k0 (by omega) (by omega))
              · refine b_X10_none hst  ?_
                intro h19_ eh19_
                subst eh19_
                try simp only [qup_ap, Int.reduceEq, Int.reduceNeg, false_and, and_false, true_and, and_true, and_self, reduceIte]
                try simp only [qup_ap, Int.reduceEq, Int.reduceNeg, false_and, and_false, true_and, and_true, and_self, reduceIte]
                first | exact k5 (by omega) | exact k7 (by omega) (by omega) | (rw [e1]; exact k0 (by omega) (by omega))
theorem m_marcher {K : Int → qM → Prop} {e n f : Int} (hst : St sh pt) (hm : 0 ≤ h 78 7 ∧ h 78 7 ≤ 20) (k5 : ¬ (0 ≤ e ∧ e < 60 ∧ 0 ≤ n ∧ n < 40 ∧ 0 ≤ f ∧ f < 8) → K (-1) (qup (qup (qup h 78 1 0) 78 0 0) 78 0 5)) (k7 : 0 ≤ e ∧ e < 60 ∧ 0 ≤ n ∧ n < 40 ∧ 0 ≤ f ∧ f < 8 → h 78 7 = 20 → K (-1) (qup (qup (qup h 78 1 0) 78 0 0) 78 0 7))
    (k0 : 0 ≤ e ∧ e < 60 ∧ 0 ≤ n ∧ n < 40 ∧ 0 ≤ f ∧ f < 8 → h 78 7 < 20 → K (h 78 7) (qup (qup (qup (qup (qup (qup h 78 1 0) 78 0 0) 82 (h 78 7) e) 83 (h 78 7) n) 84 (h 78 7) f) 78 7 (h 78 7 + 1))) : RunI X (d + 2) mX11_marcher [(2, 78), (0, e), (0, n), (0, f)] sh pt h K := by
  have e1 : h 78 7 + 1 - 1 = h 78 7 := by omega
  refine b_X11_marcher hst  ?_
  intro h1_ eh1_
  subst eh1_
  try simp only [qup_ap, Int.reduceEq, Int.reduceNeg, false_and, and_false, true_and, and_true, and_self, reduceIte]
  intro h2_ eh2_
  subst eh2_
  try simp only [qup_ap, Int.reduceEq, Int.reduceNeg, false_and, and_false, true_and, and_true, and_self, reduceIte]
  refine b_X11_isSpot hst  ?_
  refine b_X11_isIn hst  ?_
  try simp only [qup_ap, Int.reduceEq, Int.reduceNeg, false_and, and_false, true_and, and_true, and_self, reduceIte]
  refine And.intro (fun c3_ => ?_) (fun c3_ => ?_)
  · refine And.intro (fun _ => ?_) (fun c_ => absurd c_ (by decide))
    refine And.intro (fun _ => ?_) (fun c_ => absurd c_ (by decide))
    refine b_X11_refuse hst  ?_
    intro h4_ eh4_
    subst eh4_
    try simp only [qup_ap, Int.reduceEq, Int.reduceNeg, false_and, and_false, true_and, and_true, and_self, reduceIte]
    try simp only [qup_ap, Int.reduceEq, Int.reduceNeg, false_and, and_false, true_and, and_true, and_self, reduceIte]
    first | exact k5 (by omega) | exact k7 (by omega) (by omega) | (rw [e1]; exact k0 (by omega) (by omega))
  · try simp only [qup_ap, Int.reduceEq, Int.reduceNeg, false_and, and_false, true_and, and_true, and_self, reduceIte]
    refine And.intro (fun c5_ => ?_) (fun c5_ => ?_)
    · refine And.intro (fun _ => ?_) (fun c_ => absurd c_ (by decide))
      refine And.intro (fun _ => ?_) (fun c_ => absurd c_ (by decide))
      refine b_X11_refuse hst  ?_
      intro h6_ eh6_
      subst eh6_
      try simp only [qup_ap, Int.reduceEq, Int.reduceNeg, false_and, and_false, true_and, and_true, and_self, reduceIte]
      try simp only [qup_ap, Int.reduceEq, Int.reduceNeg, false_and, and_false, true_and, and_true, and_self, reduceIte]
      first | exact k5 (by omega) | exact k7 (by omega) (by omega) | (rw [e1]; exact k0 (by omega) (by omega))
    · refine And.intro (fun c_ => absurd c_ (by decide)) (fun _ => ?_)
      refine b_X11_isIn hst  ?_
      try simp only [qup_ap, Int.reduceEq, Int.reduceNeg, false_and, and_false, true_and, and_true, and_self, reduceIte]
      refine And.intro (fun c7_ => ?_) (fun c7_ => ?_)
      · refine And.intro (fun _ => ?_) (fun c_ => absurd c_ (by decide))
        refine And.intro (fun _ => ?_) (fun c_ => absurd c_ (by decide))
        refine b_X11_refuse hst  ?_
        intro h8_ eh8_
        subst eh8_
        try simp only [qup_ap, Int.reduceEq, Int.reduceNeg, false_and, and_false, true_and, and_true, and_self, reduceIte]
        try simp only [qup_ap, Int.reduceEq, Int.reduceNeg, false_and, and_false, true_and, and_true, and_self, reduceIte]
        first | exact k5 (by omega) | exact k7 (by omega) (by omega) | (rw [e1]; exact k0 (by omega) (by omega))
      · try simp only [qup_ap, Int.reduceEq, Int.reduceNeg, false_and, and_false, true_and, and_true, and_self, reduceIte]
        refine And.intro (fun c9_ => ?_) (fun c9_ => ?_)
        · refine And.intro (fun _ => ?_) (fun c_ => absurd c_ (by decide))
          refine And.intro (fun _ => ?_) (fun c_ => absurd c_ (by decide))
          refine b_X11_refuse hst  ?_
          intro h10_ eh10_
          subst eh10_
          try simp only [qup_ap, Int.reduceEq, Int.reduceNeg, false_and, and_false, true_and, and_true, and_self, reduceIte]
          try simp only [qup_ap, Int.reduceEq, Int.reduceNeg, false_and, and_false, true_and, and_true, and_self, reduceIte]
          first | exact k5 (by omega) | exact k7 (by omega) (by omega) | (rw [e1]; exact k0 (by omega) (by omega))
        · refine And.intro (fun c_ => absurd c_ (by decide)) (fun _ => ?_)
          refine And.intro (fun c_ => absurd c_ (by decide)) (fun _ => ?_)
          refine b_X11_isIn hst  ?_
          try simp only [qup_ap, Int.reduceEq, Int.reduceNeg, false_and, and_false, true_and, and_true, and_self, reduceIte]
          refine And.intro (fun c11_ => ?_) (fun c11_ => ?_)
          · refine And.intro (fun c_ => absurd c_ (by decide)) (fun _ => ?_)
            refine b_X11_refuse hst  ?_
            intro h12_ eh12_
            subst eh12_
            try simp only [qup_ap, Int.reduceEq, Int.reduceNeg, false_and, and_false, true_and, and_true, and_self, reduceIte]
            try simp only [qup_ap, Int.reduceEq, Int.reduceNeg, false_and, and_false, true_and, and_true, and_self, reduceIte]
            first | exact k5 (by omega) | exact k7 (by omega) (by omega) | (rw [e1]; exact k0 (by omega) (by omega))
          · try simp only [qup_ap, Int.reduceEq, Int.reduceNeg, false_and, and_false, true_and, and_true, and_self, reduceIte]
            refine And.intro (fun c13_ => ?_) (fun c13_ => ?_)
            · refine And.intro (fun c_ => absurd c_ (by decide)) (fun _ => ?_)
              refine b_X11_refuse hst  ?_
              intro h14_ eh14_
              subst eh14_
              try simp only [qup_ap, Int.reduceEq, Int.reduceNeg, false_and, and_false, true_and, and_true, and_self, reduceIte]
              try simp only [qup_ap, Int.reduceEq, Int.reduceNeg, false_and, and_false, true_and, and_true, and_self, reduceIte]
              first | exact k5 (by omega) | exact k7 (by omega) (by omega) | (rw [e1]; exact k0 (by omega) (by omega))
            · refine And.intro (fun _ => ?_) (fun c_ => absurd c_ (by decide))
              try simp only [qup_ap, Int.reduceEq, Int.reduceNeg, false_and, and_false, true_and, and_true, and_self, reduceIte]
              refine And.intro (fun c15_ => ?_) (fun c15_ => ?_)
              · try simp only [qup_ap, Int.reduceEq, Int.reduceNeg, false_and, and_false, true_and, and_true, and_self, reduceIte]
                refine And.intro (by first | omega | exact ⟨by omega, by omega⟩) ?_
                intro h16_ eh16_
                subst eh16_
                try simp only [qup_ap, Int.reduceEq, Int.reduceNeg, false_and, and_false, true_and, and_true, and_self, reduceIte]
                try simp only [qup_ap, Int.reduceEq, Int.reduceNeg, false_and, and_false, true_and, and_true, and_self, reduceIte]
                refine And.intro (by first | omega | exact ⟨by omega, by omega⟩) ?_
                intro h17_ eh17_
                subst eh17_
                try simp only [qup_ap, Int.reduceEq, Int.reduceNeg, false_and, and_false, true_and, and_true, and_self, reduceIte]
                try simp only [qup_ap, Int.reduceEq, Int.reduceNeg, false_and, and_false, true_and, and_true, and_self, reduceIte]
                refine And.intro (by first | omega | exact ⟨by omega, by omega⟩) ?_
                intro h18_ eh18_
                subst eh18_
                try simp only [qup_ap, Int.reduceEq, Int.reduceNeg, false_and, and_false, true_and, and_true, and_self, reduceIte]
                try simp only [qup_ap, Int.reduceEq, Int.reduceNeg, false_and, and_false, true_and, and_true, and_self, reduceIte]
                refine And.intro (by first | omega | exact ⟨by omega, by omega⟩) ?_
                intro h19_ eh19_
                subst eh19_
                try simp only [qup_ap, Int.reduceEq, Int.reduceNeg, false_and, and_false, true_and, and_true, and_self, reduceIte]
                try simp only [qup_ap, Int.reduceEq, Int.reduceNeg, false_and, and_false, true_and, and_true, and_self, reduceIte]
                refine And.intro (by first | omega | exact ⟨by omega, by omega⟩) ?_
                try simp only [qup_ap, Int.reduceEq, Int.reduceNeg, false_and, and_false, true_and, and_true, and_self, reduceIte]
                first | exact k5 (by omega) | exact k7 (by omega) (by omega) | (rw [e1]; exact k0 (by omega) (by omega))
              · refine b_X11_refuse hst  ?_
                intro h20_ eh20_
                subst eh20_
                try simp only [qup_ap, Int.reduceEq, Int.reduceNeg, false_and, and_false, true_and, and_true, and_self, reduceIte]
                try simp only [qup_ap, Int.reduceEq, Int.reduceNeg, false_and, and_false, true_and, and_true, and_self, reduceIte]
                first | exact k5 (by omega) | exact k7 (by omega) (by omega) | (rw [e1]; exact k0 (by omega) (by omega))
theorem x_prop {K : Int → qM → Prop} {e n : Int} (hst : St sh pt) (hb : 0 ≤ n → n < 40 → 0 ≤ h 6 n ∧ h 6 n ≤ 1152921504606846975) (hp : 0 ≤ h 2 5 ∧ h 2 5 ≤ 30)
    (k5 : ¬ (0 ≤ e ∧ e < 60 ∧ 0 ≤ n ∧ n < 40) → K 0 (qup h 0 12 5)) (k7 : 0 ≤ e ∧ e < 60 ∧ 0 ≤ n ∧ n < 40 → h 2 5 = 30 → K 0 (qup h 0 12 7)) (k9 : 0 ≤ e ∧ e < 60 ∧ 0 ≤ n ∧ n < 40 → h 2 5 < 30 → tb (h 6 n) e = true → K 0 (qup h 0 12 9))
    (k0 : 0 ≤ e ∧ e < 60 ∧ 0 ≤ n ∧ n < 40 → h 2 5 < 30 → tb (h 6 n) e = false → K 1 (qup (qup (qup h 6 n (qlor (h 6 n) (qlshl 1 e))) 2 5 (h 2 5 + 1)) 0 12 0)) : RunI X (d + 1) mX10_prop [(2, 0), (0, e), (0, n)] sh pt h K := by
  have bit : 0 ≤ e → e < 60 → 0 ≤ n → n < 40 → qland (qlushr (h 6 n) e) 1 = if tb (h 6 n) e then 1 else 0 := fun a b c d => ql_bit (hb c d).1 (by have := (hb c d).2; omega) a (by omega)
  have bit0 : 0 ≤ e → e < 60 → 0 ≤ n → n < 40 → qland (qlushr (h 6 n) e) 1 = 0 → tb (h 6 n) e = false := fun a b c d z => by
    rw [bit a b c d] at z
    by_cases q : tb (h 6 n) e = true
    · rw [if_pos q] at z; omega
    · simpa using q
  have bit1 : 0 ≤ e → e < 60 → 0 ≤ n → n < 40 → ¬ qland (qlushr (h 6 n) e) 1 = 0 → tb (h 6 n) e = true := fun a b c d z => by
    rw [bit a b c d] at z
    by_cases q : tb (h 6 n) e = true
    · exact q
    · rw [if_neg q] at z; omega
  refine b_X10_prop hst  ?_
  refine b_X2_isSpot hst  ?_
  try simp only [qup_ap, Int.reduceEq, Int.reduceNeg, false_and, and_false, true_and, and_true, and_self, reduceIte]
  refine And.intro (fun c1_ => ?_) (fun c1_ => ?_)
  · refine And.intro (fun c_ => absurd c_ (by decide)) (fun _ => ?_)
    refine b_X10_refuse hst  ?_
    intro h2_ eh2_
    subst eh2_
    try simp only [qup_ap, Int.reduceEq, Int.reduceNeg, false_and, and_false, true_and, and_true, and_self, reduceIte]
    try simp only [qup_ap, Int.reduceEq, Int.reduceNeg, false_and, and_false, true_and, and_true, and_self, reduceIte]
    refine And.intro (by first | omega | exact ⟨by omega, by omega⟩) ?_
    try simp only [qup_ap, Int.reduceEq, Int.reduceNeg, false_and, and_false, true_and, and_true, and_self, reduceIte]
    first | exact k5 (by omega) | exact k7 (by omega) (by omega) | exact k9 (by omega) (by omega) (bit1 (by omega) (by omega) (by omega) (by omega) (by assumption)) | exact k0 (by omega) (by omega) (bit0 (by omega) (by omega) (by omega) (by omega) (by assumption))
  · try simp only [qup_ap, Int.reduceEq, Int.reduceNeg, false_and, and_false, true_and, and_true, and_self, reduceIte]
    refine And.intro (fun c3_ => ?_) (fun c3_ => ?_)
    · refine And.intro (fun c_ => absurd c_ (by decide)) (fun _ => ?_)
      refine b_X10_refuse hst  ?_
      intro h4_ eh4_
      subst eh4_
      try simp only [qup_ap, Int.reduceEq, Int.reduceNeg, false_and, and_false, true_and, and_true, and_self, reduceIte]
      try simp only [qup_ap, Int.reduceEq, Int.reduceNeg, false_and, and_false, true_and, and_true, and_self, reduceIte]
      refine And.intro (by first | omega | exact ⟨by omega, by omega⟩) ?_
      try simp only [qup_ap, Int.reduceEq, Int.reduceNeg, false_and, and_false, true_and, and_true, and_self, reduceIte]
      first | exact k5 (by omega) | exact k7 (by omega) (by omega) | exact k9 (by omega) (by omega) (bit1 (by omega) (by omega) (by omega) (by omega) (by assumption)) | exact k0 (by omega) (by omega) (bit0 (by omega) (by omega) (by omega) (by omega) (by assumption))
    · try simp only [qup_ap, Int.reduceEq, Int.reduceNeg, false_and, and_false, true_and, and_true, and_self, reduceIte]
      refine And.intro (fun c5_ => ?_) (fun c5_ => ?_)
      · refine And.intro (fun c_ => absurd c_ (by decide)) (fun _ => ?_)
        refine b_X10_refuse hst  ?_
        intro h6_ eh6_
        subst eh6_
        try simp only [qup_ap, Int.reduceEq, Int.reduceNeg, false_and, and_false, true_and, and_true, and_self, reduceIte]
        try simp only [qup_ap, Int.reduceEq, Int.reduceNeg, false_and, and_false, true_and, and_true, and_self, reduceIte]
        refine And.intro (by first | omega | exact ⟨by omega, by omega⟩) ?_
        try simp only [qup_ap, Int.reduceEq, Int.reduceNeg, false_and, and_false, true_and, and_true, and_self, reduceIte]
        first | exact k5 (by omega) | exact k7 (by omega) (by omega) | exact k9 (by omega) (by omega) (bit1 (by omega) (by omega) (by omega) (by omega) (by assumption)) | exact k0 (by omega) (by omega) (bit0 (by omega) (by omega) (by omega) (by omega) (by assumption))
      · try simp only [qup_ap, Int.reduceEq, Int.reduceNeg, false_and, and_false, true_and, and_true, and_self, reduceIte]
        refine And.intro (fun c7_ => ?_) (fun c7_ => ?_)
        · refine And.intro (fun c_ => absurd c_ (by decide)) (fun _ => ?_)
          refine b_X10_refuse hst  ?_
          intro h8_ eh8_
          subst eh8_
          try simp only [qup_ap, Int.reduceEq, Int.reduceNeg, false_and, and_false, true_and, and_true, and_self, reduceIte]
          try simp only [qup_ap, Int.reduceEq, Int.reduceNeg, false_and, and_false, true_and, and_true, and_self, reduceIte]
          refine And.intro (by first | omega | exact ⟨by omega, by omega⟩) ?_
          try simp only [qup_ap, Int.reduceEq, Int.reduceNeg, false_and, and_false, true_and, and_true, and_self, reduceIte]
          first | exact k5 (by omega) | exact k7 (by omega) (by omega) | exact k9 (by omega) (by omega) (bit1 (by omega) (by omega) (by omega) (by omega) (by assumption)) | exact k0 (by omega) (by omega) (bit0 (by omega) (by omega) (by omega) (by omega) (by assumption))
        · refine And.intro (fun _ => ?_) (fun c_ => absurd c_ (by decide))
          try simp only [qup_ap, Int.reduceEq, Int.reduceNeg, false_and, and_false, true_and, and_true, and_self, reduceIte]
          refine And.intro (fun c9_ => ?_) (fun c9_ => ?_)
          · refine b_X2_hasProp hst  ?_
            try simp only [qup_ap, Int.reduceEq, Int.reduceNeg, false_and, and_false, true_and, and_true, and_self, reduceIte]
            refine And.intro (by first | omega | exact ⟨by omega, by omega⟩) ?_
            try simp only [qup_ap, Int.reduceEq, Int.reduceNeg, false_and, and_false, true_and, and_true, and_self, reduceIte]
            refine And.intro (fun c10_ => ?_) (fun c10_ => ?_)
            · refine And.intro (fun _ => ?_) (fun c_ => absurd c_ (by decide))
              refine b_X2_addProp hst  ?_
              try simp only [qup_ap, Int.reduceEq, Int.reduceNeg, false_and, and_false, true_and, and_true, and_self, reduceIte]
              refine And.intro (by first | omega | exact ⟨by omega, by omega⟩) ?_
              try simp only [qup_ap, Int.reduceEq, Int.reduceNeg, false_and, and_false, true_and, and_true, and_self, reduceIte]
              refine And.intro (by first | omega | exact ⟨by omega, by omega⟩) ?_
              intro h11_ eh11_
              subst eh11_
              try simp only [qup_ap, Int.reduceEq, Int.reduceNeg, false_and, and_false, true_and, and_true, and_self, reduceIte]
              try simp only [qup_ap, Int.reduceEq, Int.reduceNeg, false_and, and_false, true_and, and_true, and_self, reduceIte]
              refine And.intro (by first | omega | exact ⟨by omega, by omega⟩) ?_
              intro h12_ eh12_
              subst eh12_
              try simp only [qup_ap, Int.reduceEq, Int.reduceNeg, false_and, and_false, true_and, and_true, and_self, reduceIte]
              refine b_X10_agree hst  ?_
              intro h13_ eh13_
              subst eh13_
              try simp only [qup_ap, Int.reduceEq, Int.reduceNeg, false_and, and_false, true_and, and_true, and_self, reduceIte]
              try simp only [qup_ap, Int.reduceEq, Int.reduceNeg, false_and, and_false, true_and, and_true, and_self, reduceIte]
              refine And.intro (by first | omega | exact ⟨by omega, by omega⟩) ?_
              try simp only [qup_ap, Int.reduceEq, Int.reduceNeg, false_and, and_false, true_and, and_true, and_self, reduceIte]
              first | exact k5 (by omega) | exact k7 (by omega) (by omega) | exact k9 (by omega) (by omega) (bit1 (by omega) (by omega) (by omega) (by omega) (by assumption)) | exact k0 (by omega) (by omega) (bit0 (by omega) (by omega) (by omega) (by omega) (by assumption))
            · refine And.intro (fun c_ => absurd c_ (by decide)) (fun _ => ?_)
              refine b_X10_refuse hst  ?_
              intro h14_ eh14_
              subst eh14_
              try simp only [qup_ap, Int.reduceEq, Int.reduceNeg, false_and, and_false, true_and, and_true, and_self, reduceIte]
              try simp only [qup_ap, Int.reduceEq, Int.reduceNeg, false_and, and_false, true_and, and_true, and_self, reduceIte]
              refine And.intro (by first | omega | exact ⟨by omega, by omega⟩) ?_
              try simp only [qup_ap, Int.reduceEq, Int.reduceNeg, false_and, and_false, true_and, and_true, and_self, reduceIte]
              first | exact k5 (by omega) | exact k7 (by omega) (by omega) | exact k9 (by omega) (by omega) (bit1 (by omega) (by omega) (by omega) (by omega) (by assumption)) | exact k0 (by omega) (by omega) (bit0 (by omega) (by omega) (by omega) (by omega) (by assumption))
          · refine b_X10_refuse hst  ?_
            intro h15_ eh15_
            subst eh15_
            try simp only [qup_ap, Int.reduceEq, Int.reduceNeg, false_and, and_false, true_and, and_true, and_self, reduceIte]
            try simp only [qup_ap, Int.reduceEq, Int.reduceNeg, false_and, and_false, true_and, and_true, and_self, reduceIte]
            refine And.intro (by first | omega | exact ⟨by omega, by omega⟩) ?_
            try simp only [qup_ap, Int.reduceEq, Int.reduceNeg, false_and, and_false, true_and, and_true, and_self, reduceIte]
            first | exact k5 (by omega) | exact k7 (by omega) (by omega) | exact k9 (by omega) (by omega) (bit1 (by omega) (by omega) (by omega) (by omega) (by assumption)) | exact k0 (by omega) (by omega) (bit0 (by omega) (by omega) (by omega) (by omega) (by assumption))
theorem m_prop {K : Int → qM → Prop} {e n : Int} (hst : St sh pt) (hp : 0 ≤ h 78 8 ∧ h 78 8 ≤ 30)
    (k5 : ¬ (0 ≤ e ∧ e < 60 ∧ 0 ≤ n ∧ n < 40) → K 0 (qup (qup (qup h 78 1 0) 78 0 0) 78 0 5)) (k7 : 0 ≤ e ∧ e < 60 ∧ 0 ≤ n ∧ n < 40 → h 78 8 = 30 → K 0 (qup (qup (qup h 78 1 0) 78 0 0) 78 0 7)) (k9 : 0 ≤ e ∧ e < 60 ∧ 0 ≤ n ∧ n < 40 → h 78 8 < 30 → ¬ h 86 (40 * e + n) = 0 → K 0 (qup (qup (qup h 78 1 0) 78 0 0) 78 0 9))
    (k0 : 0 ≤ e ∧ e < 60 ∧ 0 ≤ n ∧ n < 40 → h 78 8 < 30 → h 86 (40 * e + n) = 0 → K 1 (qup (qup (qup (qup h 78 1 0) 78 0 0) 86 (40 * e + n) 1) 78 8 (h 78 8 + 1))) : RunI X (d + 2) mX11_prop [(2, 78), (0, e), (0, n)] sh pt h K := by
  refine b_X11_prop hst  ?_
  intro h1_ eh1_
  subst eh1_
  try simp only [qup_ap, Int.reduceEq, Int.reduceNeg, false_and, and_false, true_and, and_true, and_self, reduceIte]
  intro h2_ eh2_
  subst eh2_
  try simp only [qup_ap, Int.reduceEq, Int.reduceNeg, false_and, and_false, true_and, and_true, and_self, reduceIte]
  refine b_X11_isSpot hst  ?_
  refine b_X11_isIn hst  ?_
  try simp only [qup_ap, Int.reduceEq, Int.reduceNeg, false_and, and_false, true_and, and_true, and_self, reduceIte]
  refine And.intro (fun c3_ => ?_) (fun c3_ => ?_)
  · refine And.intro (fun _ => ?_) (fun c_ => absurd c_ (by decide))
    refine And.intro (fun c_ => absurd c_ (by decide)) (fun _ => ?_)
    refine b_X11_no hst  ?_
    intro h4_ eh4_
    subst eh4_
    try simp only [qup_ap, Int.reduceEq, Int.reduceNeg, false_and, and_false, true_and, and_true, and_self, reduceIte]
    try simp only [qup_ap, Int.reduceEq, Int.reduceNeg, false_and, and_false, true_and, and_true, and_self, reduceIte]
    refine And.intro (by first | omega | exact ⟨by omega, by omega⟩) ?_
    try simp only [qup_ap, Int.reduceEq, Int.reduceNeg, false_and, and_false, true_and, and_true, and_self, reduceIte]
    first | exact k5 (by omega) | exact k7 (by omega) (by omega) | exact k9 (by omega) (by omega) (by assumption) | exact k0 (by omega) (by omega) (by assumption)
  · try simp only [qup_ap, Int.reduceEq, Int.reduceNeg, false_and, and_false, true_and, and_true, and_self, reduceIte]
    refine And.intro (fun c5_ => ?_) (fun c5_ => ?_)
    · refine And.intro (fun _ => ?_) (fun c_ => absurd c_ (by decide))
      refine And.intro (fun c_ => absurd c_ (by decide)) (fun _ => ?_)
      refine b_X11_no hst  ?_
      intro h6_ eh6_
      subst eh6_
      try simp only [qup_ap, Int.reduceEq, Int.reduceNeg, false_and, and_false, true_and, and_true, and_self, reduceIte]
      try simp only [qup_ap, Int.reduceEq, Int.reduceNeg, false_and, and_false, true_and, and_true, and_self, reduceIte]
      refine And.intro (by first | omega | exact ⟨by omega, by omega⟩) ?_
      try simp only [qup_ap, Int.reduceEq, Int.reduceNeg, false_and, and_false, true_and, and_true, and_self, reduceIte]
      first | exact k5 (by omega) | exact k7 (by omega) (by omega) | exact k9 (by omega) (by omega) (by assumption) | exact k0 (by omega) (by omega) (by assumption)
    · refine And.intro (fun c_ => absurd c_ (by decide)) (fun _ => ?_)
      refine b_X11_isIn hst  ?_
      try simp only [qup_ap, Int.reduceEq, Int.reduceNeg, false_and, and_false, true_and, and_true, and_self, reduceIte]
      refine And.intro (fun c7_ => ?_) (fun c7_ => ?_)
      · refine And.intro (fun _ => ?_) (fun c_ => absurd c_ (by decide))
        refine And.intro (fun c_ => absurd c_ (by decide)) (fun _ => ?_)
        refine b_X11_no hst  ?_
        intro h8_ eh8_
        subst eh8_
        try simp only [qup_ap, Int.reduceEq, Int.reduceNeg, false_and, and_false, true_and, and_true, and_self, reduceIte]
        try simp only [qup_ap, Int.reduceEq, Int.reduceNeg, false_and, and_false, true_and, and_true, and_self, reduceIte]
        refine And.intro (by first | omega | exact ⟨by omega, by omega⟩) ?_
        try simp only [qup_ap, Int.reduceEq, Int.reduceNeg, false_and, and_false, true_and, and_true, and_self, reduceIte]
        first | exact k5 (by omega) | exact k7 (by omega) (by omega) | exact k9 (by omega) (by omega) (by assumption) | exact k0 (by omega) (by omega) (by assumption)
      · try simp only [qup_ap, Int.reduceEq, Int.reduceNeg, false_and, and_false, true_and, and_true, and_self, reduceIte]
        refine And.intro (fun c9_ => ?_) (fun c9_ => ?_)
        · refine And.intro (fun _ => ?_) (fun c_ => absurd c_ (by decide))
          refine And.intro (fun c_ => absurd c_ (by decide)) (fun _ => ?_)
          refine b_X11_no hst  ?_
          intro h10_ eh10_
          subst eh10_
          try simp only [qup_ap, Int.reduceEq, Int.reduceNeg, false_and, and_false, true_and, and_true, and_self, reduceIte]
          try simp only [qup_ap, Int.reduceEq, Int.reduceNeg, false_and, and_false, true_and, and_true, and_self, reduceIte]
          refine And.intro (by first | omega | exact ⟨by omega, by omega⟩) ?_
          try simp only [qup_ap, Int.reduceEq, Int.reduceNeg, false_and, and_false, true_and, and_true, and_self, reduceIte]
          first | exact k5 (by omega) | exact k7 (by omega) (by omega) | exact k9 (by omega) (by omega) (by assumption) | exact k0 (by omega) (by omega) (by assumption)
        · refine And.intro (fun c_ => absurd c_ (by decide)) (fun _ => ?_)
          refine And.intro (fun _ => ?_) (fun c_ => absurd c_ (by decide))
          try simp only [qup_ap, Int.reduceEq, Int.reduceNeg, false_and, and_false, true_and, and_true, and_self, reduceIte]
          refine And.intro (fun c11_ => ?_) (fun c11_ => ?_)
          · try simp only [qup_ap, Int.reduceEq, Int.reduceNeg, false_and, and_false, true_and, and_true, and_self, reduceIte]
            refine And.intro (by first | omega | exact ⟨by omega, by omega⟩) ?_
            try simp only [qup_ap, Int.reduceEq, Int.reduceNeg, false_and, and_false, true_and, and_true, and_self, reduceIte]
            refine And.intro (by first | omega | exact ⟨by omega, by omega⟩) ?_
            try simp only [qup_ap, Int.reduceEq, Int.reduceNeg, false_and, and_false, true_and, and_true, and_self, reduceIte]
            refine And.intro (by first | omega | exact ⟨by omega, by omega⟩) ?_
            try simp only [qup_ap, Int.reduceEq, Int.reduceNeg, false_and, and_false, true_and, and_true, and_self, reduceIte]
            refine And.intro (fun c12_ => ?_) (fun c12_ => ?_)
            · try simp only [qup_ap, Int.reduceEq, Int.reduceNeg, false_and, and_false, true_and, and_true, and_self, reduceIte]
              refine And.intro (by first | omega | exact ⟨by omega, by omega⟩) ?_
              try simp only [qup_ap, Int.reduceEq, Int.reduceNeg, false_and, and_false, true_and, and_true, and_self, reduceIte]
              refine And.intro (by first | omega | exact ⟨by omega, by omega⟩) ?_
              try simp only [qup_ap, Int.reduceEq, Int.reduceNeg, false_and, and_false, true_and, and_true, and_self, reduceIte]
              refine And.intro (by first | omega | exact ⟨by omega, by omega⟩) ?_
              intro h13_ eh13_
              subst eh13_
              try simp only [qup_ap, Int.reduceEq, Int.reduceNeg, false_and, and_false, true_and, and_true, and_self, reduceIte]
              try simp only [qup_ap, Int.reduceEq, Int.reduceNeg, false_and, and_false, true_and, and_true, and_self, reduceIte]
              refine And.intro (by first | omega | exact ⟨by omega, by omega⟩) ?_
              intro h14_ eh14_
              subst eh14_
              try simp only [qup_ap, Int.reduceEq, Int.reduceNeg, false_and, and_false, true_and, and_true, and_self, reduceIte]
              try simp only [qup_ap, Int.reduceEq, Int.reduceNeg, false_and, and_false, true_and, and_true, and_self, reduceIte]
              first | exact k5 (by omega) | exact k7 (by omega) (by omega) | exact k9 (by omega) (by omega) (by assumption) | exact k0 (by omega) (by omega) (by assumption)
            · refine b_X11_no hst  ?_
              intro h15_ eh15_
              subst eh15_
              try simp only [qup_ap, Int.reduceEq, Int.reduceNeg, false_and, and_false, true_and, and_true, and_self, reduceIte]
              try simp only [qup_ap, Int.reduceEq, Int.reduceNeg, false_and, and_false, true_and, and_true, and_self, reduceIte]
              refine And.intro (by first | omega | exact ⟨by omega, by omega⟩) ?_
              try simp only [qup_ap, Int.reduceEq, Int.reduceNeg, false_and, and_false, true_and, and_true, and_self, reduceIte]
              first | exact k5 (by omega) | exact k7 (by omega) (by omega) | exact k9 (by omega) (by omega) (by assumption) | exact k0 (by omega) (by omega) (by assumption)
          · refine b_X11_no hst  ?_
            intro h16_ eh16_
            subst eh16_
            try simp only [qup_ap, Int.reduceEq, Int.reduceNeg, false_and, and_false, true_and, and_true, and_self, reduceIte]
            try simp only [qup_ap, Int.reduceEq, Int.reduceNeg, false_and, and_false, true_and, and_true, and_self, reduceIte]
            refine And.intro (by first | omega | exact ⟨by omega, by omega⟩) ?_
            try simp only [qup_ap, Int.reduceEq, Int.reduceNeg, false_and, and_false, true_and, and_true, and_self, reduceIte]
            first | exact k5 (by omega) | exact k7 (by omega) (by omega) | exact k9 (by omega) (by omega) (by assumption) | exact k0 (by omega) (by omega) (by assumption)
theorem x_steps {K : Int → qM → Prop} {v : Int} (hst : St sh pt) (k5 : ¬ (1 ≤ v ∧ v ≤ 50) → K 0 (qup h 0 12 5)) (k0 : 1 ≤ v → v ≤ 50 → K 1 (qup (qup h 2 9 v) 0 12 0)) : RunI X (d + 1) mX10_steps [(2, 0), (0, v)] sh pt h K := by
  refine b_X10_steps hst  ?_
  refine And.intro (fun c1_ => ?_) (fun c1_ => ?_)
  · refine b_X10_refuse hst  ?_
    intro h2_ eh2_
    subst eh2_
    refine And.intro (by first | omega | exact ⟨by omega, by omega⟩) ?_
    first | exact k5 (by omega) | exact k0 (by omega) (by omega)
  · refine And.intro (fun c3_ => ?_) (fun c3_ => ?_)
    · intro h4_ eh4_
      subst eh4_
      refine b_X10_agree hst  ?_
      intro h5_ eh5_
      subst eh5_
      refine And.intro (by first | omega | exact ⟨by omega, by omega⟩) ?_
      first | exact k5 (by omega) | exact k0 (by omega) (by omega)
    · refine b_X10_refuse hst  ?_
      intro h6_ eh6_
      subst eh6_
      refine And.intro (by first | omega | exact ⟨by omega, by omega⟩) ?_
      first | exact k5 (by omega) | exact k0 (by omega) (by omega)
theorem m_steps {K : Int → qM → Prop} {v : Int} (hst : St sh pt) (k5 : ¬ (1 ≤ v ∧ v ≤ 50) → K 0 (qup (qup (qup h 78 1 0) 78 0 0) 78 0 5)) (k0 : 1 ≤ v → v ≤ 50 → K 1 (qup (qup (qup h 78 1 0) 78 0 0) 78 10 v)) : RunI X (d + 1) mX11_steps [(2, 78), (0, v)] sh pt h K := by
  refine b_X11_steps hst  ?_
  intro h1_ eh1_
  subst eh1_
  intro h2_ eh2_
  subst eh2_
  refine b_X11_isIn hst  ?_
  refine And.intro (fun c3_ => ?_) (fun c3_ => ?_)
  · refine And.intro (fun c_ => absurd c_ (by decide)) (fun _ => ?_)
    refine b_X11_no hst  ?_
    intro h4_ eh4_
    subst eh4_
    refine And.intro (by first | omega | exact ⟨by omega, by omega⟩) ?_
    first | exact k5 (by omega) | exact k0 (by omega) (by omega)
  · refine And.intro (fun c5_ => ?_) (fun c5_ => ?_)
    · refine And.intro (fun c_ => absurd c_ (by decide)) (fun _ => ?_)
      refine b_X11_no hst  ?_
      intro h6_ eh6_
      subst eh6_
      refine And.intro (by first | omega | exact ⟨by omega, by omega⟩) ?_
      first | exact k5 (by omega) | exact k0 (by omega) (by omega)
    · refine And.intro (fun _ => ?_) (fun c_ => absurd c_ (by decide))
      intro h7_ eh7_
      subst eh7_
      first | exact k5 (by omega) | exact k0 (by omega) (by omega)
/-- the letters of a name -/
def nmOk : Nat → Int → Bool
  | 0, _ => true
  | k + 1, v => if v = 0 then true else if v % 32 < 1 ∨ 26 < v % 32 then false else nmOk k (v / 32)
theorem nm1 {k : Nat} {v : Int} (h : v = 0) : nmOk (k + 1) v = true := by unfold nmOk; rw [if_pos h]
theorem nm2 {k : Nat} {v : Int} (h : ¬ v = 0) (h2 : v % 32 < 1 ∨ 26 < v % 32) : nmOk (k + 1) v = false := by unfold nmOk; rw [if_neg h, if_pos h2]
theorem nm3 {k : Nat} {v : Int} (h : ¬ v = 0) (h2 : ¬ (v % 32 < 1 ∨ 26 < v % 32)) : nmOk (k + 1) v = nmOk k (v / 32) := by
  show (if v = 0 then true else if v % 32 < 1 ∨ 26 < v % 32 then false else nmOk k (v / 32)) = _
  rw [if_neg h, if_neg h2]
theorem x_isName_l {K : Int → qM → Prop} (hst : St sh pt) : ∀ (k : Nat) (v i : Int), 0 ≤ v → v < 1099511627776 → i + k = 8 → 0 ≤ i → K (if nmOk k v then 1 else 0) h → EvI X d mX2_isName 21 [(8, -1), (8, -1), (1, v), (8, -1), (0, i), (8, -1), (8, -1)] [] sh pt h K := by
  intro k
  induction k with
  | zero =>
    intro v i h0 h1 hi h2 k
    exact b_X2_isName_21 hst ⟨fun _ => k, fun c => absurd c (by omega)⟩
  | succ k ih =>
    intro v i h0 h1 hi h2 k
    refine b_X2_isName_21 hst ?_
    rw [qland_31, qlshr_5 ⟨by omega, by omega⟩]
    refine ⟨fun c => absurd c (by omega), fun _ => ⟨fun c => ?_, fun c => ⟨fun c2 => ?_, fun c2 => ⟨fun c3 => ⟨⟨by omega, by omega⟩, ?_⟩, fun c3 => ?_⟩⟩⟩⟩
    · rw [nm1 c, if_pos rfl] at k
      exact k
    · rw [nm2 c (by omega), if_neg (by decide)] at k
      exact k
    · rw [nm3 c (by omega)] at k
      exact ih (v / 32) (i + 1) (by omega) (by omega) (by omega) (by omega) k
    · rw [nm2 c (by omega), if_neg (by decide)] at k
      exact k
theorem m_isName_l {K : Int → qM → Prop} (hst : St sh pt) : ∀ (q : Nat) (v : Int), 0 ≤ v → v < 32 ^ q → K (if nmOk q v then 1 else 0) h → EvI X d mX11_isName 18 [(8, -1), (8, -1), (1, v), (8, -1)] [] sh pt h K := by
  intro q
  induction q with
  | zero =>
    intro v h0 h1 k
    have h2 : v < 1 := h1
    exact b_X11_isName_18 hst ⟨fun _ => k, fun c => absurd c (by omega)⟩
  | succ q ih =>
    intro v h0 h1 k
    have e : (32 : Int) ^ (q + 1) = 32 ^ q * 32 := Int.pow_succ ..
    rw [e] at h1
    refine b_X11_isName_18 hst ⟨fun c => ?_, fun c => ⟨h0, ⟨fun c2 => ?_, fun c2 => ⟨h0, ⟨fun c3 => ⟨h0, ?_⟩, fun c3 => ?_⟩⟩⟩⟩⟩
    · rw [nm1 (by omega), if_pos rfl] at k
      exact k
    · rw [nm2 (by omega) (by omega), if_neg (by decide)] at k
      exact k
    · rw [nm3 (by omega) (by omega)] at k
      refine ih (v / 32) (by omega) ?_ k
      generalize (32 : Int) ^ q = P at h1 ⊢
      omega
    · rw [nm2 (by omega) (by omega), if_neg (by decide)] at k
      exact k
def isNm (v : Int) : Prop := 0 < v ∧ v < 1099511627776 ∧ nmOk 8 v = true
theorem x_isName {K : Int → qM → Prop} {v : Int} (hst : St sh pt) (k1 : isNm v → K 1 h) (k0 : ¬ isNm v → K 0 h) : RunI X d mX2_isName [(1, v)] sh pt h K := by
  refine b_X2_isName hst ⟨fun c => k0 (fun z => by have := z.1; omega), fun c => ⟨fun c2 => ?_, fun c2 => k0 (fun z => by have := z.2.1; omega)⟩⟩
  refine x_isName_l hst 8 v 0 (by omega) c2 (by omega) (by omega) ?_
  by_cases z : nmOk 8 v = true
  · rw [if_pos z]
    exact k1 ⟨c, c2, z⟩
  · rw [if_neg z]
    exact k0 (fun q => z q.2.2)
theorem m_isName {K : Int → qM → Prop} {v : Int} (hst : St sh pt) (k1 : isNm v → K 1 h) (k0 : ¬ isNm v → K 0 h) : RunI X d mX11_isName [(1, v)] sh pt h K := by
  refine b_X11_isName hst ⟨fun c => k0 (fun z => by have := z.1; omega), fun c => ⟨fun c2 => ?_, fun c2 => k0 (fun z => by have := z.2.1; omega)⟩⟩
  refine m_isName_l hst 8 v (by omega) (by have e : (32 : Int) ^ 8 = 1099511627776 := by decide
                                           rw [e]; exact c2) ?_
  by_cases z : nmOk 8 v = true
  · rw [if_pos z]
    exact k1 ⟨by omega, c2, z⟩
  · rw [if_neg z]
    exact k0 (fun q => z q.2.2)
/-- the first place of a value in a row, or -1 -/
def fnd (f : Int → Int) (v : Int) : Nat → Int → Int
  | 0, _ => -1
  | k + 1, i => if f i = v then i else fnd f v k (i + 1)
theorem fnd_ok {f : Int → Int} {v : Int} : ∀ (k : Nat) (i : Int), fnd f v k i = -1 ∨ (i ≤ fnd f v k i ∧ fnd f v k i < i + k ∧ f (fnd f v k i) = v) := by
  intro k
  induction k with
  | zero => intro i; exact Or.inl rfl
  | succ k ih =>
    intro i
    unfold fnd
    split
    · right
      exact ⟨by omega, by omega, by assumption⟩
    · rcases ih (i + 1) with q | q
      · exact Or.inl q
      · right
        exact ⟨by omega, by omega, q.2.2⟩
theorem x_groupNamed {K : Int → qM → Prop} {v : Int} (hst : St sh pt) (hg : h 2 8 ≤ 8) : ∀ (k : Nat) (i : Int), i + k = h 2 8 → 0 ≤ i → K (fnd (h 7) v k i) h → EvI X d mX2_groupNamed 2 [(2, 2), (1, v), (8, -1), (0, i)] [] sh pt h K := by
  intro k
  induction k with
  | zero =>
    intro i h1 h2 k
    exact b_X2_groupNamed_2 hst ⟨fun _ => k, fun c => absurd c (by omega)⟩
  | succ k ih =>
    intro i h1 h2 k
    unfold fnd at k
    refine b_X2_groupNamed_2 hst ⟨fun c => absurd c (by omega), fun _ => ⟨by omega, fun c => ⟨⟨by omega, by omega⟩, ?_⟩, fun c => ?_⟩⟩
    · rw [if_neg c] at k
      exact ih (i + 1) (by omega) (by omega) k
    · rw [if_pos c] at k
      exact k
theorem m_groupOf {K : Int → qM → Prop} {v : Int} (hst : St sh pt) (hg : h 78 9 ≤ 8) : ∀ (k : Nat) (i : Int), i + k = h 78 9 → 0 ≤ i → K (fnd (h 87) v k i) h → EvI X d mX11_groupOf 2 [(2, 78), (1, v), (8, -1), (0, i)] [] sh pt h K := by
  intro k
  induction k with
  | zero =>
    intro i h1 h2 k
    exact b_X11_groupOf_2 hst ⟨fun _ => k, fun c => absurd c (by omega)⟩
  | succ k ih =>
    intro i h1 h2 k
    unfold fnd at k
    refine b_X11_groupOf_2 hst ⟨fun c => absurd c (by omega), fun _ => ⟨by omega, fun c => ⟨⟨by omega, by omega⟩, ?_⟩, fun c => ?_⟩⟩
    · rw [if_neg c] at k
      exact ih (i + 1) (by omega) (by omega) k
    · rw [if_pos c] at k
      exact k
end
