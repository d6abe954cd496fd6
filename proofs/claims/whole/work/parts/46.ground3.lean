section
variable {X : qX} {d : Nat} {sh : qS} {pt h : qM}
/-- the twenty bytes of a feed() -/
def by20 (v1 v2 v3 v4 v5 j : Int) : Int := byt (if j / 4 = 0 then v1 else if j / 4 = 1 then v2 else if j / 4 = 2 then v3 else if j / 4 = 3 then v4 else v5) (j % 4)
abbrev PF (n : Int) (a i : Int) : Prop := (a = 10 ∧ n ≤ i ∧ i < n + 20) ∨ (a = 9 ∧ i = 1)
theorem x_feed {K : Int → qM → Prop} {v1 v2 v3 v4 v5 n : Int} (hst : St sh pt) (q1 : qI v1) (q2 : qI v2) (q3 : qI v3) (q4 : qI v4) (q5 : qI v5) (hn : h 9 1 = n) (h0 : 0 ≤ n)
    (k0 : 480 < n → K (-1) h) (k1 : n ≤ 480 → ∀ h1, Fr (PF n) h h1 → h1 9 1 = n + 20 → (∀ j : Int, 0 ≤ j → j < 20 → h1 10 (n + j) = by20 v1 v2 v3 v4 v5 j) → K (n + 20) h1) : RunI X (d + 1) mX10_feed [(2, 0), (0, v1), (0, v2), (0, v3), (0, v4), (0, v5)] sh pt h K := by
  refine b_X10_feed hst (b_X4_hasRoomForTwenty hst ⟨fun c => ⟨fun c => absurd rfl c, fun _ => k0 (by omega)⟩, fun c => ⟨fun _ => ?_, fun c => absurd c (by decide)⟩⟩)
  refine x_append hst q1 hn h0 (by omega) (fun a1 f1 l1 t1 => ?_)
  refine x_append hst q2 l1 (by omega) (by omega) (fun a2 f2 l2 t2 => ?_)
  refine x_append hst q3 l2 (by omega) (by omega) (fun a3 f3 l3 t3 => ?_)
  refine x_append hst q4 l3 (by omega) (by omega) (fun a4 f4 l4 t4 => ?_)
  refine x_append hst q5 l4 (by omega) (by omega) (fun a5 f5 l5 t5 => ?_)
  have e : a5 9 1 = n + 20 := by omega
  rw [e]
  refine k1 (by omega) a5 ?_ e ?_
  · exact ((((f1.wk (by intro a i; show PA _ a i → PF _ a i; omega)).tr (f2.wk (by intro a i; show PA _ a i → PF _ a i; omega))).tr (f3.wk (by intro a i; show PA _ a i → PF _ a i; omega))).tr (f4.wk (by intro a i; show PA _ a i → PF _ a i; omega))).tr (f5.wk (by intro a i; show PA _ a i → PF _ a i; omega))
  · intro j ja jb
    unfold by20
    have e : j / 4 = 0 ∨ j / 4 = 1 ∨ j / 4 = 2 ∨ j / 4 = 3 ∨ j / 4 = 4 := by omega
    rcases e with e | e | e | e | e
    · rw [if_pos e, f5 _ _ (by show ¬ PA _ _ _; omega), f4 _ _ (by show ¬ PA _ _ _; omega), f3 _ _ (by show ¬ PA _ _ _; omega), f2 _ _ (by show ¬ PA _ _ _; omega), ← t1 (j % 4) (by omega) (by omega)]
      congr 1
      omega
    · rw [if_neg (by omega), if_pos e, f5 _ _ (by show ¬ PA _ _ _; omega), f4 _ _ (by show ¬ PA _ _ _; omega), f3 _ _ (by show ¬ PA _ _ _; omega), ← t2 (j % 4) (by omega) (by omega)]
      congr 1
      omega
    · rw [if_neg (by omega), if_neg (by omega), if_pos e, f5 _ _ (by show ¬ PA _ _ _; omega), f4 _ _ (by show ¬ PA _ _ _; omega), ← t3 (j % 4) (by omega) (by omega)]
      congr 1
      omega
    · rw [if_neg (by omega), if_neg (by omega), if_neg (by omega), if_pos e, f5 _ _ (by show ¬ PA _ _ _; omega), ← t4 (j % 4) (by omega) (by omega)]
      congr 1
      omega
    · rw [if_neg (by omega), if_neg (by omega), if_neg (by omega), if_neg (by omega), ← t5 (j % 4) (by omega) (by omega)]
      congr 1
      omega
abbrev PG (n : Int) (a i : Int) : Prop := (a = 88 ∧ n ≤ i ∧ i < n + 20) ∨ (a = 78 ∧ (i = 18 ∨ i = 1))
theorem m_feed {K : Int → qM → Prop} {v1 v2 v3 v4 v5 n : Int} (hst : St sh pt) (q1 : qI v1) (q2 : qI v2) (q3 : qI v3) (q4 : qI v4) (q5 : qI v5) (hn : h 78 18 = n) (h0 : 0 ≤ n) (h9 : n ≤ 500)
    (k0 : 480 < n → K (-1) (qup h 78 1 0)) (k1 : n ≤ 480 → ∀ h1, Fr (PG n) h h1 → h1 78 18 = n + 20 → (∀ j : Int, 0 ≤ j → j < 20 → h1 88 (n + j) % 256 = by20 v1 v2 v3 v4 v5 j) → K (n + 20) h1) : RunI X (d + 1) mX11_feed [(2, 78), (0, v1), (0, v2), (0, v3), (0, v4), (0, v5)] sh pt h K := by
  refine b_X11_feed hst (fun h1 e1 => ?_)
  have l0 : h1 78 18 = n := by rw [e1, ← hn]; simp [qup]
  rw [l0]
  refine ⟨⟨by omega, by omega⟩, fun c => ?_, fun c => by rw [e1]; exact k0 (by omega)⟩
  refine m_lay hst q1 l0 h0 (by omega) (fun a1 f1 l1 t1 => ?_)
  refine m_lay hst q2 l1 (by omega) (by omega) (fun a2 f2 l2 t2 => ?_)
  refine m_lay hst q3 l2 (by omega) (by omega) (fun a3 f3 l3 t3 => ?_)
  refine m_lay hst q4 l3 (by omega) (by omega) (fun a4 f4 l4 t4 => ?_)
  refine m_lay hst q5 l4 (by omega) (by omega) (fun a5 f5 l5 t5 => ?_)
  have e : a5 78 18 = n + 20 := by omega
  have f0 : Fr (PG n) h h1 := by rw [e1]; exact Fr.rf.up (by show PG _ _ _; omega)
  rw [e]
  refine k1 (by omega) a5 ?_ e ?_
  · exact (f0.tr ((((f1.wk (by intro a i; show PB _ a i → PG _ a i; omega)).tr (f2.wk (by intro a i; show PB _ a i → PG _ a i; omega))).tr (f3.wk (by intro a i; show PB _ a i → PG _ a i; omega))).tr (f4.wk (by intro a i; show PB _ a i → PG _ a i; omega)))).tr (f5.wk (by intro a i; show PB _ a i → PG _ a i; omega))
  · intro j ja jb
    unfold by20
    have e : j / 4 = 0 ∨ j / 4 = 1 ∨ j / 4 = 2 ∨ j / 4 = 3 ∨ j / 4 = 4 := by omega
    rcases e with e | e | e | e | e
    · rw [if_pos e, f5 _ _ (by show ¬ PB _ _ _; omega), f4 _ _ (by show ¬ PB _ _ _; omega), f3 _ _ (by show ¬ PB _ _ _; omega), f2 _ _ (by show ¬ PB _ _ _; omega), ← t1 (j % 4) (by omega) (by omega)]
      congr 2
      omega
    · rw [if_neg (by omega), if_pos e, f5 _ _ (by show ¬ PB _ _ _; omega), f4 _ _ (by show ¬ PB _ _ _; omega), f3 _ _ (by show ¬ PB _ _ _; omega), ← t2 (j % 4) (by omega) (by omega)]
      congr 2
      omega
    · rw [if_neg (by omega), if_neg (by omega), if_pos e, f5 _ _ (by show ¬ PB _ _ _; omega), f4 _ _ (by show ¬ PB _ _ _; omega), ← t3 (j % 4) (by omega) (by omega)]
      congr 2
      omega
    · rw [if_neg (by omega), if_neg (by omega), if_neg (by omega), if_pos e, f5 _ _ (by show ¬ PB _ _ _; omega), ← t4 (j % 4) (by omega) (by omega)]
      congr 2
      omega
    · rw [if_neg (by omega), if_neg (by omega), if_neg (by omega), if_neg (by omega), ← t5 (j % 4) (by omega) (by omega)]
      congr 2
      omega
theorem x_person {K : Int → qM → Prop} {s : Int} (hst : St sh pt) (hm : 0 ≤ h 2 3 ∧ h 2 3 ≤ 20) (hp : 0 ≤ h 30 0 ∧ h 30 0 ≤ 16) (qs : qI s) (k5 : ¬ (0 ≤ s ∧ s < qishl 1 (h 2 3)) → K (-1) (qup h 0 12 5)) (k7 : 0 ≤ s → s < qishl 1 (h 2 3) → h 30 0 = 16 → K (-1) (qup h 0 12 7))
    (k0 : 0 ≤ s → s < qishl 1 (h 2 3) → h 30 0 < 16 → K (h 30 0) (qup (qup (qup h 32 (h 30 0) s) 30 0 (h 30 0 + 1)) 0 12 0)) : RunI X (d + 1) mX10_person [(2, 0), (0, s)] sh pt h K := by
  have set := fun (a : 0 ≤ s) => q_set0 a qs.2 hm.1 hm.2
  have e1 : h 30 0 + 1 - 1 = h 30 0 := by omega
  refine b_X10_person hst (b_X2_isSet hst ⟨fun c1 => ⟨fun c => absurd rfl c, fun _ => b_X10_none hst (fun h1 e1 => by rw [e1]; exact k5 (by omega))⟩, fun c1 => ⟨fun c2 => ⟨fun c => absurd rfl c, fun _ => b_X10_none hst (fun h1 e1 => by rw [e1]; exact k5 (fun z => c2 ((set c1).mpr z.2)))⟩, fun c2 => ⟨fun _ => ⟨fun c3 => ?_, fun c3 => b_X10_none hst (fun h1 e1 => by rw [e1]; exact k7 c1 ((set c1).mp c2) (by omega))⟩, fun c => absurd c (by decide)⟩⟩⟩)
  have k0 := k0 c1 ((set c1).mp c2) c3
  refine b_X5_addPerson hst  ?_
  try simp only [qup_ap, Int.reduceEq, Int.reduceNeg, false_and, and_false, true_and, and_true, and_self, reduceIte]
  refine And.intro (by first | omega | exact ⟨by omega, by omega⟩) ?_
  intro h1_ eh1_
  subst eh1_
  try simp only [qup_ap, Int.reduceEq, Int.reduceNeg, false_and, and_false, true_and, and_true, and_self, reduceIte]
  try simp only [qup_ap, Int.reduceEq, Int.reduceNeg, false_and, and_false, true_and, and_true, and_self, reduceIte]
  refine And.intro (by first | omega | exact ⟨by omega, by omega⟩) ?_
  intro h2_ eh2_
  subst eh2_
  try simp only [qup_ap, Int.reduceEq, Int.reduceNeg, false_and, and_false, true_and, and_true, and_self, reduceIte]
  try simp only [qup_ap, Int.reduceEq, Int.reduceNeg, false_and, and_false, true_and, and_true, and_self, reduceIte]
  refine And.intro (by first | omega | exact ⟨by omega, by omega⟩) ?_
  try simp only [qup_ap, Int.reduceEq, Int.reduceNeg, false_and, and_false, true_and, and_true, and_self, reduceIte]
  rw [e1]
  exact b_X10_answer hst (fun h9 e9 => by rw [e9]; exact k0)
theorem m_person {K : Int → qM → Prop} {s : Int} (hst : St sh pt) (hp : 0 ≤ h 78 85 ∧ h 78 85 ≤ 16) (k5 : ¬ (0 ≤ s ∧ s < qishl 1 (h 78 7)) → K (-1) (qup (qup (qup h 78 1 0) 78 0 0) 78 0 5)) (k7 : 0 ≤ s → s < qishl 1 (h 78 7) → h 78 85 = 16 → K (-1) (qup (qup (qup h 78 1 0) 78 0 0) 78 0 7))
    (k0 : 0 ≤ s → s < qishl 1 (h 78 7) → h 78 85 < 16 → K (h 78 85) (qup (qup (qup (qup h 78 1 0) 78 0 0) 124 (h 78 85) s) 78 85 (h 78 85 + 1))) : RunI X (d + 1) mX11_person [(2, 78), (0, s)] sh pt h K := by
  have e1 : h 78 85 + 1 - 1 = h 78 85 := by omega
  refine b_X11_person hst  ?_
  intro h1_ eh1_
  subst eh1_
  try simp only [qup_ap, Int.reduceEq, Int.reduceNeg, false_and, and_false, true_and, and_true, and_self, reduceIte]
  intro h2_ eh2_
  subst eh2_
  try simp only [qup_ap, Int.reduceEq, Int.reduceNeg, false_and, and_false, true_and, and_true, and_self, reduceIte]
  try simp only [qup_ap, Int.reduceEq, Int.reduceNeg, false_and, and_false, true_and, and_true, and_self, reduceIte]
  refine And.intro (fun c3_ => ?_) (fun c3_ => ?_)
  · refine b_X11_refuse hst  ?_
    intro h4_ eh4_
    subst eh4_
    try simp only [qup_ap, Int.reduceEq, Int.reduceNeg, false_and, and_false, true_and, and_true, and_self, reduceIte]
    try simp only [qup_ap, Int.reduceEq, Int.reduceNeg, false_and, and_false, true_and, and_true, and_self, reduceIte]
    first | exact k5 (by omega) | exact k7 (by omega) (by omega) (by omega) | (rw [e1]; exact k0 (by omega) (by omega) (by omega))
  · try simp only [qup_ap, Int.reduceEq, Int.reduceNeg, false_and, and_false, true_and, and_true, and_self, reduceIte]
    refine And.intro (fun c5_ => ?_) (fun c5_ => ?_)
    · try simp only [qup_ap, Int.reduceEq, Int.reduceNeg, false_and, and_false, true_and, and_true, and_self, reduceIte]
      refine And.intro (fun c6_ => ?_) (fun c6_ => ?_)
      · try simp only [qup_ap, Int.reduceEq, Int.reduceNeg, false_and, and_false, true_and, and_true, and_self, reduceIte]
        refine And.intro (by first | omega | exact ⟨by omega, by omega⟩) ?_
        intro h7_ eh7_
        subst eh7_
        try simp only [qup_ap, Int.reduceEq, Int.reduceNeg, false_and, and_false, true_and, and_true, and_self, reduceIte]
        try simp only [qup_ap, Int.reduceEq, Int.reduceNeg, false_and, and_false, true_and, and_true, and_self, reduceIte]
        refine And.intro (by first | omega | exact ⟨by omega, by omega⟩) ?_
        intro h8_ eh8_
        subst eh8_
        try simp only [qup_ap, Int.reduceEq, Int.reduceNeg, false_and, and_false, true_and, and_true, and_self, reduceIte]
        try simp only [qup_ap, Int.reduceEq, Int.reduceNeg, false_and, and_false, true_and, and_true, and_self, reduceIte]
        refine And.intro (by first | omega | exact ⟨by omega, by omega⟩) ?_
        try simp only [qup_ap, Int.reduceEq, Int.reduceNeg, false_and, and_false, true_and, and_true, and_self, reduceIte]
        first | exact k5 (by omega) | exact k7 (by omega) (by omega) (by omega) | (rw [e1]; exact k0 (by omega) (by omega) (by omega))
      · refine b_X11_refuse hst  ?_
        intro h9_ eh9_
        subst eh9_
        try simp only [qup_ap, Int.reduceEq, Int.reduceNeg, false_and, and_false, true_and, and_true, and_self, reduceIte]
        try simp only [qup_ap, Int.reduceEq, Int.reduceNeg, false_and, and_false, true_and, and_true, and_self, reduceIte]
        first | exact k5 (by omega) | exact k7 (by omega) (by omega) (by omega) | (rw [e1]; exact k0 (by omega) (by omega) (by omega))
    · refine b_X11_refuse hst  ?_
      intro h10_ eh10_
      subst eh10_
      try simp only [qup_ap, Int.reduceEq, Int.reduceNeg, false_and, and_false, true_and, and_true, and_self, reduceIte]
      try simp only [qup_ap, Int.reduceEq, Int.reduceNeg, false_and, and_false, true_and, and_true, and_self, reduceIte]
      first | exact k5 (by omega) | exact k7 (by omega) (by omega) (by omega) | (rw [e1]; exact k0 (by omega) (by omega) (by omega))
def awst (np na lt p f t k : Int) : Int := if ¬ (0 ≤ p ∧ p < np) then 2 else if ¬ (0 ≤ f ∧ f ≤ 9999 ∧ 0 ≤ t ∧ t ≤ 9999 ∧ f ≤ t ∧ 0 ≤ k ∧ k ≤ 9999) then 5 else if na = 60 then 7 else if k < lt then 12 else 0
theorem x_away {K : Int → qM → Prop} {p f t k : Int} (hst : St sh pt) (ha : 0 ≤ h 30 1 ∧ h 30 1 ≤ 60) (k1 : ∀ w, w = awst (h 30 0) (h 30 1) (h 30 2) p f t k → w ≠ 0 → K 0 (qup h 0 12 w))
    (k0 : awst (h 30 0) (h 30 1) (h 30 2) p f t k = 0 → h 30 1 < 60 → 0 ≤ p ∧ p < h 30 0 → K 1 (qup (qup (qup (qup (qup (qup (qup h 33 (h 30 1) p) 34 (h 30 1) f) 35 (h 30 1) t) 36 (h 30 1) k) 30 1 (h 30 1 + 1)) 30 2 k) 0 12 0)) : RunI X (d + 1) mX10_away [(2, 0), (0, p), (0, f), (0, t), (0, k)] sh pt h K := by
  unfold awst at k0 k1
  refine b_X10_away hst  ?_
  try simp only [qup_ap, Int.reduceEq, Int.reduceNeg, false_and, and_false, true_and, and_true, and_self, reduceIte]
  refine And.intro (fun c1_ => ?_) (fun c1_ => ?_)
  · refine b_X10_refuse hst  ?_
    intro h2_ eh2_
    subst eh2_
    try simp only [qup_ap, Int.reduceEq, Int.reduceNeg, false_and, and_false, true_and, and_true, and_self, reduceIte]
    try simp only [qup_ap, Int.reduceEq, Int.reduceNeg, false_and, and_false, true_and, and_true, and_self, reduceIte]
    refine And.intro (by first | omega | exact ⟨by omega, by omega⟩) ?_
    try simp only [qup_ap, Int.reduceEq, Int.reduceNeg, false_and, and_false, true_and, and_true, and_self, reduceIte]
    first | (refine k1 2 ?_ (by decide); rw [if_pos (by omega)]) | (refine k1 5 ?_ (by decide); rw [if_neg (by omega), if_pos (by omega)]) | (refine k1 7 ?_ (by decide); rw [if_neg (by omega), if_neg (by omega), if_pos (by omega)]) | (refine k1 12 ?_ (by decide); rw [if_neg (by omega), if_neg (by omega), if_neg (by omega), if_pos (by omega)]) | (rw [if_neg (by omega), if_neg (by omega), if_neg (by omega), if_neg (by omega)] at k0; exact k0 rfl (by omega) (by omega))
  · try simp only [qup_ap, Int.reduceEq, Int.reduceNeg, false_and, and_false, true_and, and_true, and_self, reduceIte]
    refine And.intro (fun c3_ => ?_) (fun c3_ => ?_)
    · refine b_X10_isDay hst  ?_
      try simp only [qup_ap, Int.reduceEq, Int.reduceNeg, false_and, and_false, true_and, and_true, and_self, reduceIte]
      refine And.intro (fun c4_ => ?_) (fun c4_ => ?_)
      · refine And.intro (fun _ => ?_) (fun c_ => absurd c_ (by decide))
        refine b_X10_refuse hst  ?_
        intro h5_ eh5_
        subst eh5_
        try simp only [qup_ap, Int.reduceEq, Int.reduceNeg, false_and, and_false, true_and, and_true, and_self, reduceIte]
        try simp only [qup_ap, Int.reduceEq, Int.reduceNeg, false_and, and_false, true_and, and_true, and_self, reduceIte]
        refine And.intro (by first | omega | exact ⟨by omega, by omega⟩) ?_
        try simp only [qup_ap, Int.reduceEq, Int.reduceNeg, false_and, and_false, true_and, and_true, and_self, reduceIte]
        first | (refine k1 2 ?_ (by decide); rw [if_pos (by omega)]) | (refine k1 5 ?_ (by decide); rw [if_neg (by omega), if_pos (by omega)]) | (refine k1 7 ?_ (by decide); rw [if_neg (by omega), if_neg (by omega), if_pos (by omega)]) | (refine k1 12 ?_ (by decide); rw [if_neg (by omega), if_neg (by omega), if_neg (by omega), if_pos (by omega)]) | (rw [if_neg (by omega), if_neg (by omega), if_neg (by omega), if_neg (by omega)] at k0; exact k0 rfl (by omega) (by omega))
      · try simp only [qup_ap, Int.reduceEq, Int.reduceNeg, false_and, and_false, true_and, and_true, and_self, reduceIte]
        refine And.intro (fun c6_ => ?_) (fun c6_ => ?_)
        · refine And.intro (fun _ => ?_) (fun c_ => absurd c_ (by decide))
          refine b_X10_refuse hst  ?_
          intro h7_ eh7_
          subst eh7_
          try simp only [qup_ap, Int.reduceEq, Int.reduceNeg, false_and, and_false, true_and, and_true, and_self, reduceIte]
          try simp only [qup_ap, Int.reduceEq, Int.reduceNeg, false_and, and_false, true_and, and_true, and_self, reduceIte]
          refine And.intro (by first | omega | exact ⟨by omega, by omega⟩) ?_
          try simp only [qup_ap, Int.reduceEq, Int.reduceNeg, false_and, and_false, true_and, and_true, and_self, reduceIte]
          first | (refine k1 2 ?_ (by decide); rw [if_pos (by omega)]) | (refine k1 5 ?_ (by decide); rw [if_neg (by omega), if_pos (by omega)]) | (refine k1 7 ?_ (by decide); rw [if_neg (by omega), if_neg (by omega), if_pos (by omega)]) | (refine k1 12 ?_ (by decide); rw [if_neg (by omega), if_neg (by omega), if_neg (by omega), if_pos (by omega)]) | (rw [if_neg (by omega), if_neg (by omega), if_neg (by omega), if_neg (by omega)] at k0; exact k0 rfl (by omega) (by omega))
        · refine And.intro (fun c_ => absurd c_ (by decide)) (fun _ => ?_)
          refine b_X10_isDay hst  ?_
          try simp only [qup_ap, Int.reduceEq, Int.reduceNeg, false_and, and_false, true_and, and_true, and_self, reduceIte]
          refine And.intro (fun c8_ => ?_) (fun c8_ => ?_)
          · refine And.intro (fun _ => ?_) (fun c_ => absurd c_ (by decide))
            refine b_X10_refuse hst  ?_
            intro h9_ eh9_
            subst eh9_
            try simp only [qup_ap, Int.reduceEq, Int.reduceNeg, false_and, and_false, true_and, and_true, and_self, reduceIte]
            try simp only [qup_ap, Int.reduceEq, Int.reduceNeg, false_and, and_false, true_and, and_true, and_self, reduceIte]
            refine And.intro (by first | omega | exact ⟨by omega, by omega⟩) ?_
            try simp only [qup_ap, Int.reduceEq, Int.reduceNeg, false_and, and_false, true_and, and_true, and_self, reduceIte]
            first | (refine k1 2 ?_ (by decide); rw [if_pos (by omega)]) | (refine k1 5 ?_ (by decide); rw [if_neg (by omega), if_pos (by omega)]) | (refine k1 7 ?_ (by decide); rw [if_neg (by omega), if_neg (by omega), if_pos (by omega)]) | (refine k1 12 ?_ (by decide); rw [if_neg (by omega), if_neg (by omega), if_neg (by omega), if_pos (by omega)]) | (rw [if_neg (by omega), if_neg (by omega), if_neg (by omega), if_neg (by omega)] at k0; exact k0 rfl (by omega) (by omega))
          · try simp only [qup_ap, Int.reduceEq, Int.reduceNeg, false_and, and_false, true_and, and_true, and_self, reduceIte]
            refine And.intro (fun c10_ => ?_) (fun c10_ => ?_)
            · refine And.intro (fun _ => ?_) (fun c_ => absurd c_ (by decide))
              refine b_X10_refuse hst  ?_
              intro h11_ eh11_
              subst eh11_
              try simp only [qup_ap, Int.reduceEq, Int.reduceNeg, false_and, and_false, true_and, and_true, and_self, reduceIte]
              try simp only [qup_ap, Int.reduceEq, Int.reduceNeg, false_and, and_false, true_and, and_true, and_self, reduceIte]
              refine And.intro (by first | omega | exact ⟨by omega, by omega⟩) ?_
              try simp only [qup_ap, Int.reduceEq, Int.reduceNeg, false_and, and_false, true_and, and_true, and_self, reduceIte]
              first | (refine k1 2 ?_ (by decide); rw [if_pos (by omega)]) | (refine k1 5 ?_ (by decide); rw [if_neg (by omega), if_pos (by omega)]) | (refine k1 7 ?_ (by decide); rw [if_neg (by omega), if_neg (by omega), if_pos (by omega)]) | (refine k1 12 ?_ (by decide); rw [if_neg (by omega), if_neg (by omega), if_neg (by omega), if_pos (by omega)]) | (rw [if_neg (by omega), if_neg (by omega), if_neg (by omega), if_neg (by omega)] at k0; exact k0 rfl (by omega) (by omega))
            · refine And.intro (fun c_ => absurd c_ (by decide)) (fun _ => ?_)
              refine b_X10_isDay hst  ?_
              try simp only [qup_ap, Int.reduceEq, Int.reduceNeg, false_and, and_false, true_and, and_true, and_self, reduceIte]
              refine And.intro (fun c12_ => ?_) (fun c12_ => ?_)
              · refine And.intro (fun _ => ?_) (fun c_ => absurd c_ (by decide))
                refine b_X10_refuse hst  ?_
                intro h13_ eh13_
                subst eh13_
                try simp only [qup_ap, Int.reduceEq, Int.reduceNeg, false_and, and_false, true_and, and_true, and_self, reduceIte]
                try simp only [qup_ap, Int.reduceEq, Int.reduceNeg, false_and, and_false, true_and, and_true, and_self, reduceIte]
                refine And.intro (by first | omega | exact ⟨by omega, by omega⟩) ?_
                try simp only [qup_ap, Int.reduceEq, Int.reduceNeg, false_and, and_false, true_and, and_true, and_self, reduceIte]
                first | (refine k1 2 ?_ (by decide); rw [if_pos (by omega)]) | (refine k1 5 ?_ (by decide); rw [if_neg (by omega), if_pos (by omega)]) | (refine k1 7 ?_ (by decide); rw [if_neg (by omega), if_neg (by omega), if_pos (by omega)]) | (refine k1 12 ?_ (by decide); rw [if_neg (by omega), if_neg (by omega), if_neg (by omega), if_pos (by omega)]) | (rw [if_neg (by omega), if_neg (by omega), if_neg (by omega), if_neg (by omega)] at k0; exact k0 rfl (by omega) (by omega))
              · try simp only [qup_ap, Int.reduceEq, Int.reduceNeg, false_and, and_false, true_and, and_true, and_self, reduceIte]
                refine And.intro (fun c14_ => ?_) (fun c14_ => ?_)
                · refine And.intro (fun _ => ?_) (fun c_ => absurd c_ (by decide))
                  refine b_X10_refuse hst  ?_
                  intro h15_ eh15_
                  subst eh15_
                  try simp only [qup_ap, Int.reduceEq, Int.reduceNeg, false_and, and_false, true_and, and_true, and_self, reduceIte]
                  try simp only [qup_ap, Int.reduceEq, Int.reduceNeg, false_and, and_false, true_and, and_true, and_self, reduceIte]
                  refine And.intro (by first | omega | exact ⟨by omega, by omega⟩) ?_
                  try simp only [qup_ap, Int.reduceEq, Int.reduceNeg, false_and, and_false, true_and, and_true, and_self, reduceIte]
                  first | (refine k1 2 ?_ (by decide); rw [if_pos (by omega)]) | (refine k1 5 ?_ (by decide); rw [if_neg (by omega), if_pos (by omega)]) | (refine k1 7 ?_ (by decide); rw [if_neg (by omega), if_neg (by omega), if_pos (by omega)]) | (refine k1 12 ?_ (by decide); rw [if_neg (by omega), if_neg (by omega), if_neg (by omega), if_pos (by omega)]) | (rw [if_neg (by omega), if_neg (by omega), if_neg (by omega), if_neg (by omega)] at k0; exact k0 rfl (by omega) (by omega))
                · refine And.intro (fun c_ => absurd c_ (by decide)) (fun _ => ?_)
                  try simp only [qup_ap, Int.reduceEq, Int.reduceNeg, false_and, and_false, true_and, and_true, and_self, reduceIte]
                  refine And.intro (fun c16_ => ?_) (fun c16_ => ?_)
                  · try simp only [qup_ap, Int.reduceEq, Int.reduceNeg, false_and, and_false, true_and, and_true, and_self, reduceIte]
                    refine And.intro (fun c17_ => ?_) (fun c17_ => ?_)
                    · try simp only [qup_ap, Int.reduceEq, Int.reduceNeg, false_and, and_false, true_and, and_true, and_self, reduceIte]
                      refine And.intro (fun c18_ => ?_) (fun c18_ => ?_)
                      · refine b_X5_addAway hst  ?_
                        try simp only [qup_ap, Int.reduceEq, Int.reduceNeg, false_and, and_false, true_and, and_true, and_self, reduceIte]
                        refine And.intro (by first | omega | exact ⟨by omega, by omega⟩) ?_
                        intro h19_ eh19_
                        subst eh19_
                        try simp only [qup_ap, Int.reduceEq, Int.reduceNeg, false_and, and_false, true_and, and_true, and_self, reduceIte]
                        try simp only [qup_ap, Int.reduceEq, Int.reduceNeg, false_and, and_false, true_and, and_true, and_self, reduceIte]
                        refine And.intro (by first | omega | exact ⟨by omega, by omega⟩) ?_
                        intro h20_ eh20_
                        subst eh20_
                        try simp only [qup_ap, Int.reduceEq, Int.reduceNeg, false_and, and_false, true_and, and_true, and_self, reduceIte]
                        try simp only [qup_ap, Int.reduceEq, Int.reduceNeg, false_and, and_false, true_and, and_true, and_self, reduceIte]
                        refine And.intro (by first | omega | exact ⟨by omega, by omega⟩) ?_
                        intro h21_ eh21_
                        subst eh21_
                        try simp only [qup_ap, Int.reduceEq, Int.reduceNeg, false_and, and_false, true_and, and_true, and_self, reduceIte]
                        try simp only [qup_ap, Int.reduceEq, Int.reduceNeg, false_and, and_false, true_and, and_true, and_self, reduceIte]
                        refine And.intro (by first | omega | exact ⟨by omega, by omega⟩) ?_
                        intro h22_ eh22_
                        subst eh22_
                        try simp only [qup_ap, Int.reduceEq, Int.reduceNeg, false_and, and_false, true_and, and_true, and_self, reduceIte]
                        try simp only [qup_ap, Int.reduceEq, Int.reduceNeg, false_and, and_false, true_and, and_true, and_self, reduceIte]
                        refine And.intro (by first | omega | exact ⟨by omega, by omega⟩) ?_
                        intro h23_ eh23_
                        subst eh23_
                        try simp only [qup_ap, Int.reduceEq, Int.reduceNeg, false_and, and_false, true_and, and_true, and_self, reduceIte]
                        intro h24_ eh24_
                        subst eh24_
                        try simp only [qup_ap, Int.reduceEq, Int.reduceNeg, false_and, and_false, true_and, and_true, and_self, reduceIte]
                        refine b_X10_agree hst  ?_
                        intro h25_ eh25_
                        subst eh25_
                        try simp only [qup_ap, Int.reduceEq, Int.reduceNeg, false_and, and_false, true_and, and_true, and_self, reduceIte]
                        try simp only [qup_ap, Int.reduceEq, Int.reduceNeg, false_and, and_false, true_and, and_true, and_self, reduceIte]
                        refine And.intro (by first | omega | exact ⟨by omega, by omega⟩) ?_
                        try simp only [qup_ap, Int.reduceEq, Int.reduceNeg, false_and, and_false, true_and, and_true, and_self, reduceIte]
                        first | (refine k1 2 ?_ (by decide); rw [if_pos (by omega)]) | (refine k1 5 ?_ (by decide); rw [if_neg (by omega), if_pos (by omega)]) | (refine k1 7 ?_ (by decide); rw [if_neg (by omega), if_neg (by omega), if_pos (by omega)]) | (refine k1 12 ?_ (by decide); rw [if_neg (by omega), if_neg (by omega), if_neg (by omega), if_pos (by omega)]) | (rw [if_neg (by omega), if_neg (by omega), if_neg (by omega), if_neg (by omega)] at k0; exact k0 rfl (by omega) (by omega))
                      · refine b_X10_refuse hst  ?_
                        intro h26_ eh26_
                        subst eh26_
                        try simp only [qup_ap, Int.reduceEq, Int.reduceNeg, false_and, and_false, true_and, and_true, and_self, reduceIte]
                        try simp only [qup_ap, Int.reduceEq, Int.reduceNeg, false_and, and_false, true_and, and_true, and_self, reduceIte]
                        refine And.intro (by first | omega | exact ⟨by omega, by omega⟩) ?_
                        try simp only [qup_ap, Int.reduceEq, Int.reduceNeg, false_and, and_false, true_and, and_true, and_self, reduceIte]
                        first | (refine k1 2 ?_ (by decide); rw [if_pos (by omega)]) | (refine k1 5 ?_ (by decide); rw [if_neg (by omega), if_pos (by omega)]) | (refine k1 7 ?_ (by decide); rw [if_neg (by omega), if_neg (by omega), if_pos (by omega)]) | (refine k1 12 ?_ (by decide); rw [if_neg (by omega), if_neg (by omega), if_neg (by omega), if_pos (by omega)]) | (rw [if_neg (by omega), if_neg (by omega), if_neg (by omega), if_neg (by omega)] at k0; exact k0 rfl (by omega) (by omega))
                    · refine b_X10_refuse hst  ?_
                      intro h27_ eh27_
                      subst eh27_
                      try simp only [qup_ap, Int.reduceEq, Int.reduceNeg, false_and, and_false, true_and, and_true, and_self, reduceIte]
                      try simp only [qup_ap, Int.reduceEq, Int.reduceNeg, false_and, and_false, true_and, and_true, and_self, reduceIte]
                      refine And.intro (by first | omega | exact ⟨by omega, by omega⟩) ?_
                      try simp only [qup_ap, Int.reduceEq, Int.reduceNeg, false_and, and_false, true_and, and_true, and_self, reduceIte]
                      first | (refine k1 2 ?_ (by decide); rw [if_pos (by omega)]) | (refine k1 5 ?_ (by decide); rw [if_neg (by omega), if_pos (by omega)]) | (refine k1 7 ?_ (by decide); rw [if_neg (by omega), if_neg (by omega), if_pos (by omega)]) | (refine k1 12 ?_ (by decide); rw [if_neg (by omega), if_neg (by omega), if_neg (by omega), if_pos (by omega)]) | (rw [if_neg (by omega), if_neg (by omega), if_neg (by omega), if_neg (by omega)] at k0; exact k0 rfl (by omega) (by omega))
                  · refine b_X10_refuse hst  ?_
                    intro h28_ eh28_
                    subst eh28_
                    try simp only [qup_ap, Int.reduceEq, Int.reduceNeg, false_and, and_false, true_and, and_true, and_self, reduceIte]
                    try simp only [qup_ap, Int.reduceEq, Int.reduceNeg, false_and, and_false, true_and, and_true, and_self, reduceIte]
                    refine And.intro (by first | omega | exact ⟨by omega, by omega⟩) ?_
                    try simp only [qup_ap, Int.reduceEq, Int.reduceNeg, false_and, and_false, true_and, and_true, and_self, reduceIte]
                    first | (refine k1 2 ?_ (by decide); rw [if_pos (by omega)]) | (refine k1 5 ?_ (by decide); rw [if_neg (by omega), if_pos (by omega)]) | (refine k1 7 ?_ (by decide); rw [if_neg (by omega), if_neg (by omega), if_pos (by omega)]) | (refine k1 12 ?_ (by decide); rw [if_neg (by omega), if_neg (by omega), if_neg (by omega), if_pos (by omega)]) | (rw [if_neg (by omega), if_neg (by omega), if_neg (by omega), if_neg (by omega)] at k0; exact k0 rfl (by omega) (by omega))
    · refine b_X10_refuse hst  ?_
      intro h29_ eh29_
      subst eh29_
      try simp only [qup_ap, Int.reduceEq, Int.reduceNeg, false_and, and_false, true_and, and_true, and_self, reduceIte]
      try simp only [qup_ap, Int.reduceEq, Int.reduceNeg, false_and, and_false, true_and, and_true, and_self, reduceIte]
      refine And.intro (by first | omega | exact ⟨by omega, by omega⟩) ?_
      try simp only [qup_ap, Int.reduceEq, Int.reduceNeg, false_and, and_false, true_and, and_true, and_self, reduceIte]
      first | (refine k1 2 ?_ (by decide); rw [if_pos (by omega)]) | (refine k1 5 ?_ (by decide); rw [if_neg (by omega), if_pos (by omega)]) | (refine k1 7 ?_ (by decide); rw [if_neg (by omega), if_neg (by omega), if_pos (by omega)]) | (refine k1 12 ?_ (by decide); rw [if_neg (by omega), if_neg (by omega), if_neg (by omega), if_pos (by omega)]) | (rw [if_neg (by omega), if_neg (by omega), if_neg (by omega), if_neg (by omega)] at k0; exact k0 rfl (by omega) (by omega))
theorem m_away {K : Int → qM → Prop} {p f t k : Int} (hst : St sh pt) (hp : 0 ≤ h 78 85 ∧ h 78 85 ≤ 16) (ha : 0 ≤ h 78 86 ∧ h 78 86 ≤ 60) (k1 : ∀ w, w = awst (h 78 85) (h 78 86) (h 78 87) p f t k → w ≠ 0 → K 0 (qup (qup (qup h 78 1 0) 78 0 0) 78 0 w))
    (k0 : awst (h 78 85) (h 78 86) (h 78 87) p f t k = 0 → h 78 86 < 60 → 0 ≤ p ∧ p < h 78 85 → K 1 (qup (qup (qup (qup (qup (qup (qup (qup h 78 1 0) 78 0 0) 125 (h 78 86) p) 126 (h 78 86) f) 127 (h 78 86) t) 128 (h 78 86) k) 78 86 (h 78 86 + 1)) 78 87 k)) : RunI X (d + 3) mX11_away [(2, 78), (0, p), (0, f), (0, t), (0, k)] sh pt h K := by
  unfold awst at k0 k1
  refine b_X11_away hst  ?_
  intro h1_ eh1_
  subst eh1_
  try simp only [qup_ap, Int.reduceEq, Int.reduceNeg, false_and, and_false, true_and, and_true, and_self, reduceIte]
  intro h2_ eh2_
  subst eh2_
  try simp only [qup_ap, Int.reduceEq, Int.reduceNeg, false_and, and_false, true_and, and_true, and_self, reduceIte]
  refine b_X11_isPerson hst  ?_
  try simp only [qup_ap, Int.reduceEq, Int.reduceNeg, false_and, and_false, true_and, and_true, and_self, reduceIte]
  refine And.intro (by first | omega | exact ⟨by omega, by omega⟩) ?_
  refine b_X11_isIn hst  ?_
  try simp only [qup_ap, Int.reduceEq, Int.reduceNeg, false_and, and_false, true_and, and_true, and_self, reduceIte]
  refine And.intro (fun c3_ => ?_) (fun c3_ => ?_)
  · try simp only [qup_ap, Int.reduceEq, Int.reduceNeg, false_and, and_false, true_and, and_true, and_self, reduceIte]
    refine And.intro (by first | omega | exact ⟨by omega, by omega⟩) ?_
    refine And.intro (fun c_ => absurd c_ (by decide)) (fun _ => ?_)
    refine b_X11_no hst  ?_
    intro h4_ eh4_
    subst eh4_
    try simp only [qup_ap, Int.reduceEq, Int.reduceNeg, false_and, and_false, true_and, and_true, and_self, reduceIte]
    try simp only [qup_ap, Int.reduceEq, Int.reduceNeg, false_and, and_false, true_and, and_true, and_self, reduceIte]
    refine And.intro (by first | omega | exact ⟨by omega, by omega⟩) ?_
    try simp only [qup_ap, Int.reduceEq, Int.reduceNeg, false_and, and_false, true_and, and_true, and_self, reduceIte]
    first | (refine k1 2 ?_ (by decide); rw [if_pos (by omega)]) | (refine k1 5 ?_ (by decide); rw [if_neg (by omega), if_pos (by omega)]) | (refine k1 7 ?_ (by decide); rw [if_neg (by omega), if_neg (by omega), if_pos (by omega)]) | (refine k1 12 ?_ (by decide); rw [if_neg (by omega), if_neg (by omega), if_neg (by omega), if_pos (by omega)]) | (rw [if_neg (by omega), if_neg (by omega), if_neg (by omega), if_neg (by omega)] at k0; exact k0 rfl (by omega) (by omega))
  · try simp only [qup_ap, Int.reduceEq, Int.reduceNeg, false_and, and_false, true_and, and_true, and_self, reduceIte]
    refine And.intro (fun c5_ => ?_) (fun c5_ => ?_)
    · try simp only [qup_ap, Int.reduceEq, Int.reduceNeg, false_and, and_false, true_and, and_true, and_self, reduceIte]
      refine And.intro (by first | omega | exact ⟨by omega, by omega⟩) ?_
      refine And.intro (fun c_ => absurd c_ (by decide)) (fun _ => ?_)
      refine b_X11_no hst  ?_
      intro h6_ eh6_
      subst eh6_
      try simp only [qup_ap, Int.reduceEq, Int.reduceNeg, false_and, and_false, true_and, and_true, and_self, reduceIte]
      try simp only [qup_ap, Int.reduceEq, Int.reduceNeg, false_and, and_false, true_and, and_true, and_self, reduceIte]
      refine And.intro (by first | omega | exact ⟨by omega, by omega⟩) ?_
      try simp only [qup_ap, Int.reduceEq, Int.reduceNeg, false_and, and_false, true_and, and_true, and_self, reduceIte]
      first | (refine k1 2 ?_ (by decide); rw [if_pos (by omega)]) | (refine k1 5 ?_ (by decide); rw [if_neg (by omega), if_pos (by omega)]) | (refine k1 7 ?_ (by decide); rw [if_neg (by omega), if_neg (by omega), if_pos (by omega)]) | (refine k1 12 ?_ (by decide); rw [if_neg (by omega), if_neg (by omega), if_neg (by omega), if_pos (by omega)]) | (rw [if_neg (by omega), if_neg (by omega), if_neg (by omega), if_neg (by omega)] at k0; exact k0 rfl (by omega) (by omega))
    · try simp only [qup_ap, Int.reduceEq, Int.reduceNeg, false_and, and_false, true_and, and_true, and_self, reduceIte]
      refine And.intro (by first | omega | exact ⟨by omega, by omega⟩) ?_
      refine And.intro (fun _ => ?_) (fun c_ => absurd c_ (by decide))
      refine b_X11_isDay hst  ?_
      refine b_X11_isIn hst  ?_
      try simp only [qup_ap, Int.reduceEq, Int.reduceNeg, false_and, and_false, true_and, and_true, and_self, reduceIte]
      refine And.intro (fun c7_ => ?_) (fun c7_ => ?_)
      · try simp only [qup_ap, Int.reduceEq, Int.reduceNeg, false_and, and_false, true_and, and_true, and_self, reduceIte]
        refine And.intro (by first | omega | exact ⟨by omega, by omega⟩) ?_
        refine And.intro (fun _ => ?_) (fun c_ => absurd c_ (by decide))
        refine b_X11_no hst  ?_
        intro h8_ eh8_
        subst eh8_
        try simp only [qup_ap, Int.reduceEq, Int.reduceNeg, false_and, and_false, true_and, and_true, and_self, reduceIte]
        try simp only [qup_ap, Int.reduceEq, Int.reduceNeg, false_and, and_false, true_and, and_true, and_self, reduceIte]
        refine And.intro (by first | omega | exact ⟨by omega, by omega⟩) ?_
        try simp only [qup_ap, Int.reduceEq, Int.reduceNeg, false_and, and_false, true_and, and_true, and_self, reduceIte]
        first | (refine k1 2 ?_ (by decide); rw [if_pos (by omega)]) | (refine k1 5 ?_ (by decide); rw [if_neg (by omega), if_pos (by omega)]) | (refine k1 7 ?_ (by decide); rw [if_neg (by omega), if_neg (by omega), if_pos (by omega)]) | (refine k1 12 ?_ (by decide); rw [if_neg (by omega), if_neg (by omega), if_neg (by omega), if_pos (by omega)]) | (rw [if_neg (by omega), if_neg (by omega), if_neg (by omega), if_neg (by omega)] at k0; exact k0 rfl (by omega) (by omega))
      · try simp only [qup_ap, Int.reduceEq, Int.reduceNeg, false_and, and_false, true_and, and_true, and_self, reduceIte]
        refine And.intro (fun c9_ => ?_) (fun c9_ => ?_)
        · try simp only [qup_ap, Int.reduceEq, Int.reduceNeg, false_and, and_false, true_and, and_true, and_self, reduceIte]
          refine And.intro (by first | omega | exact ⟨by omega, by omega⟩) ?_
          refine And.intro (fun _ => ?_) (fun c_ => absurd c_ (by decide))
          refine b_X11_no hst  ?_
          intro h10_ eh10_
          subst eh10_
          try simp only [qup_ap, Int.reduceEq, Int.reduceNeg, false_and, and_false, true_and, and_true, and_self, reduceIte]
          try simp only [qup_ap, Int.reduceEq, Int.reduceNeg, false_and, and_false, true_and, and_true, and_self, reduceIte]
          refine And.intro (by first | omega | exact ⟨by omega, by omega⟩) ?_
          try simp only [qup_ap, Int.reduceEq, Int.reduceNeg, false_and, and_false, true_and, and_true, and_self, reduceIte]
          first | (refine k1 2 ?_ (by decide); rw [if_pos (by omega)]) | (refine k1 5 ?_ (by decide); rw [if_neg (by omega), if_pos (by omega)]) | (refine k1 7 ?_ (by decide); rw [if_neg (by omega), if_neg (by omega), if_pos (by omega)]) | (refine k1 12 ?_ (by decide); rw [if_neg (by omega), if_neg (by omega), if_neg (by omega), if_pos (by omega)]) | (rw [if_neg (by omega), if_neg (by omega), if_neg (by omega), if_neg (by omega)] at k0; exact k0 rfl (by omega) (by omega))
        · try simp only [qup_ap, Int.reduceEq, Int.reduceNeg, false_and, and_false, true_and, and_true, and_self, reduceIte]
          refine And.intro (by first | omega | exact ⟨by omega, by omega⟩) ?_
          refine And.intro (fun c_ => absurd c_ (by decide)) (fun _ => ?_)
          refine b_X11_isDay hst  ?_
          refine b_X11_isIn hst  ?_
          try simp only [qup_ap, Int.reduceEq, Int.reduceNeg, false_and, and_false, true_and, and_true, and_self, reduceIte]
          refine And.intro (fun c11_ => ?_) (fun c11_ => ?_)
          · try simp only [qup_ap, Int.reduceEq, Int.reduceNeg, false_and, and_false, true_and, and_true, and_self, reduceIte]
            refine And.intro (by first | omega | exact ⟨by omega, by omega⟩) ?_
            refine And.intro (fun _ => ?_) (fun c_ => absurd c_ (by decide))
            refine b_X11_no hst  ?_
            intro h12_ eh12_
            subst eh12_
            try simp only [qup_ap, Int.reduceEq, Int.reduceNeg, false_and, and_false, true_and, and_true, and_self, reduceIte]
            try simp only [qup_ap, Int.reduceEq, Int.reduceNeg, false_and, and_false, true_and, and_true, and_self, reduceIte]
            refine And.intro (by first | omega | exact ⟨by omega, by omega⟩) ?_
            try simp only [qup_ap, Int.reduceEq, Int.reduceNeg, false_and, and_false, true_and, and_true, and_self, reduceIte]
            first | (refine k1 2 ?_ (by decide); rw [if_pos (by omega)]) | (refine k1 5 ?_ (by decide); rw [if_neg (by omega), if_pos (by omega)]) | (refine k1 7 ?_ (by decide); rw [if_neg (by omega), if_neg (by omega), if_pos (by omega)]) | (refine k1 12 ?_ (by decide); rw [if_neg (by omega), if_neg (by omega), if_neg (by omega), if_pos (by omega)]) | (rw [if_neg (by omega), if_neg (by omega), if_neg (by omega), if_neg (by omega)] at k0; exact k0 rfl (by omega) (by omega))
          · try simp only [qup_ap, Int.reduceEq, Int.reduceNeg, false_and, and_false, true_and, and_true, and_self, reduceIte]
            refine And.intro (fun c13_ => ?_) (fun c13_ => ?_)
            · try simp only [qup_ap, Int.reduceEq, Int.reduceNeg, false_and, and_false, true_and, and_true, and_self, reduceIte]
              refine And.intro (by first | omega | exact ⟨by omega, by omega⟩) ?_
              refine And.intro (fun _ => ?_) (fun c_ => absurd c_ (by decide))
              refine b_X11_no hst  ?_
              intro h14_ eh14_
              subst eh14_
              try simp only [qup_ap, Int.reduceEq, Int.reduceNeg, false_and, and_false, true_and, and_true, and_self, reduceIte]
              try simp only [qup_ap, Int.reduceEq, Int.reduceNeg, false_and, and_false, true_and, and_true, and_self, reduceIte]
              refine And.intro (by first | omega | exact ⟨by omega, by omega⟩) ?_
              try simp only [qup_ap, Int.reduceEq, Int.reduceNeg, false_and, and_false, true_and, and_true, and_self, reduceIte]
              first | (refine k1 2 ?_ (by decide); rw [if_pos (by omega)]) | (refine k1 5 ?_ (by decide); rw [if_neg (by omega), if_pos (by omega)]) | (refine k1 7 ?_ (by decide); rw [if_neg (by omega), if_neg (by omega), if_pos (by omega)]) | (refine k1 12 ?_ (by decide); rw [if_neg (by omega), if_neg (by omega), if_neg (by omega), if_pos (by omega)]) | (rw [if_neg (by omega), if_neg (by omega), if_neg (by omega), if_neg (by omega)] at k0; exact k0 rfl (by omega) (by omega))
            · try simp only [qup_ap, Int.reduceEq, Int.reduceNeg, false_and, and_false, true_and, and_true, and_self, reduceIte]
              refine And.intro (by first | omega | exact ⟨by omega, by omega⟩) ?_
              refine And.intro (fun c_ => absurd c_ (by decide)) (fun _ => ?_)
              try simp only [qup_ap, Int.reduceEq, Int.reduceNeg, false_and, and_false, true_and, and_true, and_self, reduceIte]
              refine And.intro (fun c15_ => ?_) (fun c15_ => ?_)
              · refine b_X11_no hst  ?_
                intro h16_ eh16_
                subst eh16_
                try simp only [qup_ap, Int.reduceEq, Int.reduceNeg, false_and, and_false, true_and, and_true, and_self, reduceIte]
                try simp only [qup_ap, Int.reduceEq, Int.reduceNeg, false_and, and_false, true_and, and_true, and_self, reduceIte]
                refine And.intro (by first | omega | exact ⟨by omega, by omega⟩) ?_
                try simp only [qup_ap, Int.reduceEq, Int.reduceNeg, false_and, and_false, true_and, and_true, and_self, reduceIte]
                first | (refine k1 2 ?_ (by decide); rw [if_pos (by omega)]) | (refine k1 5 ?_ (by decide); rw [if_neg (by omega), if_pos (by omega)]) | (refine k1 7 ?_ (by decide); rw [if_neg (by omega), if_neg (by omega), if_pos (by omega)]) | (refine k1 12 ?_ (by decide); rw [if_neg (by omega), if_neg (by omega), if_neg (by omega), if_pos (by omega)]) | (rw [if_neg (by omega), if_neg (by omega), if_neg (by omega), if_neg (by omega)] at k0; exact k0 rfl (by omega) (by omega))
              · refine b_X11_isDay hst  ?_
                refine b_X11_isIn hst  ?_
                try simp only [qup_ap, Int.reduceEq, Int.reduceNeg, false_and, and_false, true_and, and_true, and_self, reduceIte]
                refine And.intro (fun c17_ => ?_) (fun c17_ => ?_)
                · try simp only [qup_ap, Int.reduceEq, Int.reduceNeg, false_and, and_false, true_and, and_true, and_self, reduceIte]
                  refine And.intro (by first | omega | exact ⟨by omega, by omega⟩) ?_
                  refine And.intro (fun c_ => absurd c_ (by decide)) (fun _ => ?_)
                  refine b_X11_no hst  ?_
                  intro h18_ eh18_
                  subst eh18_
                  try simp only [qup_ap, Int.reduceEq, Int.reduceNeg, false_and, and_false, true_and, and_true, and_self, reduceIte]
                  try simp only [qup_ap, Int.reduceEq, Int.reduceNeg, false_and, and_false, true_and, and_true, and_self, reduceIte]
                  refine And.intro (by first | omega | exact ⟨by omega, by omega⟩) ?_
                  try simp only [qup_ap, Int.reduceEq, Int.reduceNeg, false_and, and_false, true_and, and_true, and_self, reduceIte]
                  first | (refine k1 2 ?_ (by decide); rw [if_pos (by omega)]) | (refine k1 5 ?_ (by decide); rw [if_neg (by omega), if_pos (by omega)]) | (refine k1 7 ?_ (by decide); rw [if_neg (by omega), if_neg (by omega), if_pos (by omega)]) | (refine k1 12 ?_ (by decide); rw [if_neg (by omega), if_neg (by omega), if_neg (by omega), if_pos (by omega)]) | (rw [if_neg (by omega), if_neg (by omega), if_neg (by omega), if_neg (by omega)] at k0; exact k0 rfl (by omega) (by omega))
                · try simp only [qup_ap, Int.reduceEq, Int.reduceNeg, false_and, and_false, true_and, and_true, and_self, reduceIte]
                  refine And.intro (fun c19_ => ?_) (fun c19_ => ?_)
                  · try simp only [qup_ap, Int.reduceEq, Int.reduceNeg, false_and, and_false, true_and, and_true, and_self, reduceIte]
                    refine And.intro (by first | omega | exact ⟨by omega, by omega⟩) ?_
                    refine And.intro (fun c_ => absurd c_ (by decide)) (fun _ => ?_)
                    refine b_X11_no hst  ?_
                    intro h20_ eh20_
                    subst eh20_
                    try simp only [qup_ap, Int.reduceEq, Int.reduceNeg, false_and, and_false, true_and, and_true, and_self, reduceIte]
                    try simp only [qup_ap, Int.reduceEq, Int.reduceNeg, false_and, and_false, true_and, and_true, and_self, reduceIte]
                    refine And.intro (by first | omega | exact ⟨by omega, by omega⟩) ?_
                    try simp only [qup_ap, Int.reduceEq, Int.reduceNeg, false_and, and_false, true_and, and_true, and_self, reduceIte]
                    first | (refine k1 2 ?_ (by decide); rw [if_pos (by omega)]) | (refine k1 5 ?_ (by decide); rw [if_neg (by omega), if_pos (by omega)]) | (refine k1 7 ?_ (by decide); rw [if_neg (by omega), if_neg (by omega), if_pos (by omega)]) | (refine k1 12 ?_ (by decide); rw [if_neg (by omega), if_neg (by omega), if_neg (by omega), if_pos (by omega)]) | (rw [if_neg (by omega), if_neg (by omega), if_neg (by omega), if_neg (by omega)] at k0; exact k0 rfl (by omega) (by omega))
                  · try simp only [qup_ap, Int.reduceEq, Int.reduceNeg, false_and, and_false, true_and, and_true, and_self, reduceIte]
                    refine And.intro (by first | omega | exact ⟨by omega, by omega⟩) ?_
                    refine And.intro (fun _ => ?_) (fun c_ => absurd c_ (by decide))
                    try simp only [qup_ap, Int.reduceEq, Int.reduceNeg, false_and, and_false, true_and, and_true, and_self, reduceIte]
                    refine And.intro (fun c21_ => ?_) (fun c21_ => ?_)
                    · try simp only [qup_ap, Int.reduceEq, Int.reduceNeg, false_and, and_false, true_and, and_true, and_self, reduceIte]
                      refine And.intro (fun c22_ => ?_) (fun c22_ => ?_)
                      · try simp only [qup_ap, Int.reduceEq, Int.reduceNeg, false_and, and_false, true_and, and_true, and_self, reduceIte]
                        refine And.intro (by first | omega | exact ⟨by omega, by omega⟩) ?_
                        intro h23_ eh23_
                        subst eh23_
                        try simp only [qup_ap, Int.reduceEq, Int.reduceNeg, false_and, and_false, true_and, and_true, and_self, reduceIte]
                        try simp only [qup_ap, Int.reduceEq, Int.reduceNeg, false_and, and_false, true_and, and_true, and_self, reduceIte]
                        refine And.intro (by first | omega | exact ⟨by omega, by omega⟩) ?_
                        intro h24_ eh24_
                        subst eh24_
                        try simp only [qup_ap, Int.reduceEq, Int.reduceNeg, false_and, and_false, true_and, and_true, and_self, reduceIte]
                        try simp only [qup_ap, Int.reduceEq, Int.reduceNeg, false_and, and_false, true_and, and_true, and_self, reduceIte]
                        refine And.intro (by first | omega | exact ⟨by omega, by omega⟩) ?_
                        intro h25_ eh25_
                        subst eh25_
                        try simp only [qup_ap, Int.reduceEq, Int.reduceNeg, false_and, and_false, true_and, and_true, and_self, reduceIte]
                        try simp only [qup_ap, Int.reduceEq, Int.reduceNeg, false_and, and_false, true_and, and_true, and_self, reduceIte]
                        refine And.intro (by first | omega | exact ⟨by omega, by omega⟩) ?_
                        intro h26_ eh26_
                        subst eh26_
                        try simp only [qup_ap, Int.reduceEq, Int.reduceNeg, false_and, and_false, true_and, and_true, and_self, reduceIte]
                        try simp only [qup_ap, Int.reduceEq, Int.reduceNeg, false_and, and_false, true_and, and_true, and_self, reduceIte]
                        refine And.intro (by first | omega | exact ⟨by omega, by omega⟩) ?_
                        intro h27_ eh27_
                        subst eh27_
                        try simp only [qup_ap, Int.reduceEq, Int.reduceNeg, false_and, and_false, true_and, and_true, and_self, reduceIte]
                        intro h28_ eh28_
                        subst eh28_
                        try simp only [qup_ap, Int.reduceEq, Int.reduceNeg, false_and, and_false, true_and, and_true, and_self, reduceIte]
                        try simp only [qup_ap, Int.reduceEq, Int.reduceNeg, false_and, and_false, true_and, and_true, and_self, reduceIte]
                        first | (refine k1 2 ?_ (by decide); rw [if_pos (by omega)]) | (refine k1 5 ?_ (by decide); rw [if_neg (by omega), if_pos (by omega)]) | (refine k1 7 ?_ (by decide); rw [if_neg (by omega), if_neg (by omega), if_pos (by omega)]) | (refine k1 12 ?_ (by decide); rw [if_neg (by omega), if_neg (by omega), if_neg (by omega), if_pos (by omega)]) | (rw [if_neg (by omega), if_neg (by omega), if_neg (by omega), if_neg (by omega)] at k0; exact k0 rfl (by omega) (by omega))
                      · refine b_X11_no hst  ?_
                        intro h29_ eh29_
                        subst eh29_
                        try simp only [qup_ap, Int.reduceEq, Int.reduceNeg, false_and, and_false, true_and, and_true, and_self, reduceIte]
                        try simp only [qup_ap, Int.reduceEq, Int.reduceNeg, false_and, and_false, true_and, and_true, and_self, reduceIte]
                        refine And.intro (by first | omega | exact ⟨by omega, by omega⟩) ?_
                        try simp only [qup_ap, Int.reduceEq, Int.reduceNeg, false_and, and_false, true_and, and_true, and_self, reduceIte]
                        first | (refine k1 2 ?_ (by decide); rw [if_pos (by omega)]) | (refine k1 5 ?_ (by decide); rw [if_neg (by omega), if_pos (by omega)]) | (refine k1 7 ?_ (by decide); rw [if_neg (by omega), if_neg (by omega), if_pos (by omega)]) | (refine k1 12 ?_ (by decide); rw [if_neg (by omega), if_neg (by omega), if_neg (by omega), if_pos (by omega)]) | (rw [if_neg (by omega), if_neg (by omega), if_neg (by omega), if_neg (by omega)] at k0; exact k0 rfl (by omega) (by omega))
                    · refine b_X11_no hst  ?_
                      intro h30_ eh30_
                      subst eh30_
                      try simp only [qup_ap, Int.reduceEq, Int.reduceNeg, false_and, and_false, true_and, and_true, and_self, reduceIte]
                      try simp only [qup_ap, Int.reduceEq, Int.reduceNeg, false_and, and_false, true_and, and_true, and_self, reduceIte]
                      refine And.intro (by first | omega | exact ⟨by omega, by omega⟩) ?_
                      try simp only [qup_ap, Int.reduceEq, Int.reduceNeg, false_and, and_false, true_and, and_true, and_self, reduceIte]
                      first | (refine k1 2 ?_ (by decide); rw [if_pos (by omega)]) | (refine k1 5 ?_ (by decide); rw [if_neg (by omega), if_pos (by omega)]) | (refine k1 7 ?_ (by decide); rw [if_neg (by omega), if_neg (by omega), if_pos (by omega)]) | (refine k1 12 ?_ (by decide); rw [if_neg (by omega), if_neg (by omega), if_neg (by omega), if_pos (by omega)]) | (rw [if_neg (by omega), if_neg (by omega), if_neg (by omega), if_neg (by omega)] at k0; exact k0 rfl (by omega) (by omega))
end
