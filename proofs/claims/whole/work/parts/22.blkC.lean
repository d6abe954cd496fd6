set_option maxRecDepth 20000 in
theorem b_X1_stepThrough {X : qX} {d : Nat} {sh : qS} {pt h : qM} {K : qM → Prop} {t c : Int} (hst : St sh pt) (ht : isT t) (hc : isC c)
    (H : ∀ h1 : qM, h1 = qup h 12 0 0 → ∀ h2 : qM, h2 = qup h1 12 1 (-1) → RunV X d mJ7_fill_53178 [(2, 16), (0, 0)] sh pt h2 (fun h3 => RunV X d mX0_begin [(2, c), (2, 2)] sh pt h3 (fun h4 => EvV X (d + 1) mX1_stepThrough 26 [(2, 12), (2, t), (8, -1), (2, c), (0, 0), (8, -1)] [] sh pt h4 K))) :
    RunV X (d + 1) mX1_stepThrough [(2, 12), (2, t), (2, 2), (2, c)] sh pt h K := by
  show Ev X (d + 1) 0 0 mX1_stepThrough 0 [(2, 12), (2, t), (2, 2), (2, c), (8, -1), (8, -1)] [] (sh, pt, h) (qRV sh pt K)
  refine ev_aload_n 1 rfl dX1_stepThrough_0 rfl rfl ?_
  refine ev_iconst 2 rfl dX1_stepThrough_1 (by decide) ?_
  refine ev_putI (ki := 0) 5 rfl dX1_stepThrough_2 lf_1_11 (Or.inl rfl) (s_12 hst) (by decide) rfl ?_
  obtain ⟨h1, eh1⟩ : ∃ z : qM, z = qup h 12 0 0 := ⟨_, rfl⟩
  rw [← eh1]
  have H := H h1 eh1
  refine ev_aload_n 6 rfl dX1_stepThrough_5 rfl rfl ?_
  refine ev_iconst 7 rfl dX1_stepThrough_6 (by decide) ?_
  refine ev_putI (ki := 1) 10 rfl dX1_stepThrough_7 lf_1_15 (Or.inl rfl) (s_12 hst) (by decide) rfl ?_
  obtain ⟨h2, eh2⟩ : ∃ z : qM, z = qup h1 12 1 (-1) := ⟨_, rfl⟩
  rw [← eh2]
  have H := H h2 eh2
  refine ev_aload_n 11 rfl dX1_stepThrough_10 rfl rfl ?_
  refine ev_getR (ki := 6) (v := 16) 14 rfl dX1_stepThrough_11 lf_1_33 (s_12 hst) (by decide) rfl (p_12_6 hst) ?_
  refine ev_iconst 15 rfl dX1_stepThrough_14 (by decide) ?_
  refine ev_cSV (As := [(2, 16), (0, 0)]) (rest := []) 18 rfl dX1_stepThrough_15 lm_1_54 mm_J7_fill_53178 rfl rfl (Nat.le_of_ble_eq_true rfl) (Nat.le_of_ble_eq_true rfl) (Nat.le_refl _) H ?_
  intro h3 H
  refine ev_aload_n 19 rfl dX1_stepThrough_18 rfl rfl ?_
  refine ev_aload_n 20 rfl dX1_stepThrough_19 rfl rfl ?_
  refine ev_cVV (As := [(2, 2)]) (rest := []) 23 rfl dX1_stepThrough_20 lm_1_60 mm_X0_begin (sC hst hc) rfl rfl (Nat.le_of_ble_eq_true rfl) (Nat.le_of_ble_eq_true rfl) (Nat.le_refl _) H ?_
  intro h4 H
  refine ev_iconst 24 rfl dX1_stepThrough_23 (by decide) ?_
  refine ev_istore (L1 := [(2, 12), (2, t), (2, 2), (2, c), (0, 0), (8, -1)]) 26 rfl dX1_stepThrough_24 (Nat.le_of_ble_eq_true rfl) rfl ?_
  refine Ev.drop [2] rfl ?_
  exact H

set_option maxRecDepth 20000 in
theorem b_X1_stepThrough_26 {X : qX} {d : Nat} {sh : qS} {pt h : qM} {K : qM → Prop} {t c v4 : Int} (hst : St sh pt) (ht : isT t) (hc : isC c)
    (H : (((h t 9) ≤ v4 → ((¬ (h 12 0) = 0 → K h) ∧ ((h 12 0) = 0 → RunV X d mX1_stayBehind [(2, 12), (2, c)] sh pt h (fun h1 => ∀ h2 : qM, h2 = qup h1 c 3 1 → K h2)))) ∧ (v4 < (h t 9) → ((¬ (h 12 0) = 0 → ((¬ (h 12 0) = 0 → K h) ∧ ((h 12 0) = 0 → RunV X d mX1_stayBehind [(2, 12), (2, c)] sh pt h (fun h3 => ∀ h4 : qM, h4 = qup h3 c 3 1 → K h4)))) ∧ ((h 12 0) = 0 → (0 ≤ v4 ∧ v4 < 8) ∧ RunV X d mX1_gather [(2, 12), (0, (h (t + 8) v4)), (0, (h c 4))] sh pt h (fun h6 => RunI X d mX7_lineBegin [(2, t), (0, v4)] sh pt h6 (fun r8 h7 => (0 ≤ v4 ∧ v4 < 8) ∧ RunV X d mX1_doLine [(2, 12), (2, t), (2, c), (0, r8), (0, (h7 (t + 7) v4))] sh pt h7 (fun h10 => EvV X (d + 1) mX1_stepThrough 79 [(2, 12), (2, t), (8, -1), (2, c), (0, v4), (0, 0)] [] sh pt h10 K)))))))) :
    EvV X (d + 1) mX1_stepThrough 26 [(2, 12), (2, t), (8, -1), (2, c), (0, v4), (8, -1)] [] sh pt h K := by
  show Ev X (d + 1) 0 0 mX1_stepThrough 26 [(2, 12), (2, t), (8, -1), (2, c), (0, v4), (8, -1)] [] (sh, pt, h) (qRV sh pt K)
  refine ev_iload 28 rfl dX1_stepThrough_26 rfl ?_
  refine ev_aload_n 29 rfl dX1_stepThrough_28 rfl rfl ?_
  refine ev_getI (ki := 9) 32 rfl dX1_stepThrough_29 lf_1_66 (Or.inl rfl) (sT hst ht) (by decide) rfl ?_
  refine ev_icmp_ge (tgt := 131) 35 rfl dX1_stepThrough_32 (by decide) (fun cd => ?_) (fun cd => ?_)
  · have H := H.1 cd
    refine ev_aload_n 132 rfl dX1_stepThrough_131 rfl rfl ?_
    refine ev_getI (ki := 0) 135 rfl dX1_stepThrough_132 lf_1_11 (Or.inl rfl) (s_12 hst) (by decide) rfl ?_
    refine ev_if_ne (tgt := 148) 138 rfl dX1_stepThrough_135 (by decide) (fun cd => ?_) (fun cd => ?_)
    · have H := H.1 cd
      exact ev_retV dX1_stepThrough_148 rfl H
    · have H := H.2 cd
      refine ev_aload_n 139 rfl dX1_stepThrough_138 rfl rfl ?_
      refine ev_aload_n 140 rfl dX1_stepThrough_139 rfl rfl ?_
      refine ev_cVV (As := [(2, c)]) (rest := []) 143 rfl dX1_stepThrough_140 lm_1_101 mm_X1_stayBehind (s_12 hst) rfl rfl (Nat.le_of_ble_eq_true rfl) (Nat.le_of_ble_eq_true rfl) (Nat.le_refl _) H ?_
      intro h1 H
      refine ev_aload_n 144 rfl dX1_stepThrough_143 rfl rfl ?_
      refine ev_iconst 145 rfl dX1_stepThrough_144 (by decide) ?_
      refine ev_putI (ki := 3) 148 rfl dX1_stepThrough_145 lf_1_105 (Or.inr ⟨rfl, by decide, by decide⟩) (sC hst hc) (by decide) rfl ?_
      obtain ⟨h2, eh2⟩ : ∃ z : qM, z = qup h1 c 3 1 := ⟨_, rfl⟩
      rw [← eh2]
      have H := H h2 eh2
      exact ev_retV dX1_stepThrough_148 rfl H
  · have H := H.2 cd
    refine ev_aload_n 36 rfl dX1_stepThrough_35 rfl rfl ?_
    refine ev_getI (ki := 0) 39 rfl dX1_stepThrough_36 lf_1_11 (Or.inl rfl) (s_12 hst) (by decide) rfl ?_
    refine ev_if_ne (tgt := 131) 42 rfl dX1_stepThrough_39 (by decide) (fun cd => ?_) (fun cd => ?_)
    · have H := H.1 cd
      refine ev_aload_n 132 rfl dX1_stepThrough_131 rfl rfl ?_
      refine ev_getI (ki := 0) 135 rfl dX1_stepThrough_132 lf_1_11 (Or.inl rfl) (s_12 hst) (by decide) rfl ?_
      refine ev_if_ne (tgt := 148) 138 rfl dX1_stepThrough_135 (by decide) (fun cd => ?_) (fun cd => ?_)
      · have H := H.1 cd
        exact ev_retV dX1_stepThrough_148 rfl H
      · have H := H.2 cd
        refine ev_aload_n 139 rfl dX1_stepThrough_138 rfl rfl ?_
        refine ev_aload_n 140 rfl dX1_stepThrough_139 rfl rfl ?_
        refine ev_cVV (As := [(2, c)]) (rest := []) 143 rfl dX1_stepThrough_140 lm_1_101 mm_X1_stayBehind (s_12 hst) rfl rfl (Nat.le_of_ble_eq_true rfl) (Nat.le_of_ble_eq_true rfl) (Nat.le_refl _) H ?_
        intro h3 H
        refine ev_aload_n 144 rfl dX1_stepThrough_143 rfl rfl ?_
        refine ev_iconst 145 rfl dX1_stepThrough_144 (by decide) ?_
        refine ev_putI (ki := 3) 148 rfl dX1_stepThrough_145 lf_1_105 (Or.inr ⟨rfl, by decide, by decide⟩) (sC hst hc) (by decide) rfl ?_
        obtain ⟨h4, eh4⟩ : ∃ z : qM, z = qup h3 c 3 1 := ⟨_, rfl⟩
        rw [← eh4]
        have H := H h4 eh4
        exact ev_retV dX1_stepThrough_148 rfl H
    · have H := H.2 cd
      refine ev_aload_n 43 rfl dX1_stepThrough_42 rfl rfl ?_
      refine ev_aload_n 44 rfl dX1_stepThrough_43 rfl rfl ?_
      refine ev_getR (ki := 7) (v := (t + 8)) 47 rfl dX1_stepThrough_44 lf_1_71 (sT hst ht) (by decide) rfl (pT7 hst ht) ?_
      refine ev_iload 49 rfl dX1_stepThrough_47 rfl ?_
      obtain ⟨b5, H⟩ := H
      refine ev_iaload 50 rfl dX1_stepThrough_49 (sT7 hst ht) b5.1 b5.2 ?_
      refine ev_aload_n 51 rfl dX1_stepThrough_50 rfl rfl ?_
      refine ev_getI (ki := 4) 54 rfl dX1_stepThrough_51 lf_1_74 (Or.inl rfl) (sC hst hc) (by decide) rfl ?_
      refine ev_cVV (As := [(0, (h (t + 8) v4)), (0, (h c 4))]) (rest := []) 57 rfl dX1_stepThrough_54 lm_1_77 mm_X1_gather (s_12 hst) rfl rfl (Nat.le_of_ble_eq_true rfl) (Nat.le_of_ble_eq_true rfl) (Nat.le_refl _) H ?_
      intro h6 H
      refine ev_aload_n 58 rfl dX1_stepThrough_57 rfl rfl ?_
      refine ev_aload_n 59 rfl dX1_stepThrough_58 rfl rfl ?_
      refine ev_aload_n 60 rfl dX1_stepThrough_59 rfl rfl ?_
      refine ev_aload_n 61 rfl dX1_stepThrough_60 rfl rfl ?_
      refine ev_iload 63 rfl dX1_stepThrough_61 rfl ?_
      refine ev_cVI (As := [(0, v4)]) (rest := [(2, c), (2, t), (2, 12)]) 66 rfl dX1_stepThrough_63 lm_1_81 mm_X7_lineBegin (sT hst ht) rfl rfl (Nat.le_of_ble_eq_true rfl) (Nat.le_of_ble_eq_true rfl) (Nat.le_refl _) H ?_
      intro r8 h7 H
      refine ev_aload_n 67 rfl dX1_stepThrough_66 rfl rfl ?_
      refine ev_getR (ki := 6) (v := (t + 7)) 70 rfl dX1_stepThrough_67 lf_1_85 (sT hst ht) (by decide) rfl (pT6 hst ht) ?_
      refine ev_iload 72 rfl dX1_stepThrough_70 rfl ?_
      obtain ⟨b9, H⟩ := H
      refine ev_iaload 73 rfl dX1_stepThrough_72 (sT6 hst ht) b9.1 b9.2 ?_
      refine ev_cVV (As := [(2, t), (2, c), (0, r8), (0, (h7 (t + 7) v4))]) (rest := []) 76 rfl dX1_stepThrough_73 lm_1_88 mm_X1_doLine (s_12 hst) rfl rfl (Nat.le_of_ble_eq_true rfl) (Nat.le_of_ble_eq_true rfl) (Nat.le_refl _) H ?_
      intro h10 H
      refine ev_iconst 77 rfl dX1_stepThrough_76 (by decide) ?_
      refine ev_istore (L1 := [(2, 12), (2, t), (8, -1), (2, c), (0, v4), (0, 0)]) 79 rfl dX1_stepThrough_77 (Nat.le_of_ble_eq_true rfl) rfl ?_
      exact H

set_option maxRecDepth 20000 in
theorem b_X1_stepThrough_79 {X : qX} {d : Nat} {sh : qS} {pt h : qM} {K : qM → Prop} {t c v4 v5 : Int} (hst : St sh pt) (ht : isT t) (hc : isC c)
    (H : (((h 12 5) ≤ v5 → RunI X d mJ9_max_7cf53 [(0, (h c 5)), (0, (h 12 10))] sh pt h (fun r2 h1 => ∀ h3 : qM, h3 = qup h1 c 5 r2 → (qI (v4 + 1)) ∧ EvV X (d + 1) mX1_stepThrough 26 [(2, 12), (2, t), (8, -1), (2, c), (0, (v4 + 1)), (8, -1)] [] sh pt h3 K)) ∧ (v5 < (h 12 5) → (0 ≤ v5 ∧ v5 < 20) ∧ (0 ≤ (h 13 v5) ∧ (h 13 v5) < 20) ∧ ∀ h6 : qM, h6 = qup h 16 (h 13 v5) (h 12 10) → (qI (v5 + 1)) ∧ EvV X (d + 1) mX1_stepThrough 79 [(2, 12), (2, t), (8, -1), (2, c), (0, v4), (0, (v5 + 1))] [] sh pt h6 K))) :
    EvV X (d + 1) mX1_stepThrough 79 [(2, 12), (2, t), (8, -1), (2, c), (0, v4), (0, v5)] [] sh pt h K := by
  show Ev X (d + 1) 0 0 mX1_stepThrough 79 [(2, 12), (2, t), (8, -1), (2, c), (0, v4), (0, v5)] [] (sh, pt, h) (qRV sh pt K)
  refine ev_iload 81 rfl dX1_stepThrough_79 rfl ?_
  refine ev_aload_n 82 rfl dX1_stepThrough_81 rfl rfl ?_
  refine ev_getI (ki := 5) 85 rfl dX1_stepThrough_82 lf_1_30 (Or.inl rfl) (s_12 hst) (by decide) rfl ?_
  refine ev_icmp_ge (tgt := 110) 88 rfl dX1_stepThrough_85 (by decide) (fun cd => ?_) (fun cd => ?_)
  · have H := H.1 cd
    refine ev_aload_n 111 rfl dX1_stepThrough_110 rfl rfl ?_
    refine ev_aload_n 112 rfl dX1_stepThrough_111 rfl rfl ?_
    refine ev_getI (ki := 5) 115 rfl dX1_stepThrough_112 lf_1_92 (Or.inl rfl) (sC hst hc) (by decide) rfl ?_
    refine ev_aload_n 116 rfl dX1_stepThrough_115 rfl rfl ?_
    refine ev_getI (ki := 10) 119 rfl dX1_stepThrough_116 lf_1_45 (Or.inl rfl) (s_12 hst) (by decide) rfl ?_
    refine ev_cSI (As := [(0, (h c 5)), (0, (h 12 10))]) (rest := [(2, c)]) 122 rfl dX1_stepThrough_119 lm_1_95 mm_J9_max_7cf53 rfl rfl (Nat.le_of_ble_eq_true rfl) (Nat.le_of_ble_eq_true rfl) (Nat.le_refl _) H ?_
    intro r2 h1 H
    refine ev_putI (ki := 5) 125 rfl dX1_stepThrough_122 lf_1_92 (Or.inl rfl) (sC hst hc) (by decide) rfl ?_
    obtain ⟨h3, eh3⟩ : ∃ z : qM, z = qup h1 c 5 r2 := ⟨_, rfl⟩
    rw [← eh3]
    have H := H h3 eh3
    obtain ⟨sd, H⟩ := H
    refine ev_iinc (L1 := [(2, 12), (2, t), (8, -1), (2, c), (0, (v4 + 1)), (0, v5)]) 128 rfl dX1_stepThrough_125 rfl sd (Nat.le_of_ble_eq_true rfl) rfl ?_
    refine ev_goto (tgt := 26) dX1_stepThrough_128 (by decide) ?_
    refine Ev.drop [5] rfl ?_
    exact H
  · have H := H.2 cd
    refine ev_aload_n 89 rfl dX1_stepThrough_88 rfl rfl ?_
    refine ev_getR (ki := 6) (v := 16) 92 rfl dX1_stepThrough_89 lf_1_33 (s_12 hst) (by decide) rfl (p_12_6 hst) ?_
    refine ev_aload_n 93 rfl dX1_stepThrough_92 rfl rfl ?_
    refine ev_getR (ki := 2) (v := 13) 96 rfl dX1_stepThrough_93 lf_1_20 (s_12 hst) (by decide) rfl (p_12_2 hst) ?_
    refine ev_iload 98 rfl dX1_stepThrough_96 rfl ?_
    obtain ⟨b4, H⟩ := H
    refine ev_iaload 99 rfl dX1_stepThrough_98 (s_13 hst) b4.1 b4.2 ?_
    refine ev_aload_n 100 rfl dX1_stepThrough_99 rfl rfl ?_
    refine ev_getI (ki := 10) 103 rfl dX1_stepThrough_100 lf_1_45 (Or.inl rfl) (s_12 hst) (by decide) rfl ?_
    obtain ⟨b5, H⟩ := H
    refine ev_iastore 104 rfl dX1_stepThrough_103 (s_16 hst) b5.1 b5.2 ?_
    obtain ⟨h6, eh6⟩ : ∃ z : qM, z = qup h 16 (h 13 v5) (h 12 10) := ⟨_, rfl⟩
    rw [← eh6]
    have H := H h6 eh6
    obtain ⟨sd, H⟩ := H
    refine ev_iinc (L1 := [(2, 12), (2, t), (8, -1), (2, c), (0, v4), (0, (v5 + 1))]) 107 rfl dX1_stepThrough_104 rfl sd (Nat.le_of_ble_eq_true rfl) rfl ?_
    refine ev_goto (tgt := 79) dX1_stepThrough_107 (by decide) ?_
    exact H

set_option maxRecDepth 20000 in
theorem b_X1_gather {X : qX} {d : Nat} {sh : qS} {pt h : qM} {K : qM → Prop} {v1 v2 : Int} (hst : St sh pt)
    (H : ∀ h1 : qM, h1 = qup h 12 5 0 → EvV X d mX1_gather 7 [(2, 12), (0, v1), (0, v2), (0, 0)] [] sh pt h1 K) :
    RunV X d mX1_gather [(2, 12), (0, v1), (0, v2)] sh pt h K := by
  show Ev X d 0 0 mX1_gather 0 [(2, 12), (0, v1), (0, v2), (8, -1)] [] (sh, pt, h) (qRV sh pt K)
  refine ev_aload_n 1 rfl dX1_gather_0 rfl rfl ?_
  refine ev_iconst 2 rfl dX1_gather_1 (by decide) ?_
  refine ev_putI (ki := 5) 5 rfl dX1_gather_2 lf_1_30 (Or.inl rfl) (s_12 hst) (by decide) rfl ?_
  obtain ⟨h1, eh1⟩ : ∃ z : qM, z = qup h 12 5 0 := ⟨_, rfl⟩
  rw [← eh1]
  have H := H h1 eh1
  refine ev_iconst 6 rfl dX1_gather_5 (by decide) ?_
  refine ev_istore_n (L1 := [(2, 12), (0, v1), (0, v2), (0, 0)]) 7 rfl dX1_gather_6 rfl (Nat.le_of_ble_eq_true rfl) rfl ?_
  exact H

set_option maxRecDepth 20000 in
theorem b_X1_gather_7 {X : qX} {d : Nat} {sh : qS} {pt h : qM} {K : qM → Prop} {v1 v2 v3 : Int} (hst : St sh pt)
    (H : ((v2 ≤ v3 → K h) ∧ (v3 < v2 → (((qiand (qiushr v1 v3) 1) = 0 → (qI (v3 + 1)) ∧ EvV X d mX1_gather 7 [(2, 12), (0, v1), (0, v2), (0, (v3 + 1))] [] sh pt h K) ∧ (¬ (qiand (qiushr v1 v3) 1) = 0 → (0 ≤ (h 12 5) ∧ (h 12 5) < 20) ∧ ∀ h2 : qM, h2 = qup h 13 (h 12 5) v3 → (qI ((h2 12 5) + 1)) ∧ ∀ h3 : qM, h3 = qup h2 12 5 ((h2 12 5) + 1) → (qI (v3 + 1)) ∧ EvV X d mX1_gather 7 [(2, 12), (0, v1), (0, v2), (0, (v3 + 1))] [] sh pt h3 K))))) :
    EvV X d mX1_gather 7 [(2, 12), (0, v1), (0, v2), (0, v3)] [] sh pt h K := by
  show Ev X d 0 0 mX1_gather 7 [(2, 12), (0, v1), (0, v2), (0, v3)] [] (sh, pt, h) (qRV sh pt K)
  refine ev_iload_n 8 rfl dX1_gather_7 rfl rfl ?_
  refine ev_iload_n 9 rfl dX1_gather_8 rfl rfl ?_
  refine ev_icmp_ge (tgt := 46) 12 rfl dX1_gather_9 (by decide) (fun cd => ?_) (fun cd => ?_)
  · have H := H.1 cd
    exact ev_retV dX1_gather_46 rfl H
  · have H := H.2 cd
    refine ev_iload_n 13 rfl dX1_gather_12 rfl rfl ?_
    refine ev_iload_n 14 rfl dX1_gather_13 rfl rfl ?_
    refine ev_iushr 15 rfl dX1_gather_14 ?_
    refine ev_iconst 16 rfl dX1_gather_15 (by decide) ?_
    refine ev_iand 17 rfl dX1_gather_16 ?_
    refine ev_if_eq (tgt := 40) 20 rfl dX1_gather_17 (by decide) (fun cd => ?_) (fun cd => ?_)
    · have H := H.1 cd
      obtain ⟨sd, H⟩ := H
      refine ev_iinc (L1 := [(2, 12), (0, v1), (0, v2), (0, (v3 + 1))]) 43 rfl dX1_gather_40 rfl sd (Nat.le_of_ble_eq_true rfl) rfl ?_
      refine ev_goto (tgt := 7) dX1_gather_43 (by decide) ?_
      exact H
    · have H := H.2 cd
      refine ev_aload_n 21 rfl dX1_gather_20 rfl rfl ?_
      refine ev_getR (ki := 2) (v := 13) 24 rfl dX1_gather_21 lf_1_20 (s_12 hst) (by decide) rfl (p_12_2 hst) ?_
      refine ev_aload_n 25 rfl dX1_gather_24 rfl rfl ?_
      refine ev_getI (ki := 5) 28 rfl dX1_gather_25 lf_1_30 (Or.inl rfl) (s_12 hst) (by decide) rfl ?_
      refine ev_iload_n 29 rfl dX1_gather_28 rfl rfl ?_
      obtain ⟨b1, H⟩ := H
      refine ev_iastore 30 rfl dX1_gather_29 (s_13 hst) b1.1 b1.2 ?_
      obtain ⟨h2, eh2⟩ : ∃ z : qM, z = qup h 13 (h 12 5) v3 := ⟨_, rfl⟩
      rw [← eh2]
      have H := H h2 eh2
      refine ev_aload_n 31 rfl dX1_gather_30 rfl rfl ?_
      refine ev_dup 32 rfl dX1_gather_31 q21 ?_
      refine ev_getI (ki := 5) 35 rfl dX1_gather_32 lf_1_30 (Or.inl rfl) (s_12 hst) (by decide) rfl ?_
      refine ev_iconst 36 rfl dX1_gather_35 (by decide) ?_
      obtain ⟨sd, H⟩ := H
      refine ev_iadd 37 rfl dX1_gather_36 sd ?_
      refine ev_putI (ki := 5) 40 rfl dX1_gather_37 lf_1_30 (Or.inl rfl) (s_12 hst) (by decide) rfl ?_
      obtain ⟨h3, eh3⟩ : ∃ z : qM, z = qup h2 12 5 ((h2 12 5) + 1) := ⟨_, rfl⟩
      rw [← eh3]
      have H := H h3 eh3
      obtain ⟨sd, H⟩ := H
      refine ev_iinc (L1 := [(2, 12), (0, v1), (0, v2), (0, (v3 + 1))]) 43 rfl dX1_gather_40 rfl sd (Nat.le_of_ble_eq_true rfl) rfl ?_
      refine ev_goto (tgt := 7) dX1_gather_43 (by decide) ?_
      exact H

set_option maxRecDepth 20000 in
theorem b_X1_stayBehind {X : qX} {d : Nat} {sh : qS} {pt h : qM} {K : qM → Prop} {c : Int} (hst : St sh pt) (hc : isC c)
    (H : EvV X (d + 1) mX1_stayBehind 2 [(2, 12), (2, c), (0, 0), (8, -1)] [] sh pt h K) :
    RunV X (d + 1) mX1_stayBehind [(2, 12), (2, c)] sh pt h K := by
  show Ev X (d + 1) 0 0 mX1_stayBehind 0 [(2, 12), (2, c), (8, -1), (8, -1)] [] (sh, pt, h) (qRV sh pt K)
  refine ev_iconst 1 rfl dX1_stayBehind_0 (by decide) ?_
  refine ev_istore_n (L1 := [(2, 12), (2, c), (0, 0), (8, -1)]) 2 rfl dX1_stayBehind_1 rfl (Nat.le_of_ble_eq_true rfl) rfl ?_
  exact H

set_option maxRecDepth 20000 in
theorem b_X1_stayBehind_2 {X : qX} {d : Nat} {sh : qS} {pt h : qM} {K : qM → Prop} {c v2 : Int} (hst : St sh pt) (hc : isC c)
    (H : (((h c 4) ≤ v2 → K h) ∧ (v2 < (h c 4) → (0 ≤ v2 ∧ v2 < 20) ∧ (qI ((h 16 v2) + 1)) ∧ EvV X (d + 1) mX1_stayBehind 19 [(2, 12), (2, c), (0, v2), (0, ((h 16 v2) + 1))] [] sh pt h K))) :
    EvV X (d + 1) mX1_stayBehind 2 [(2, 12), (2, c), (0, v2), (8, -1)] [] sh pt h K := by
  show Ev X (d + 1) 0 0 mX1_stayBehind 2 [(2, 12), (2, c), (0, v2), (8, -1)] [] (sh, pt, h) (qRV sh pt K)
  refine ev_iload_n 3 rfl dX1_stayBehind_2 rfl rfl ?_
  refine ev_aload_n 4 rfl dX1_stayBehind_3 rfl rfl ?_
  refine ev_getI (ki := 4) 7 rfl dX1_stayBehind_4 lf_1_74 (Or.inl rfl) (sC hst hc) (by decide) rfl ?_
  refine ev_icmp_ge (tgt := 52) 10 rfl dX1_stayBehind_7 (by decide) (fun cd => ?_) (fun cd => ?_)
  · have H := H.1 cd
    exact ev_retV dX1_stayBehind_52 rfl H
  · have H := H.2 cd
    refine ev_aload_n 11 rfl dX1_stayBehind_10 rfl rfl ?_
    refine ev_getR (ki := 6) (v := 16) 14 rfl dX1_stayBehind_11 lf_1_33 (s_12 hst) (by decide) rfl (p_12_6 hst) ?_
    refine ev_iload_n 15 rfl dX1_stayBehind_14 rfl rfl ?_
    obtain ⟨b1, H⟩ := H
    refine ev_iaload 16 rfl dX1_stayBehind_15 (s_16 hst) b1.1 b1.2 ?_
    refine ev_iconst 17 rfl dX1_stayBehind_16 (by decide) ?_
    obtain ⟨sd, H⟩ := H
    refine ev_iadd 18 rfl dX1_stayBehind_17 sd ?_
    refine ev_istore_n (L1 := [(2, 12), (2, c), (0, v2), (0, ((h 16 v2) + 1))]) 19 rfl dX1_stayBehind_18 rfl (Nat.le_of_ble_eq_true rfl) rfl ?_
    exact H

set_option maxRecDepth 20000 in
theorem b_X1_stayBehind_19 {X : qX} {d : Nat} {sh : qS} {pt h : qM} {K : qM → Prop} {c v2 v3 : Int} (hst : St sh pt) (hc : isC c)
    (H : (((h c 5) < v3 → (qI (v2 + 1)) ∧ EvV X (d + 1) mX1_stayBehind 2 [(2, 12), (2, c), (0, (v2 + 1)), (8, -1)] [] sh pt h K) ∧ (v3 ≤ (h c 5) → (0 ≤ v2 ∧ v2 < 20) ∧ RunV X d mX0_copy [(2, c), (0, (h 16 v2)), (0, v2), (0, v3), (0, v2)] sh pt h (fun h2 => (qI (v3 + 1)) ∧ EvV X (d + 1) mX1_stayBehind 19 [(2, 12), (2, c), (0, v2), (0, (v3 + 1))] [] sh pt h2 K)))) :
    EvV X (d + 1) mX1_stayBehind 19 [(2, 12), (2, c), (0, v2), (0, v3)] [] sh pt h K := by
  show Ev X (d + 1) 0 0 mX1_stayBehind 19 [(2, 12), (2, c), (0, v2), (0, v3)] [] (sh, pt, h) (qRV sh pt K)
  refine ev_iload_n 20 rfl dX1_stayBehind_19 rfl rfl ?_
  refine ev_aload_n 21 rfl dX1_stayBehind_20 rfl rfl ?_
  refine ev_getI (ki := 5) 24 rfl dX1_stayBehind_21 lf_1_92 (Or.inl rfl) (sC hst hc) (by decide) rfl ?_
  refine ev_icmp_gt (tgt := 46) 27 rfl dX1_stayBehind_24 (by decide) (fun cd => ?_) (fun cd => ?_)
  · have H := H.1 cd
    obtain ⟨sd, H⟩ := H
    refine ev_iinc (L1 := [(2, 12), (2, c), (0, (v2 + 1)), (0, v3)]) 49 rfl dX1_stayBehind_46 rfl sd (Nat.le_of_ble_eq_true rfl) rfl ?_
    refine ev_goto (tgt := 2) dX1_stayBehind_49 (by decide) ?_
    refine Ev.drop [3] rfl ?_
    exact H
  · have H := H.2 cd
    refine ev_aload_n 28 rfl dX1_stayBehind_27 rfl rfl ?_
    refine ev_aload_n 29 rfl dX1_stayBehind_28 rfl rfl ?_
    refine ev_getR (ki := 6) (v := 16) 32 rfl dX1_stayBehind_29 lf_1_33 (s_12 hst) (by decide) rfl (p_12_6 hst) ?_
    refine ev_iload_n 33 rfl dX1_stayBehind_32 rfl rfl ?_
    obtain ⟨b1, H⟩ := H
    refine ev_iaload 34 rfl dX1_stayBehind_33 (s_16 hst) b1.1 b1.2 ?_
    refine ev_iload_n 35 rfl dX1_stayBehind_34 rfl rfl ?_
    refine ev_iload_n 36 rfl dX1_stayBehind_35 rfl rfl ?_
    refine ev_iload_n 37 rfl dX1_stayBehind_36 rfl rfl ?_
    refine ev_cVV (As := [(0, (h 16 v2)), (0, v2), (0, v3), (0, v2)]) (rest := []) 40 rfl dX1_stayBehind_37 lm_1_109 mm_X0_copy (sC hst hc) rfl rfl (Nat.le_of_ble_eq_true rfl) (Nat.le_of_ble_eq_true rfl) (Nat.le_refl _) H ?_
    intro h2 H
    obtain ⟨sd, H⟩ := H
    refine ev_iinc (L1 := [(2, 12), (2, c), (0, v2), (0, (v3 + 1))]) 43 rfl dX1_stayBehind_40 rfl sd (Nat.le_of_ble_eq_true rfl) rfl ?_
    refine ev_goto (tgt := 19) dX1_stayBehind_43 (by decide) ?_
    exact H

set_option maxRecDepth 20000 in
theorem b_X1_doLine {X : qX} {d : Nat} {sh : qS} {pt h : qM} {K : qM → Prop} {t c v3 v4 : Int} (hst : St sh pt) (ht : isT t) (hc : isC c)
    (H : ∀ h1 : qM, h1 = qup h 12 10 0 → ∀ h2 : qM, h2 = qup h1 12 11 0 → ∀ h3 : qM, h3 = qup h2 12 12 0 → ∀ h4 : qM, h4 = qup h3 12 9 0 → EvV X (d + 1) mX1_doLine 26 [(2, 12), (2, t), (2, c), (8, -1), (0, v4), (0, v3), (0, 0)] [] sh pt h4 K) :
    RunV X (d + 1) mX1_doLine [(2, 12), (2, t), (2, c), (0, v3), (0, v4)] sh pt h K := by
  show Ev X (d + 1) 0 0 mX1_doLine 0 [(2, 12), (2, t), (2, c), (0, v3), (0, v4), (8, -1), (8, -1)] [] (sh, pt, h) (qRV sh pt K)
  refine ev_aload_n 1 rfl dX1_doLine_0 rfl rfl ?_
  refine ev_iconst 2 rfl dX1_doLine_1 (by decide) ?_
  refine ev_putI (ki := 10) 5 rfl dX1_doLine_2 lf_1_45 (Or.inl rfl) (s_12 hst) (by decide) rfl ?_
  obtain ⟨h1, eh1⟩ : ∃ z : qM, z = qup h 12 10 0 := ⟨_, rfl⟩
  rw [← eh1]
  have H := H h1 eh1
  refine ev_aload_n 6 rfl dX1_doLine_5 rfl rfl ?_
  refine ev_iconst 7 rfl dX1_doLine_6 (by decide) ?_
  refine ev_putI (ki := 11) 10 rfl dX1_doLine_7 lf_1_48 (Or.inl rfl) (s_12 hst) (by decide) rfl ?_
  obtain ⟨h2, eh2⟩ : ∃ z : qM, z = qup h1 12 11 0 := ⟨_, rfl⟩
  rw [← eh2]
  have H := H h2 eh2
  refine ev_aload_n 11 rfl dX1_doLine_10 rfl rfl ?_
  refine ev_iconst 12 rfl dX1_doLine_11 (by decide) ?_
  refine ev_putI (ki := 12) 15 rfl dX1_doLine_12 lf_1_51 (Or.inl rfl) (s_12 hst) (by decide) rfl ?_
  obtain ⟨h3, eh3⟩ : ∃ z : qM, z = qup h2 12 12 0 := ⟨_, rfl⟩
  rw [← eh3]
  have H := H h3 eh3
  refine ev_aload_n 16 rfl dX1_doLine_15 rfl rfl ?_
  refine ev_iconst 17 rfl dX1_doLine_16 (by decide) ?_
  refine ev_putI (ki := 9) 20 rfl dX1_doLine_17 lf_1_42 (Or.inl rfl) (s_12 hst) (by decide) rfl ?_
  obtain ⟨h4, eh4⟩ : ∃ z : qM, z = qup h3 12 9 0 := ⟨_, rfl⟩
  rw [← eh4]
  have H := H h4 eh4
  refine ev_iload_n 21 rfl dX1_doLine_20 rfl rfl ?_
  refine ev_istore (L1 := [(2, 12), (2, t), (2, c), (0, v3), (0, v4), (0, v3), (8, -1)]) 23 rfl dX1_doLine_21 (Nat.le_of_ble_eq_true rfl) rfl ?_
  refine ev_iconst 24 rfl dX1_doLine_23 (by decide) ?_
  refine ev_istore (L1 := [(2, 12), (2, t), (2, c), (0, v3), (0, v4), (0, v3), (0, 0)]) 26 rfl dX1_doLine_24 (Nat.le_of_ble_eq_true rfl) rfl ?_
  refine Ev.drop [3] rfl ?_
  exact H

set_option maxRecDepth 20000 in
theorem b_X1_doLine_26 {X : qX} {d : Nat} {sh : qS} {pt h : qM} {K : qM → Prop} {t c v4 v5 v6 : Int} (hst : St sh pt) (ht : isT t) (hc : isC c)
    (H : ((11000 ≤ v6 → K h) ∧ (v6 < 11000 → ((¬ (h 12 0) = 0 → K h) ∧ ((h 12 0) = 0 → (((h 12 9) ≤ 0 → EvV X (d + 1) mX1_doLine 80 [(2, 12), (2, t), (2, c), (8, -1), (0, v4), (0, v5), (0, v6)] [] sh pt h K) ∧ (0 < (h 12 9) → (qI ((h 12 9) - 1)) ∧ (0 ≤ ((h 12 9) - 1) ∧ ((h 12 9) - 1) < 3) ∧ (0 ≤ (h 17 ((h 12 9) - 1)) ∧ (h 17 ((h 12 9) - 1)) < 60) ∧ ((¬ v5 = (h (t + 6) (h 17 ((h 12 9) - 1))) → EvV X (d + 1) mX1_doLine 80 [(2, 12), (2, t), (2, c), (8, -1), (0, v4), (0, v5), (0, v6)] [] sh pt h K) ∧ (v5 = (h (t + 6) (h 17 ((h 12 9) - 1))) → RunI X d mX1_behindRound [(2, 12), (0, v5)] sh pt h (fun r4 h3 => (qI (v6 + 1)) ∧ EvV X (d + 1) mX1_doLine 26 [(2, 12), (2, t), (2, c), (8, -1), (0, v4), (0, r4), (0, (v6 + 1))] [] sh pt h3 K)))))))))) :
    EvV X (d + 1) mX1_doLine 26 [(2, 12), (2, t), (2, c), (8, -1), (0, v4), (0, v5), (0, v6)] [] sh pt h K := by
  show Ev X (d + 1) 0 0 mX1_doLine 26 [(2, 12), (2, t), (2, c), (8, -1), (0, v4), (0, v5), (0, v6)] [] (sh, pt, h) (qRV sh pt K)
  refine ev_iload 28 rfl dX1_doLine_26 rfl ?_
  refine ev_sipush 31 rfl dX1_doLine_28 (by decide) (by decide) ?_
  refine ev_icmp_ge (tgt := 140) 34 rfl dX1_doLine_31 (by decide) (fun cd => ?_) (fun cd => ?_)
  · have H := H.1 cd
    exact ev_retV dX1_doLine_140 rfl H
  · have H := H.2 cd
    refine ev_aload_n 35 rfl dX1_doLine_34 rfl rfl ?_
    refine ev_getI (ki := 0) 38 rfl dX1_doLine_35 lf_1_11 (Or.inl rfl) (s_12 hst) (by decide) rfl ?_
    refine ev_if_ne (tgt := 140) 41 rfl dX1_doLine_38 (by decide) (fun cd => ?_) (fun cd => ?_)
    · have H := H.1 cd
      exact ev_retV dX1_doLine_140 rfl H
    · have H := H.2 cd
      refine ev_aload_n 42 rfl dX1_doLine_41 rfl rfl ?_
      refine ev_getI (ki := 9) 45 rfl dX1_doLine_42 lf_1_42 (Or.inl rfl) (s_12 hst) (by decide) rfl ?_
      refine ev_if_le (tgt := 80) 48 rfl dX1_doLine_45 (by decide) (fun cd => ?_) (fun cd => ?_)
      · have H := H.1 cd
        exact H
      · have H := H.2 cd
        refine ev_iload 50 rfl dX1_doLine_48 rfl ?_
        refine ev_aload_n 51 rfl dX1_doLine_50 rfl rfl ?_
        refine ev_getR (ki := 5) (v := (t + 6)) 54 rfl dX1_doLine_51 lf_1_113 (sT hst ht) (by decide) rfl (pT5 hst ht) ?_
        refine ev_aload_n 55 rfl dX1_doLine_54 rfl rfl ?_
        refine ev_getR (ki := 7) (v := 17) 58 rfl dX1_doLine_55 lf_1_36 (s_12 hst) (by decide) rfl (p_12_7 hst) ?_
        refine ev_aload_n 59 rfl dX1_doLine_58 rfl rfl ?_
        refine ev_getI (ki := 9) 62 rfl dX1_doLine_59 lf_1_42 (Or.inl rfl) (s_12 hst) (by decide) rfl ?_
        refine ev_iconst 63 rfl dX1_doLine_62 (by decide) ?_
        obtain ⟨sd, H⟩ := H
        refine ev_isub 64 rfl dX1_doLine_63 sd ?_
        obtain ⟨b1, H⟩ := H
        refine ev_iaload 65 rfl dX1_doLine_64 (s_17 hst) b1.1 b1.2 ?_
        obtain ⟨b2, H⟩ := H
        refine ev_iaload 66 rfl dX1_doLine_65 (sT5 hst ht) b2.1 b2.2 ?_
        refine ev_icmp_ne (tgt := 80) 69 rfl dX1_doLine_66 (by decide) (fun cd => ?_) (fun cd => ?_)
        · have H := H.1 cd
          exact H
        · have H := H.2 cd
          refine ev_aload_n 70 rfl dX1_doLine_69 rfl rfl ?_
          refine ev_iload 72 rfl dX1_doLine_70 rfl ?_
          refine ev_cVI (As := [(0, v5)]) (rest := []) 75 rfl dX1_doLine_72 lm_1_116 mm_X1_behindRound (s_12 hst) rfl rfl (Nat.le_of_ble_eq_true rfl) (Nat.le_of_ble_eq_true rfl) (Nat.le_refl _) H ?_
          intro r4 h3 H
          refine ev_istore (L1 := [(2, 12), (2, t), (2, c), (8, -1), (0, v4), (0, r4), (0, v6)]) 77 rfl dX1_doLine_75 (Nat.le_of_ble_eq_true rfl) rfl ?_
          refine ev_goto (tgt := 134) dX1_doLine_77 (by decide) ?_
          obtain ⟨sd, H⟩ := H
          refine ev_iinc (L1 := [(2, 12), (2, t), (2, c), (8, -1), (0, v4), (0, r4), (0, (v6 + 1))]) 137 rfl dX1_doLine_134 rfl sd (Nat.le_of_ble_eq_true rfl) rfl ?_
          refine ev_goto (tgt := 26) dX1_doLine_137 (by decide) ?_
          exact H

set_option maxRecDepth 20000 in
theorem b_X1_doLine_80 {X : qX} {d : Nat} {sh : qS} {pt h : qM} {K : qM → Prop} {t c v4 v5 v6 : Int} (hst : St sh pt) (ht : isT t) (hc : isC c)
    (H : ((v4 ≤ v5 → K h) ∧ (v5 < v4 → (0 ≤ v5 ∧ v5 < 60) ∧ RunV X d mX1_countOrder [(2, 12), (0, (h (t + 5) v5))] sh pt h (fun h2 => ((¬ (h2 12 0) = 0 → EvV X (d + 1) mX1_doLine 113 [(2, 12), (2, t), (2, c), (8, -1), (0, v4), (0, v5), (0, v6)] [] sh pt h2 K) ∧ ((h2 12 0) = 0 → RunV X d mX1_doOrder [(2, 12), (2, t), (2, c), (0, v5)] sh pt h2 (fun h3 => EvV X (d + 1) mX1_doLine 113 [(2, 12), (2, t), (2, c), (8, -1), (0, v4), (0, v5), (0, v6)] [] sh pt h3 K))))))) :
    EvV X (d + 1) mX1_doLine 80 [(2, 12), (2, t), (2, c), (8, -1), (0, v4), (0, v5), (0, v6)] [] sh pt h K := by
  show Ev X (d + 1) 0 0 mX1_doLine 80 [(2, 12), (2, t), (2, c), (8, -1), (0, v4), (0, v5), (0, v6)] [] (sh, pt, h) (qRV sh pt K)
  refine ev_iload 82 rfl dX1_doLine_80 rfl ?_
  refine ev_iload 84 rfl dX1_doLine_82 rfl ?_
  refine ev_icmp_ge (tgt := 140) 87 rfl dX1_doLine_84 (by decide) (fun cd => ?_) (fun cd => ?_)
  · have H := H.1 cd
    exact ev_retV dX1_doLine_140 rfl H
  · have H := H.2 cd
    refine ev_aload_n 88 rfl dX1_doLine_87 rfl rfl ?_
    refine ev_aload_n 89 rfl dX1_doLine_88 rfl rfl ?_
    refine ev_getR (ki := 4) (v := (t + 5)) 92 rfl dX1_doLine_89 lf_1_119 (sT hst ht) (by decide) rfl (pT4 hst ht) ?_
    refine ev_iload 94 rfl dX1_doLine_92 rfl ?_
    obtain ⟨b1, H⟩ := H
    refine ev_iaload 95 rfl dX1_doLine_94 (sT4 hst ht) b1.1 b1.2 ?_
    refine ev_cVV (As := [(0, (h (t + 5) v5))]) (rest := []) 98 rfl dX1_doLine_95 lm_1_122 mm_X1_countOrder (s_12 hst) rfl rfl (Nat.le_of_ble_eq_true rfl) (Nat.le_of_ble_eq_true rfl) (Nat.le_refl _) H ?_
    intro h2 H
    refine ev_aload_n 99 rfl dX1_doLine_98 rfl rfl ?_
    refine ev_getI (ki := 0) 102 rfl dX1_doLine_99 lf_1_11 (Or.inl rfl) (s_12 hst) (by decide) rfl ?_
    refine ev_if_ne (tgt := 113) 105 rfl dX1_doLine_102 (by decide) (fun cd => ?_) (fun cd => ?_)
    · have H := H.1 cd
      exact H
    · have H := H.2 cd
      refine ev_aload_n 106 rfl dX1_doLine_105 rfl rfl ?_
      refine ev_aload_n 107 rfl dX1_doLine_106 rfl rfl ?_
      refine ev_aload_n 108 rfl dX1_doLine_107 rfl rfl ?_
      refine ev_iload 110 rfl dX1_doLine_108 rfl ?_
      refine ev_cVV (As := [(2, t), (2, c), (0, v5)]) (rest := []) 113 rfl dX1_doLine_110 lm_1_126 mm_X1_doOrder (s_12 hst) rfl rfl (Nat.le_of_ble_eq_true rfl) (Nat.le_of_ble_eq_true rfl) (Nat.le_refl _) H ?_
      intro h3 H
      exact H

set_option maxRecDepth 20000 in
theorem b_X1_doLine_113 {X : qX} {d : Nat} {sh : qS} {pt h : qM} {K : qM → Prop} {t c v4 v5 v6 : Int} (hst : St sh pt) (ht : isT t) (hc : isC c)
    (H : (((h 12 0) = 0 → (qI (v5 + 1)) ∧ (qI (v6 + 1)) ∧ EvV X (d + 1) mX1_doLine 26 [(2, 12), (2, t), (2, c), (8, -1), (0, v4), (0, (v5 + 1)), (0, (v6 + 1))] [] sh pt h K) ∧ (¬ (h 12 0) = 0 → (0 ≤ v5 ∧ v5 < 60) ∧ ∀ h2 : qM, h2 = qup h 12 1 (h (t + 2) v5) → (qI (v5 + 1)) ∧ (qI (v6 + 1)) ∧ EvV X (d + 1) mX1_doLine 26 [(2, 12), (2, t), (2, c), (8, -1), (0, v4), (0, (v5 + 1)), (0, (v6 + 1))] [] sh pt h2 K))) :
    EvV X (d + 1) mX1_doLine 113 [(2, 12), (2, t), (2, c), (8, -1), (0, v4), (0, v5), (0, v6)] [] sh pt h K := by
  show Ev X (d + 1) 0 0 mX1_doLine 113 [(2, 12), (2, t), (2, c), (8, -1), (0, v4), (0, v5), (0, v6)] [] (sh, pt, h) (qRV sh pt K)
  refine ev_aload_n 114 rfl dX1_doLine_113 rfl rfl ?_
  refine ev_getI (ki := 0) 117 rfl dX1_doLine_114 lf_1_11 (Or.inl rfl) (s_12 hst) (by decide) rfl ?_
  refine ev_if_eq (tgt := 131) 120 rfl dX1_doLine_117 (by decide) (fun cd => ?_) (fun cd => ?_)
  · have H := H.1 cd
    obtain ⟨sd, H⟩ := H
    refine ev_iinc (L1 := [(2, 12), (2, t), (2, c), (8, -1), (0, v4), (0, (v5 + 1)), (0, v6)]) 134 rfl dX1_doLine_131 rfl sd (Nat.le_of_ble_eq_true rfl) rfl ?_
    obtain ⟨sd, H⟩ := H
    refine ev_iinc (L1 := [(2, 12), (2, t), (2, c), (8, -1), (0, v4), (0, (v5 + 1)), (0, (v6 + 1))]) 137 rfl dX1_doLine_134 rfl sd (Nat.le_of_ble_eq_true rfl) rfl ?_
    refine ev_goto (tgt := 26) dX1_doLine_137 (by decide) ?_
    exact H
  · have H := H.2 cd
    refine ev_aload_n 121 rfl dX1_doLine_120 rfl rfl ?_
    refine ev_aload_n 122 rfl dX1_doLine_121 rfl rfl ?_
    refine ev_getR (ki := 1) (v := (t + 2)) 125 rfl dX1_doLine_122 lf_1_130 (sT hst ht) (by decide) rfl (pT1 hst ht) ?_
    refine ev_iload 127 rfl dX1_doLine_125 rfl ?_
    obtain ⟨b1, H⟩ := H
    refine ev_iaload 128 rfl dX1_doLine_127 (sT1 hst ht) b1.1 b1.2 ?_
    refine ev_putI (ki := 1) 131 rfl dX1_doLine_128 lf_1_15 (Or.inl rfl) (s_12 hst) (by decide) rfl ?_
    obtain ⟨h2, eh2⟩ : ∃ z : qM, z = qup h 12 1 (h (t + 2) v5) := ⟨_, rfl⟩
    rw [← eh2]
    have H := H h2 eh2
    obtain ⟨sd, H⟩ := H
    refine ev_iinc (L1 := [(2, 12), (2, t), (2, c), (8, -1), (0, v4), (0, (v5 + 1)), (0, v6)]) 134 rfl dX1_doLine_131 rfl sd (Nat.le_of_ble_eq_true rfl) rfl ?_
    obtain ⟨sd, H⟩ := H
    refine ev_iinc (L1 := [(2, 12), (2, t), (2, c), (8, -1), (0, v4), (0, (v5 + 1)), (0, (v6 + 1))]) 137 rfl dX1_doLine_134 rfl sd (Nat.le_of_ble_eq_true rfl) rfl ?_
    refine ev_goto (tgt := 26) dX1_doLine_137 (by decide) ?_
    exact H

set_option maxRecDepth 20000 in
theorem b_X1_behindRound {X : qX} {d : Nat} {sh : qS} {pt h : qM} {K : Int → qM → Prop} {v1 : Int} (hst : St sh pt)
    (H : (qI ((h 12 9) - 1)) ∧ (0 ≤ ((h 12 9) - 1) ∧ ((h 12 9) - 1) < 3) ∧ (qI ((h 18 ((h 12 9) - 1)) - 1)) ∧ (0 ≤ ((h 12 9) - 1) ∧ ((h 12 9) - 1) < 3) ∧ ∀ h3 : qM, h3 = qup h 18 ((h 12 9) - 1) ((h 18 ((h 12 9) - 1)) - 1) → (qI ((h3 12 9) - 1)) ∧ (0 ≤ ((h3 12 9) - 1) ∧ ((h3 12 9) - 1) < 3) ∧ (((h3 18 ((h3 12 9) - 1)) ≤ 0 → (qI ((h3 12 9) - 1)) ∧ ∀ h5 : qM, h5 = qup h3 12 9 ((h3 12 9) - 1) → K v1 h5) ∧ (0 < (h3 18 ((h3 12 9) - 1)) → (qI ((h3 12 9) - 1)) ∧ (0 ≤ ((h3 12 9) - 1) ∧ ((h3 12 9) - 1) < 3) ∧ (qI ((h3 17 ((h3 12 9) - 1)) + 1)) ∧ K ((h3 17 ((h3 12 9) - 1)) + 1) h3))) :
    RunI X d mX1_behindRound [(2, 12), (0, v1)] sh pt h K := by
  show Ev X d 0 0 mX1_behindRound 0 [(2, 12), (0, v1)] [] (sh, pt, h) (qRI sh pt K)
  refine ev_aload_n 1 rfl dX1_behindRound_0 rfl rfl ?_
  refine ev_getR (ki := 8) (v := 18) 4 rfl dX1_behindRound_1 lf_1_39 (s_12 hst) (by decide) rfl (p_12_8 hst) ?_
  refine ev_aload_n 5 rfl dX1_behindRound_4 rfl rfl ?_
  refine ev_getI (ki := 9) 8 rfl dX1_behindRound_5 lf_1_42 (Or.inl rfl) (s_12 hst) (by decide) rfl ?_
  refine ev_iconst 9 rfl dX1_behindRound_8 (by decide) ?_
  obtain ⟨sd, H⟩ := H
  refine ev_isub 10 rfl dX1_behindRound_9 sd ?_
  refine ev_dup2 11 rfl dX1_behindRound_10 q01 q21 ?_
  obtain ⟨b1, H⟩ := H
  refine ev_iaload 12 rfl dX1_behindRound_11 (s_18 hst) b1.1 b1.2 ?_
  refine ev_iconst 13 rfl dX1_behindRound_12 (by decide) ?_
  obtain ⟨sd, H⟩ := H
  refine ev_isub 14 rfl dX1_behindRound_13 sd ?_
  obtain ⟨b2, H⟩ := H
  refine ev_iastore 15 rfl dX1_behindRound_14 (s_18 hst) b2.1 b2.2 ?_
  obtain ⟨h3, eh3⟩ : ∃ z : qM, z = qup h 18 ((h 12 9) - 1) ((h 18 ((h 12 9) - 1)) - 1) := ⟨_, rfl⟩
  rw [← eh3]
  have H := H h3 eh3
  refine ev_aload_n 16 rfl dX1_behindRound_15 rfl rfl ?_
  refine ev_getR (ki := 8) (v := 18) 19 rfl dX1_behindRound_16 lf_1_39 (s_12 hst) (by decide) rfl (p_12_8 hst) ?_
  refine ev_aload_n 20 rfl dX1_behindRound_19 rfl rfl ?_
  refine ev_getI (ki := 9) 23 rfl dX1_behindRound_20 lf_1_42 (Or.inl rfl) (s_12 hst) (by decide) rfl ?_
  refine ev_iconst 24 rfl dX1_behindRound_23 (by decide) ?_
  obtain ⟨sd, H⟩ := H
  refine ev_isub 25 rfl dX1_behindRound_24 sd ?_
  obtain ⟨b4, H⟩ := H
  refine ev_iaload 26 rfl dX1_behindRound_25 (s_18 hst) b4.1 b4.2 ?_
  refine ev_if_le (tgt := 43) 29 rfl dX1_behindRound_26 (by decide) (fun cd => ?_) (fun cd => ?_)
  · have H := H.1 cd
    refine ev_aload_n 44 rfl dX1_behindRound_43 rfl rfl ?_
    refine ev_dup 45 rfl dX1_behindRound_44 q21 ?_
    refine ev_getI (ki := 9) 48 rfl dX1_behindRound_45 lf_1_42 (Or.inl rfl) (s_12 hst) (by decide) rfl ?_
    refine ev_iconst 49 rfl dX1_behindRound_48 (by decide) ?_
    obtain ⟨sd, H⟩ := H
    refine ev_isub 50 rfl dX1_behindRound_49 sd ?_
    refine ev_putI (ki := 9) 53 rfl dX1_behindRound_50 lf_1_42 (Or.inl rfl) (s_12 hst) (by decide) rfl ?_
    obtain ⟨h5, eh5⟩ : ∃ z : qM, z = qup h3 12 9 ((h3 12 9) - 1) := ⟨_, rfl⟩
    rw [← eh5]
    have H := H h5 eh5
    refine ev_iload_n 54 rfl dX1_behindRound_53 rfl rfl ?_
    exact ev_retI dX1_behindRound_54 rfl H
  · have H := H.2 cd
    refine ev_aload_n 30 rfl dX1_behindRound_29 rfl rfl ?_
    refine ev_getR (ki := 7) (v := 17) 33 rfl dX1_behindRound_30 lf_1_36 (s_12 hst) (by decide) rfl (p_12_7 hst) ?_
    refine ev_aload_n 34 rfl dX1_behindRound_33 rfl rfl ?_
    refine ev_getI (ki := 9) 37 rfl dX1_behindRound_34 lf_1_42 (Or.inl rfl) (s_12 hst) (by decide) rfl ?_
    refine ev_iconst 38 rfl dX1_behindRound_37 (by decide) ?_
    obtain ⟨sd, H⟩ := H
    refine ev_isub 39 rfl dX1_behindRound_38 sd ?_
    obtain ⟨b6, H⟩ := H
    refine ev_iaload 40 rfl dX1_behindRound_39 (s_17 hst) b6.1 b6.2 ?_
    refine ev_iconst 41 rfl dX1_behindRound_40 (by decide) ?_
    obtain ⟨sd, H⟩ := H
    refine ev_iadd 42 rfl dX1_behindRound_41 sd ?_
    exact ev_retI dX1_behindRound_42 rfl H

set_option maxRecDepth 20000 in
theorem b_X1_countOrder {X : qX} {d : Nat} {sh : qS} {pt h : qM} {K : qM → Prop} {v1 : Int} (hst : St sh pt)
    (H : (qI ((h 12 11) + 1)) ∧ ∀ h1 : qM, h1 = qup h 12 11 ((h 12 11) + 1) → (((h1 12 11) ≤ 500 → (qI ((h1 12 10) + v1)) ∧ ((((h1 12 10) + v1) ≤ 150 → K h1) ∧ (150 < ((h1 12 10) + v1) → RunV X d mX1_fail [(2, 12), (0, 2)] sh pt h1 (fun h2 => K h2)))) ∧ (500 < (h1 12 11) → RunV X d mX1_fail [(2, 12), (0, 1)] sh pt h1 (fun h3 => K h3)))) :
    RunV X (d + 1) mX1_countOrder [(2, 12), (0, v1)] sh pt h K := by
  show Ev X (d + 1) 0 0 mX1_countOrder 0 [(2, 12), (0, v1)] [] (sh, pt, h) (qRV sh pt K)
  refine ev_aload_n 1 rfl dX1_countOrder_0 rfl rfl ?_
  refine ev_dup 2 rfl dX1_countOrder_1 q21 ?_
  refine ev_getI (ki := 11) 5 rfl dX1_countOrder_2 lf_1_48 (Or.inl rfl) (s_12 hst) (by decide) rfl ?_
  refine ev_iconst 6 rfl dX1_countOrder_5 (by decide) ?_
  obtain ⟨sd, H⟩ := H
  refine ev_iadd 7 rfl dX1_countOrder_6 sd ?_
  refine ev_putI (ki := 11) 10 rfl dX1_countOrder_7 lf_1_48 (Or.inl rfl) (s_12 hst) (by decide) rfl ?_
  obtain ⟨h1, eh1⟩ : ∃ z : qM, z = qup h 12 11 ((h 12 11) + 1) := ⟨_, rfl⟩
  rw [← eh1]
  have H := H h1 eh1
  refine ev_aload_n 11 rfl dX1_countOrder_10 rfl rfl ?_
  refine ev_getI (ki := 11) 14 rfl dX1_countOrder_11 lf_1_48 (Or.inl rfl) (s_12 hst) (by decide) rfl ?_
  refine ev_sipush 17 rfl dX1_countOrder_14 (by decide) (by decide) ?_
  refine ev_icmp_le (tgt := 28) 20 rfl dX1_countOrder_17 (by decide) (fun cd => ?_) (fun cd => ?_)
  · have H := H.1 cd
    refine ev_aload_n 29 rfl dX1_countOrder_28 rfl rfl ?_
    refine ev_getI (ki := 10) 32 rfl dX1_countOrder_29 lf_1_45 (Or.inl rfl) (s_12 hst) (by decide) rfl ?_
    refine ev_iload_n 33 rfl dX1_countOrder_32 rfl rfl ?_
    obtain ⟨sd, H⟩ := H
    refine ev_iadd 34 rfl dX1_countOrder_33 sd ?_
    refine ev_sipush 37 rfl dX1_countOrder_34 (by decide) (by decide) ?_
    refine ev_icmp_le (tgt := 45) 40 rfl dX1_countOrder_37 (by decide) (fun cd => ?_) (fun cd => ?_)
    · have H := H.1 cd
      exact ev_retV dX1_countOrder_45 rfl H
    · have H := H.2 cd
      refine ev_aload_n 41 rfl dX1_countOrder_40 rfl rfl ?_
      refine ev_iconst 42 rfl dX1_countOrder_41 (by decide) ?_
      refine ev_cVV (As := [(0, 2)]) (rest := []) 45 rfl dX1_countOrder_42 lm_1_133 mm_X1_fail (s_12 hst) rfl rfl (Nat.le_of_ble_eq_true rfl) (Nat.le_of_ble_eq_true rfl) (Nat.le_refl _) H ?_
      intro h2 H
      exact ev_retV dX1_countOrder_45 rfl H
  · have H := H.2 cd
    refine ev_aload_n 21 rfl dX1_countOrder_20 rfl rfl ?_
    refine ev_iconst 22 rfl dX1_countOrder_21 (by decide) ?_
    refine ev_cVV (As := [(0, 1)]) (rest := []) 25 rfl dX1_countOrder_22 lm_1_133 mm_X1_fail (s_12 hst) rfl rfl (Nat.le_of_ble_eq_true rfl) (Nat.le_of_ble_eq_true rfl) (Nat.le_refl _) H ?_
    intro h3 H
    refine ev_goto (tgt := 45) dX1_countOrder_25 (by decide) ?_
    exact ev_retV dX1_countOrder_45 rfl H

set_option maxRecDepth 20000 in
theorem b_X1_doOrder {X : qX} {d : Nat} {sh : qS} {pt h : qM} {K : qM → Prop} {t c v3 : Int} (hst : St sh pt) (ht : isT t) (hc : isC c)
    (H : (0 ≤ v3 ∧ v3 < 60) ∧ (0 ≤ v3 ∧ v3 < 60) ∧ (0 ≤ v3 ∧ v3 < 60) ∧ (((h (t + 1) v3) = 0 → RunV X d mX1_stepAhead [(2, 12), (2, c), (0, (h (t + 5) v3)), (0, 1)] sh pt h (fun h4 => EvV X (d + 1) mX1_doOrder 245 [(2, 12), (2, t), (8, -1), (0, v3), (0, (h (t + 5) v3)), (8, -1)] [] sh pt h4 K)) ∧ ((h (t + 1) v3) = 1 → RunV X d mX1_stepAhead [(2, 12), (2, c), (0, (h (t + 5) v3)), (0, (-1))] sh pt h (fun h5 => EvV X (d + 1) mX1_doOrder 245 [(2, 12), (2, t), (8, -1), (0, v3), (0, (h (t + 5) v3)), (8, -1)] [] sh pt h5 K)) ∧ ((h (t + 1) v3) = 2 → RunV X d mX1_stepAhead [(2, 12), (2, c), (0, (h (t + 5) v3)), (0, 0)] sh pt h (fun h6 => EvV X (d + 1) mX1_doOrder 245 [(2, 12), (2, t), (8, -1), (0, v3), (0, (h (t + 5) v3)), (8, -1)] [] sh pt h6 K)) ∧ ((h (t + 1) v3) = 3 → RunV X d mX1_stepAhead [(2, 12), (2, c), (0, (h (t + 5) v3)), (0, 0)] sh pt h (fun h7 => EvV X (d + 1) mX1_doOrder 245 [(2, 12), (2, t), (8, -1), (0, v3), (0, (h (t + 5) v3)), (8, -1)] [] sh pt h7 K)) ∧ ((h (t + 1) v3) = 4 → RunV X d mX1_followPivot [(2, 12), (2, c), (0, (h (t + 5) v3))] sh pt h (fun h8 => EvV X (d + 1) mX1_doOrder 245 [(2, 12), (2, t), (8, -1), (0, v3), (0, (h (t + 5) v3)), (8, -1)] [] sh pt h8 K)) ∧ ((h (t + 1) v3) = 5 → RunV X d mX1_turnBody [(2, 12), (2, c), (0, (h (t + 3) v3))] sh pt h (fun h9 => RunV X d mX1_judgeTurn [(2, 12), (2, c), (0, (h (t + 3) v3))] sh pt h9 (fun h10 => EvV X (d + 1) mX1_doOrder 245 [(2, 12), (2, t), (8, -1), (0, v3), (0, (h (t + 5) v3)), (8, -1)] [] sh pt h10 K))) ∧ ((h (t + 1) v3) = 6 → ((¬ (h (t + 3) v3) = 0 → EvV X (d + 1) mX1_doOrder 141 [(2, 12), (2, t), (2, c), (0, v3), (0, (h (t + 5) v3)), (0, (h (t + 3) v3))] [(0, (-1)), (2, c), (2, 12)] sh pt h K) ∧ ((h (t + 3) v3) = 0 → EvV X (d + 1) mX1_doOrder 141 [(2, 12), (2, t), (2, c), (0, v3), (0, (h (t + 5) v3)), (0, (h (t + 3) v3))] [(0, 1), (2, c), (2, 12)] sh pt h K))) ∧ ((h (t + 1) v3) = 7 → RunV X d mX1_aimOpen [(2, 12), (2, c), (0, (h (t + 3) v3))] sh pt h (fun h11 => RunV X d mX1_slide [(2, 12), (2, c), (0, (h (t + 5) v3))] sh pt h11 (fun h12 => EvV X (d + 1) mX1_doOrder 245 [(2, 12), (2, t), (8, -1), (0, v3), (0, (h (t + 5) v3)), (8, -1)] [] sh pt h12 K))) ∧ ((h (t + 1) v3) = 8 → RunV X d mX1_aimClose [(2, 12), (2, c), (0, (h (t + 3) v3))] sh pt h (fun h13 => RunV X d mX1_slide [(2, 12), (2, c), (0, (h (t + 5) v3))] sh pt h13 (fun h14 => EvV X (d + 1) mX1_doOrder 245 [(2, 12), (2, t), (8, -1), (0, v3), (0, (h (t + 5) v3)), (8, -1)] [] sh pt h14 K))) ∧ ((h (t + 1) v3) = 9 → (0 ≤ v3 ∧ v3 < 60) ∧ RunV X d mX1_aimShift [(2, 12), (2, c), (0, (h (t + 3) v3)), (0, (h (t + 4) v3))] sh pt h (fun h16 => RunV X d mX1_slide [(2, 12), (2, c), (0, (h (t + 5) v3))] sh pt h16 (fun h17 => EvV X (d + 1) mX1_doOrder 245 [(2, 12), (2, t), (8, -1), (0, v3), (0, (h (t + 5) v3)), (8, -1)] [] sh pt h17 K))) ∧ ((h (t + 1) v3) = 10 → RunV X d mX1_beginAgain [(2, 12), (0, v3), (0, (h (t + 3) v3))] sh pt h (fun h18 => EvV X (d + 1) mX1_doOrder 245 [(2, 12), (2, t), (8, -1), (0, v3), (0, (h (t + 5) v3)), (8, -1)] [] sh pt h18 K)) ∧ (((h (t + 1) v3) < 0 ∨ 10 < (h (t + 1) v3)) → RunV X d mX1_stepAhead [(2, 12), (2, c), (0, (h (t + 5) v3)), (0, 0)] sh pt h (fun h19 => EvV X (d + 1) mX1_doOrder 245 [(2, 12), (2, t), (8, -1), (0, v3), (0, (h (t + 5) v3)), (8, -1)] [] sh pt h19 K)))) :
    RunV X (d + 1) mX1_doOrder [(2, 12), (2, t), (2, c), (0, v3)] sh pt h K := by
  show Ev X (d + 1) 0 0 mX1_doOrder 0 [(2, 12), (2, t), (2, c), (0, v3), (8, -1), (8, -1)] [] (sh, pt, h) (qRV sh pt K)
  refine ev_aload_n 1 rfl dX1_doOrder_0 rfl rfl ?_
  refine ev_getR (ki := 4) (v := (t + 5)) 4 rfl dX1_doOrder_1 lf_1_119 (sT hst ht) (by decide) rfl (pT4 hst ht) ?_
  refine ev_iload_n 5 rfl dX1_doOrder_4 rfl rfl ?_
  obtain ⟨b1, H⟩ := H
  refine ev_iaload 6 rfl dX1_doOrder_5 (sT4 hst ht) b1.1 b1.2 ?_
  refine ev_istore (L1 := [(2, 12), (2, t), (2, c), (0, v3), (0, (h (t + 5) v3)), (8, -1)]) 8 rfl dX1_doOrder_6 (Nat.le_of_ble_eq_true rfl) rfl ?_
  refine ev_aload_n 9 rfl dX1_doOrder_8 rfl rfl ?_
  refine ev_getR (ki := 2) (v := (t + 3)) 12 rfl dX1_doOrder_9 lf_1_136 (sT hst ht) (by decide) rfl (pT2 hst ht) ?_
  refine ev_iload_n 13 rfl dX1_doOrder_12 rfl rfl ?_
  obtain ⟨b2, H⟩ := H
  refine ev_iaload 14 rfl dX1_doOrder_13 (sT2 hst ht) b2.1 b2.2 ?_
  refine ev_istore (L1 := [(2, 12), (2, t), (2, c), (0, v3), (0, (h (t + 5) v3)), (0, (h (t + 3) v3))]) 16 rfl dX1_doOrder_14 (Nat.le_of_ble_eq_true rfl) rfl ?_
  refine ev_aload_n 17 rfl dX1_doOrder_16 rfl rfl ?_
  refine ev_getR (ki := 0) (v := (t + 1)) 20 rfl dX1_doOrder_17 lf_1_139 (sT hst ht) (by decide) rfl (pT0 hst ht) ?_
  refine ev_iload_n 21 rfl dX1_doOrder_20 rfl rfl ?_
  obtain ⟨b3, H⟩ := H
  refine ev_iaload 22 rfl dX1_doOrder_21 (sT0 hst ht) b3.1 b3.2 ?_
  have hsw : (h (t + 1) v3) = 0 ∨ (h (t + 1) v3) = 1 ∨ (h (t + 1) v3) = 2 ∨ (h (t + 1) v3) = 3 ∨ (h (t + 1) v3) = 4 ∨ (h (t + 1) v3) = 5 ∨ (h (t + 1) v3) = 6 ∨ (h (t + 1) v3) = 7 ∨ (h (t + 1) v3) = 8 ∨ (h (t + 1) v3) = 9 ∨ (h (t + 1) v3) = 10 ∨ ((h (t + 1) v3) < 0 ∨ 10 < (h (t + 1) v3)) := by omega
  rcases hsw with cd | cd | cd | cd | cd | cd | cd | cd | cd | cd | cd | cd
  · have H := H.1 cd
    refine ev_tableIn (off := 58) (tgt := 80) dX1_doOrder_22 (by omega) (by omega) (by rw [cd]; rfl) (by decide) ?_
    refine ev_aload_n 81 rfl dX1_doOrder_80 rfl rfl ?_
    refine ev_aload_n 82 rfl dX1_doOrder_81 rfl rfl ?_
    refine ev_iload 84 rfl dX1_doOrder_82 rfl ?_
    refine ev_iconst 85 rfl dX1_doOrder_84 (by decide) ?_
    refine ev_cVV (As := [(2, c), (0, (h (t + 5) v3)), (0, 1)]) (rest := []) 88 rfl dX1_doOrder_85 lm_1_142 mm_X1_stepAhead (s_12 hst) rfl rfl (Nat.le_of_ble_eq_true rfl) (Nat.le_of_ble_eq_true rfl) (Nat.le_refl _) H ?_
    intro h4 H
    refine ev_goto (tgt := 245) dX1_doOrder_88 (by decide) ?_
    refine Ev.drop [2, 5] rfl ?_
    exact H
  · have H := H.2.1 cd
    refine ev_tableIn (off := 69) (tgt := 91) dX1_doOrder_22 (by omega) (by omega) (by rw [cd]; rfl) (by decide) ?_
    refine ev_aload_n 92 rfl dX1_doOrder_91 rfl rfl ?_
    refine ev_aload_n 93 rfl dX1_doOrder_92 rfl rfl ?_
    refine ev_iload 95 rfl dX1_doOrder_93 rfl ?_
    refine ev_iconst 96 rfl dX1_doOrder_95 (by decide) ?_
    refine ev_cVV (As := [(2, c), (0, (h (t + 5) v3)), (0, (-1))]) (rest := []) 99 rfl dX1_doOrder_96 lm_1_142 mm_X1_stepAhead (s_12 hst) rfl rfl (Nat.le_of_ble_eq_true rfl) (Nat.le_of_ble_eq_true rfl) (Nat.le_refl _) H ?_
    intro h5 H
    refine ev_goto (tgt := 245) dX1_doOrder_99 (by decide) ?_
    refine Ev.drop [2, 5] rfl ?_
    exact H
  · have H := H.2.2.1 cd
    refine ev_tableIn (off := 215) (tgt := 237) dX1_doOrder_22 (by omega) (by omega) (by rw [cd]; rfl) (by decide) ?_
    refine ev_aload_n 238 rfl dX1_doOrder_237 rfl rfl ?_
    refine ev_aload_n 239 rfl dX1_doOrder_238 rfl rfl ?_
    refine ev_iload 241 rfl dX1_doOrder_239 rfl ?_
    refine ev_iconst 242 rfl dX1_doOrder_241 (by decide) ?_
    refine ev_cVV (As := [(2, c), (0, (h (t + 5) v3)), (0, 0)]) (rest := []) 245 rfl dX1_doOrder_242 lm_1_142 mm_X1_stepAhead (s_12 hst) rfl rfl (Nat.le_of_ble_eq_true rfl) (Nat.le_of_ble_eq_true rfl) (Nat.le_refl _) H ?_
    intro h6 H
    refine Ev.drop [2, 5] rfl ?_
    exact H
  · have H := H.2.2.2.1 cd
    refine ev_tableIn (off := 215) (tgt := 237) dX1_doOrder_22 (by omega) (by omega) (by rw [cd]; rfl) (by decide) ?_
    refine ev_aload_n 238 rfl dX1_doOrder_237 rfl rfl ?_
    refine ev_aload_n 239 rfl dX1_doOrder_238 rfl rfl ?_
    refine ev_iload 241 rfl dX1_doOrder_239 rfl ?_
    refine ev_iconst 242 rfl dX1_doOrder_241 (by decide) ?_
    refine ev_cVV (As := [(2, c), (0, (h (t + 5) v3)), (0, 0)]) (rest := []) 245 rfl dX1_doOrder_242 lm_1_142 mm_X1_stepAhead (s_12 hst) rfl rfl (Nat.le_of_ble_eq_true rfl) (Nat.le_of_ble_eq_true rfl) (Nat.le_refl _) H ?_
    intro h7 H
    refine Ev.drop [2, 5] rfl ?_
    exact H
  · have H := H.2.2.2.2.1 cd
    refine ev_tableIn (off := 80) (tgt := 102) dX1_doOrder_22 (by omega) (by omega) (by rw [cd]; rfl) (by decide) ?_
    refine ev_aload_n 103 rfl dX1_doOrder_102 rfl rfl ?_
    refine ev_aload_n 104 rfl dX1_doOrder_103 rfl rfl ?_
    refine ev_iload 106 rfl dX1_doOrder_104 rfl ?_
    refine ev_cVV (As := [(2, c), (0, (h (t + 5) v3))]) (rest := []) 109 rfl dX1_doOrder_106 lm_1_146 mm_X1_followPivot (s_12 hst) rfl rfl (Nat.le_of_ble_eq_true rfl) (Nat.le_of_ble_eq_true rfl) (Nat.le_refl _) H ?_
    intro h8 H
    refine ev_goto (tgt := 245) dX1_doOrder_109 (by decide) ?_
    refine Ev.drop [2, 5] rfl ?_
    exact H
  · have H := H.2.2.2.2.2.1 cd
    refine ev_tableIn (off := 90) (tgt := 112) dX1_doOrder_22 (by omega) (by omega) (by rw [cd]; rfl) (by decide) ?_
    refine ev_aload_n 113 rfl dX1_doOrder_112 rfl rfl ?_
    refine ev_aload_n 114 rfl dX1_doOrder_113 rfl rfl ?_
    refine ev_iload 116 rfl dX1_doOrder_114 rfl ?_
    refine ev_cVV (As := [(2, c), (0, (h (t + 3) v3))]) (rest := []) 119 rfl dX1_doOrder_116 lm_1_150 mm_X1_turnBody (s_12 hst) rfl rfl (Nat.le_of_ble_eq_true rfl) (Nat.le_of_ble_eq_true rfl) (Nat.le_refl _) H ?_
    intro h9 H
    refine ev_aload_n 120 rfl dX1_doOrder_119 rfl rfl ?_
    refine ev_aload_n 121 rfl dX1_doOrder_120 rfl rfl ?_
    refine ev_iload 123 rfl dX1_doOrder_121 rfl ?_
    refine ev_cVV (As := [(2, c), (0, (h (t + 3) v3))]) (rest := []) 126 rfl dX1_doOrder_123 lm_1_153 mm_X1_judgeTurn (s_12 hst) rfl rfl (Nat.le_of_ble_eq_true rfl) (Nat.le_of_ble_eq_true rfl) (Nat.le_refl _) H ?_
    intro h10 H
    refine ev_goto (tgt := 245) dX1_doOrder_126 (by decide) ?_
    refine Ev.drop [2, 5] rfl ?_
    exact H
  · have H := H.2.2.2.2.2.2.1 cd
    refine ev_tableIn (off := 107) (tgt := 129) dX1_doOrder_22 (by omega) (by omega) (by rw [cd]; rfl) (by decide) ?_
    refine ev_aload_n 130 rfl dX1_doOrder_129 rfl rfl ?_
    refine ev_aload_n 131 rfl dX1_doOrder_130 rfl rfl ?_
    refine ev_iload 133 rfl dX1_doOrder_131 rfl ?_
    refine ev_if_ne (tgt := 140) 136 rfl dX1_doOrder_133 (by decide) (fun cd => ?_) (fun cd => ?_)
    · have H := H.1 cd
      refine ev_iconst 141 rfl dX1_doOrder_140 (by decide) ?_
      exact H
    · have H := H.2 cd
      refine ev_iconst 137 rfl dX1_doOrder_136 (by decide) ?_
      refine ev_goto (tgt := 141) dX1_doOrder_137 (by decide) ?_
      exact H
  · have H := H.2.2.2.2.2.2.2.1 cd
    refine ev_tableIn (off := 148) (tgt := 170) dX1_doOrder_22 (by omega) (by omega) (by rw [cd]; rfl) (by decide) ?_
    refine ev_aload_n 171 rfl dX1_doOrder_170 rfl rfl ?_
    refine ev_aload_n 172 rfl dX1_doOrder_171 rfl rfl ?_
    refine ev_iload 174 rfl dX1_doOrder_172 rfl ?_
    refine ev_cVV (As := [(2, c), (0, (h (t + 3) v3))]) (rest := []) 177 rfl dX1_doOrder_174 lm_1_162 mm_X1_aimOpen (s_12 hst) rfl rfl (Nat.le_of_ble_eq_true rfl) (Nat.le_of_ble_eq_true rfl) (Nat.le_refl _) H ?_
    intro h11 H
    refine ev_aload_n 178 rfl dX1_doOrder_177 rfl rfl ?_
    refine ev_aload_n 179 rfl dX1_doOrder_178 rfl rfl ?_
    refine ev_iload 181 rfl dX1_doOrder_179 rfl ?_
    refine ev_cVV (As := [(2, c), (0, (h (t + 5) v3))]) (rest := []) 184 rfl dX1_doOrder_181 lm_1_159 mm_X1_slide (s_12 hst) rfl rfl (Nat.le_of_ble_eq_true rfl) (Nat.le_of_ble_eq_true rfl) (Nat.le_refl _) H ?_
    intro h12 H
    refine ev_goto (tgt := 245) dX1_doOrder_184 (by decide) ?_
    refine Ev.drop [2, 5] rfl ?_
    exact H
  · have H := H.2.2.2.2.2.2.2.2.1 cd
    refine ev_tableIn (off := 165) (tgt := 187) dX1_doOrder_22 (by omega) (by omega) (by rw [cd]; rfl) (by decide) ?_
    refine ev_aload_n 188 rfl dX1_doOrder_187 rfl rfl ?_
    refine ev_aload_n 189 rfl dX1_doOrder_188 rfl rfl ?_
    refine ev_iload 191 rfl dX1_doOrder_189 rfl ?_
    refine ev_cVV (As := [(2, c), (0, (h (t + 3) v3))]) (rest := []) 194 rfl dX1_doOrder_191 lm_1_165 mm_X1_aimClose (s_12 hst) rfl rfl (Nat.le_of_ble_eq_true rfl) (Nat.le_of_ble_eq_true rfl) (Nat.le_refl _) H ?_
    intro h13 H
    refine ev_aload_n 195 rfl dX1_doOrder_194 rfl rfl ?_
    refine ev_aload_n 196 rfl dX1_doOrder_195 rfl rfl ?_
    refine ev_iload 198 rfl dX1_doOrder_196 rfl ?_
    refine ev_cVV (As := [(2, c), (0, (h (t + 5) v3))]) (rest := []) 201 rfl dX1_doOrder_198 lm_1_159 mm_X1_slide (s_12 hst) rfl rfl (Nat.le_of_ble_eq_true rfl) (Nat.le_of_ble_eq_true rfl) (Nat.le_refl _) H ?_
    intro h14 H
    refine ev_goto (tgt := 245) dX1_doOrder_201 (by decide) ?_
    refine Ev.drop [2, 5] rfl ?_
    exact H
  · have H := H.2.2.2.2.2.2.2.2.2.1 cd
    refine ev_tableIn (off := 182) (tgt := 204) dX1_doOrder_22 (by omega) (by omega) (by rw [cd]; rfl) (by decide) ?_
    refine ev_aload_n 205 rfl dX1_doOrder_204 rfl rfl ?_
    refine ev_aload_n 206 rfl dX1_doOrder_205 rfl rfl ?_
    refine ev_iload 208 rfl dX1_doOrder_206 rfl ?_
    refine ev_aload_n 209 rfl dX1_doOrder_208 rfl rfl ?_
    refine ev_getR (ki := 3) (v := (t + 4)) 212 rfl dX1_doOrder_209 lf_1_168 (sT hst ht) (by decide) rfl (pT3 hst ht) ?_
    refine ev_iload_n 213 rfl dX1_doOrder_212 rfl rfl ?_
    obtain ⟨b15, H⟩ := H
    refine ev_iaload 214 rfl dX1_doOrder_213 (sT3 hst ht) b15.1 b15.2 ?_
    refine ev_cVV (As := [(2, c), (0, (h (t + 3) v3)), (0, (h (t + 4) v3))]) (rest := []) 217 rfl dX1_doOrder_214 lm_1_171 mm_X1_aimShift (s_12 hst) rfl rfl (Nat.le_of_ble_eq_true rfl) (Nat.le_of_ble_eq_true rfl) (Nat.le_refl _) H ?_
    intro h16 H
    refine ev_aload_n 218 rfl dX1_doOrder_217 rfl rfl ?_
    refine ev_aload_n 219 rfl dX1_doOrder_218 rfl rfl ?_
    refine ev_iload 221 rfl dX1_doOrder_219 rfl ?_
    refine ev_cVV (As := [(2, c), (0, (h (t + 5) v3))]) (rest := []) 224 rfl dX1_doOrder_221 lm_1_159 mm_X1_slide (s_12 hst) rfl rfl (Nat.le_of_ble_eq_true rfl) (Nat.le_of_ble_eq_true rfl) (Nat.le_refl _) H ?_
    intro h17 H
    refine ev_goto (tgt := 245) dX1_doOrder_224 (by decide) ?_
    refine Ev.drop [2, 5] rfl ?_
    exact H
  · have H := H.2.2.2.2.2.2.2.2.2.2.1 cd
    refine ev_tableIn (off := 205) (tgt := 227) dX1_doOrder_22 (by omega) (by omega) (by rw [cd]; rfl) (by decide) ?_
    refine ev_aload_n 228 rfl dX1_doOrder_227 rfl rfl ?_
    refine ev_iload_n 229 rfl dX1_doOrder_228 rfl rfl ?_
    refine ev_iload 231 rfl dX1_doOrder_229 rfl ?_
    refine ev_cVV (As := [(0, v3), (0, (h (t + 3) v3))]) (rest := []) 234 rfl dX1_doOrder_231 lm_1_174 mm_X1_beginAgain (s_12 hst) rfl rfl (Nat.le_of_ble_eq_true rfl) (Nat.le_of_ble_eq_true rfl) (Nat.le_refl _) H ?_
    intro h18 H
    refine ev_goto (tgt := 245) dX1_doOrder_234 (by decide) ?_
    refine Ev.drop [2, 5] rfl ?_
    exact H
  · have H := H.2.2.2.2.2.2.2.2.2.2.2 cd
    refine ev_tableOut (tgt := 237) dX1_doOrder_22 cd (by decide) ?_
    refine ev_aload_n 238 rfl dX1_doOrder_237 rfl rfl ?_
    refine ev_aload_n 239 rfl dX1_doOrder_238 rfl rfl ?_
    refine ev_iload 241 rfl dX1_doOrder_239 rfl ?_
    refine ev_iconst 242 rfl dX1_doOrder_241 (by decide) ?_
    refine ev_cVV (As := [(2, c), (0, (h (t + 5) v3)), (0, 0)]) (rest := []) 245 rfl dX1_doOrder_242 lm_1_142 mm_X1_stepAhead (s_12 hst) rfl rfl (Nat.le_of_ble_eq_true rfl) (Nat.le_of_ble_eq_true rfl) (Nat.le_refl _) H ?_
    intro h19 H
    refine Ev.drop [2, 5] rfl ?_
    exact H

set_option maxRecDepth 20000 in
theorem b_X1_doOrder_245 {X : qX} {d : Nat} {sh : qS} {pt h : qM} {K : qM → Prop} {t v3 v4 : Int} (hst : St sh pt) (ht : isT t)
    (H : (0 ≤ v3 ∧ v3 < 60) ∧ ((¬ (h (t + 1) v3) = 3 → (qI ((h 12 12) + v4)) ∧ ∀ h2 : qM, h2 = qup h 12 12 ((h 12 12) + v4) → K h2) ∧ ((h (t + 1) v3) = 3 → ∀ h3 : qM, h3 = qup h 12 12 0 → K h3))) :
    EvV X (d + 1) mX1_doOrder 245 [(2, 12), (2, t), (8, -1), (0, v3), (0, v4), (8, -1)] [] sh pt h K := by
  show Ev X (d + 1) 0 0 mX1_doOrder 245 [(2, 12), (2, t), (8, -1), (0, v3), (0, v4), (8, -1)] [] (sh, pt, h) (qRV sh pt K)
  refine ev_aload_n 246 rfl dX1_doOrder_245 rfl rfl ?_
  refine ev_aload_n 247 rfl dX1_doOrder_246 rfl rfl ?_
  refine ev_getR (ki := 0) (v := (t + 1)) 250 rfl dX1_doOrder_247 lf_1_139 (sT hst ht) (by decide) rfl (pT0 hst ht) ?_
  refine ev_iload_n 251 rfl dX1_doOrder_250 rfl rfl ?_
  obtain ⟨b1, H⟩ := H
  refine ev_iaload 252 rfl dX1_doOrder_251 (sT0 hst ht) b1.1 b1.2 ?_
  refine ev_iconst 253 rfl dX1_doOrder_252 (by decide) ?_
  refine ev_icmp_ne (tgt := 260) 256 rfl dX1_doOrder_253 (by decide) (fun cd => ?_) (fun cd => ?_)
  · have H := H.1 cd
    refine ev_aload_n 261 rfl dX1_doOrder_260 rfl rfl ?_
    refine ev_getI (ki := 12) 264 rfl dX1_doOrder_261 lf_1_51 (Or.inl rfl) (s_12 hst) (by decide) rfl ?_
    refine ev_iload 266 rfl dX1_doOrder_264 rfl ?_
    obtain ⟨sd, H⟩ := H
    refine ev_iadd 267 rfl dX1_doOrder_266 sd ?_
    refine ev_putI (ki := 12) 270 rfl dX1_doOrder_267 lf_1_51 (Or.inl rfl) (s_12 hst) (by decide) rfl ?_
    obtain ⟨h2, eh2⟩ : ∃ z : qM, z = qup h 12 12 ((h 12 12) + v4) := ⟨_, rfl⟩
    rw [← eh2]
    have H := H h2 eh2
    exact ev_retV dX1_doOrder_270 rfl H
  · have H := H.2 cd
    refine ev_iconst 257 rfl dX1_doOrder_256 (by decide) ?_
    refine ev_goto (tgt := 267) dX1_doOrder_257 (by decide) ?_
    refine ev_putI (ki := 12) 270 rfl dX1_doOrder_267 lf_1_51 (Or.inl rfl) (s_12 hst) (by decide) rfl ?_
    obtain ⟨h3, eh3⟩ : ∃ z : qM, z = qup h 12 12 0 := ⟨_, rfl⟩
    rw [← eh3]
    have H := H h3 eh3
    exact ev_retV dX1_doOrder_270 rfl H

set_option maxRecDepth 20000 in
theorem b_X1_doOrder_141 {X : qX} {d : Nat} {sh : qS} {pt h : qM} {K : qM → Prop} {t c v3 v4 v5 u0 : Int} (hst : St sh pt) (ht : isT t) (hc : isC c)
    (H : RunV X d mX1_aimWheel [(2, 12), (2, c), (0, u0)] sh pt h (fun h1 => RunV X d mX1_slide [(2, 12), (2, c), (0, v4)] sh pt h1 (fun h2 => ((¬ v5 = 0 → RunV X d mX1_turnBody [(2, 12), (2, c), (0, 2)] sh pt h2 (fun h3 => EvV X (d + 1) mX1_doOrder 245 [(2, 12), (2, t), (8, -1), (0, v3), (0, v4), (8, -1)] [] sh pt h3 K)) ∧ (v5 = 0 → RunV X d mX1_turnBody [(2, 12), (2, c), (0, (-2))] sh pt h2 (fun h4 => EvV X (d + 1) mX1_doOrder 245 [(2, 12), (2, t), (8, -1), (0, v3), (0, v4), (8, -1)] [] sh pt h4 K)))))) :
    EvV X (d + 1) mX1_doOrder 141 [(2, 12), (2, t), (2, c), (0, v3), (0, v4), (0, v5)] [(0, u0), (2, c), (2, 12)] sh pt h K := by
  show Ev X (d + 1) 0 0 mX1_doOrder 141 [(2, 12), (2, t), (2, c), (0, v3), (0, v4), (0, v5)] [(0, u0), (2, c), (2, 12)] (sh, pt, h) (qRV sh pt K)
  refine ev_cVV (As := [(2, c), (0, u0)]) (rest := []) 144 rfl dX1_doOrder_141 lm_1_156 mm_X1_aimWheel (s_12 hst) rfl rfl (Nat.le_of_ble_eq_true rfl) (Nat.le_of_ble_eq_true rfl) (Nat.le_refl _) H ?_
  intro h1 H
  refine ev_aload_n 145 rfl dX1_doOrder_144 rfl rfl ?_
  refine ev_aload_n 146 rfl dX1_doOrder_145 rfl rfl ?_
  refine ev_iload 148 rfl dX1_doOrder_146 rfl ?_
  refine ev_cVV (As := [(2, c), (0, v4)]) (rest := []) 151 rfl dX1_doOrder_148 lm_1_159 mm_X1_slide (s_12 hst) rfl rfl (Nat.le_of_ble_eq_true rfl) (Nat.le_of_ble_eq_true rfl) (Nat.le_refl _) H ?_
  intro h2 H
  refine ev_aload_n 152 rfl dX1_doOrder_151 rfl rfl ?_
  refine ev_aload_n 153 rfl dX1_doOrder_152 rfl rfl ?_
  refine ev_iload 155 rfl dX1_doOrder_153 rfl ?_
  refine ev_if_ne (tgt := 163) 158 rfl dX1_doOrder_155 (by decide) (fun cd => ?_) (fun cd => ?_)
  · have H := H.1 cd
    refine ev_iconst 164 rfl dX1_doOrder_163 (by decide) ?_
    refine ev_cVV (As := [(2, c), (0, 2)]) (rest := []) 167 rfl dX1_doOrder_164 lm_1_150 mm_X1_turnBody (s_12 hst) rfl rfl (Nat.le_of_ble_eq_true rfl) (Nat.le_of_ble_eq_true rfl) (Nat.le_refl _) H ?_
    intro h3 H
    refine ev_goto (tgt := 245) dX1_doOrder_167 (by decide) ?_
    refine Ev.drop [2, 5] rfl ?_
    exact H
  · have H := H.2 cd
    refine ev_bipush 160 rfl dX1_doOrder_158 (by decide) (by decide) ?_
    refine ev_goto (tgt := 164) dX1_doOrder_160 (by decide) ?_
    refine ev_cVV (As := [(2, c), (0, (-2))]) (rest := []) 167 rfl dX1_doOrder_164 lm_1_150 mm_X1_turnBody (s_12 hst) rfl rfl (Nat.le_of_ble_eq_true rfl) (Nat.le_of_ble_eq_true rfl) (Nat.le_refl _) H ?_
    intro h4 H
    refine ev_goto (tgt := 245) dX1_doOrder_167 (by decide) ?_
    refine Ev.drop [2, 5] rfl ?_
    exact H

set_option maxRecDepth 20000 in
theorem b_X1_beginAgain {X : qX} {d : Nat} {sh : qS} {pt h : qM} {K : qM → Prop} {v1 v2 : Int} (hst : St sh pt)
    (H : ((3 ≤ (h 12 9) → K h) ∧ ((h 12 9) < 3 → (0 ≤ (h 12 9) ∧ (h 12 9) < 3) ∧ ∀ h2 : qM, h2 = qup h 17 (h 12 9) v1 → (0 ≤ (h2 12 9) ∧ (h2 12 9) < 3) ∧ ∀ h4 : qM, h4 = qup h2 18 (h2 12 9) v2 → (qI ((h4 12 9) + 1)) ∧ ∀ h5 : qM, h5 = qup h4 12 9 ((h4 12 9) + 1) → K h5))) :
    RunV X d mX1_beginAgain [(2, 12), (0, v1), (0, v2)] sh pt h K := by
  show Ev X d 0 0 mX1_beginAgain 0 [(2, 12), (0, v1), (0, v2)] [] (sh, pt, h) (qRV sh pt K)
  refine ev_aload_n 1 rfl dX1_beginAgain_0 rfl rfl ?_
  refine ev_getI (ki := 9) 4 rfl dX1_beginAgain_1 lf_1_42 (Or.inl rfl) (s_12 hst) (by decide) rfl ?_
  refine ev_iconst 5 rfl dX1_beginAgain_4 (by decide) ?_
  refine ev_icmp_ge (tgt := 38) 8 rfl dX1_beginAgain_5 (by decide) (fun cd => ?_) (fun cd => ?_)
  · have H := H.1 cd
    exact ev_retV dX1_beginAgain_38 rfl H
  · have H := H.2 cd
    refine ev_aload_n 9 rfl dX1_beginAgain_8 rfl rfl ?_
    refine ev_getR (ki := 7) (v := 17) 12 rfl dX1_beginAgain_9 lf_1_36 (s_12 hst) (by decide) rfl (p_12_7 hst) ?_
    refine ev_aload_n 13 rfl dX1_beginAgain_12 rfl rfl ?_
    refine ev_getI (ki := 9) 16 rfl dX1_beginAgain_13 lf_1_42 (Or.inl rfl) (s_12 hst) (by decide) rfl ?_
    refine ev_iload_n 17 rfl dX1_beginAgain_16 rfl rfl ?_
    obtain ⟨b1, H⟩ := H
    refine ev_iastore 18 rfl dX1_beginAgain_17 (s_17 hst) b1.1 b1.2 ?_
    obtain ⟨h2, eh2⟩ : ∃ z : qM, z = qup h 17 (h 12 9) v1 := ⟨_, rfl⟩
    rw [← eh2]
    have H := H h2 eh2
    refine ev_aload_n 19 rfl dX1_beginAgain_18 rfl rfl ?_
    refine ev_getR (ki := 8) (v := 18) 22 rfl dX1_beginAgain_19 lf_1_39 (s_12 hst) (by decide) rfl (p_12_8 hst) ?_
    refine ev_aload_n 23 rfl dX1_beginAgain_22 rfl rfl ?_
    refine ev_getI (ki := 9) 26 rfl dX1_beginAgain_23 lf_1_42 (Or.inl rfl) (s_12 hst) (by decide) rfl ?_
    refine ev_iload_n 27 rfl dX1_beginAgain_26 rfl rfl ?_
    obtain ⟨b3, H⟩ := H
    refine ev_iastore 28 rfl dX1_beginAgain_27 (s_18 hst) b3.1 b3.2 ?_
    obtain ⟨h4, eh4⟩ : ∃ z : qM, z = qup h2 18 (h2 12 9) v2 := ⟨_, rfl⟩
    rw [← eh4]
    have H := H h4 eh4
    refine ev_aload_n 29 rfl dX1_beginAgain_28 rfl rfl ?_
    refine ev_dup 30 rfl dX1_beginAgain_29 q21 ?_
    refine ev_getI (ki := 9) 33 rfl dX1_beginAgain_30 lf_1_42 (Or.inl rfl) (s_12 hst) (by decide) rfl ?_
    refine ev_iconst 34 rfl dX1_beginAgain_33 (by decide) ?_
    obtain ⟨sd, H⟩ := H
    refine ev_iadd 35 rfl dX1_beginAgain_34 sd ?_
    refine ev_putI (ki := 9) 38 rfl dX1_beginAgain_35 lf_1_42 (Or.inl rfl) (s_12 hst) (by decide) rfl ?_
    obtain ⟨h5, eh5⟩ : ∃ z : qM, z = qup h4 12 9 ((h4 12 9) + 1) := ⟨_, rfl⟩
    rw [← eh5]
    have H := H h5 eh5
    exact ev_retV dX1_beginAgain_38 rfl H

set_option maxRecDepth 20000 in
theorem b_X1_fail {X : qX} {d : Nat} {sh : qS} {pt h : qM} {K : qM → Prop} {v1 : Int} (hst : St sh pt)
    (H : ((¬ (h 12 0) = 0 → K h) ∧ ((h 12 0) = 0 → ∀ h1 : qM, h1 = qup h 12 0 v1 → K h1))) :
    RunV X d mX1_fail [(2, 12), (0, v1)] sh pt h K := by
  show Ev X d 0 0 mX1_fail 0 [(2, 12), (0, v1)] [] (sh, pt, h) (qRV sh pt K)
  refine ev_aload_n 1 rfl dX1_fail_0 rfl rfl ?_
  refine ev_getI (ki := 0) 4 rfl dX1_fail_1 lf_1_11 (Or.inl rfl) (s_12 hst) (by decide) rfl ?_
  refine ev_if_ne (tgt := 12) 7 rfl dX1_fail_4 (by decide) (fun cd => ?_) (fun cd => ?_)
  · have H := H.1 cd
    exact ev_retV dX1_fail_12 rfl H
  · have H := H.2 cd
    refine ev_aload_n 8 rfl dX1_fail_7 rfl rfl ?_
    refine ev_iload_n 9 rfl dX1_fail_8 rfl rfl ?_
    refine ev_putI (ki := 0) 12 rfl dX1_fail_9 lf_1_11 (Or.inl rfl) (s_12 hst) (by decide) rfl ?_
    obtain ⟨h1, eh1⟩ : ∃ z : qM, z = qup h 12 0 v1 := ⟨_, rfl⟩
    rw [← eh1]
    have H := H h1 eh1
    exact ev_retV dX1_fail_12 rfl H

set_option maxRecDepth 20000 in
theorem b_X1_stepAhead {X : qX} {d : Nat} {sh : qS} {pt h : qM} {K : qM → Prop} {c v2 v3 : Int} (hst : St sh pt) (hc : isC c)
    (H : EvV X (d + 1) mX1_stepAhead 3 [(2, 12), (2, c), (0, v2), (0, v3), (0, 0), (8, -1)] [] sh pt h K) :
    RunV X (d + 1) mX1_stepAhead [(2, 12), (2, c), (0, v2), (0, v3)] sh pt h K := by
  show Ev X (d + 1) 0 0 mX1_stepAhead 0 [(2, 12), (2, c), (0, v2), (0, v3), (8, -1), (8, -1)] [] (sh, pt, h) (qRV sh pt K)
  refine ev_iconst 1 rfl dX1_stepAhead_0 (by decide) ?_
  refine ev_istore (L1 := [(2, 12), (2, c), (0, v2), (0, v3), (0, 0), (8, -1)]) 3 rfl dX1_stepAhead_1 (Nat.le_of_ble_eq_true rfl) rfl ?_
  exact H

set_option maxRecDepth 20000 in
theorem b_X1_stepAhead_3 {X : qX} {d : Nat} {sh : qS} {pt h : qM} {K : qM → Prop} {c v2 v3 v4 : Int} (hst : St sh pt) (hc : isC c)
    (H : ((v2 ≤ v4 → K h) ∧ (v4 < v2 → ((¬ (h 12 0) = 0 → K h) ∧ ((h 12 0) = 0 → (qI ((h 12 10) + 1)) ∧ ∀ h1 : qM, h1 = qup h 12 10 ((h 12 10) + 1) → EvV X (d + 1) mX1_stepAhead 29 [(2, 12), (2, c), (0, v2), (0, v3), (0, v4), (0, 0)] [] sh pt h1 K))))) :
    EvV X (d + 1) mX1_stepAhead 3 [(2, 12), (2, c), (0, v2), (0, v3), (0, v4), (8, -1)] [] sh pt h K := by
  show Ev X (d + 1) 0 0 mX1_stepAhead 3 [(2, 12), (2, c), (0, v2), (0, v3), (0, v4), (8, -1)] [] (sh, pt, h) (qRV sh pt K)
  refine ev_iload 5 rfl dX1_stepAhead_3 rfl ?_
  refine ev_iload_n 6 rfl dX1_stepAhead_5 rfl rfl ?_
  refine ev_icmp_ge (tgt := 63) 9 rfl dX1_stepAhead_6 (by decide) (fun cd => ?_) (fun cd => ?_)
  · have H := H.1 cd
    exact ev_retV dX1_stepAhead_63 rfl H
  · have H := H.2 cd
    refine ev_aload_n 10 rfl dX1_stepAhead_9 rfl rfl ?_
    refine ev_getI (ki := 0) 13 rfl dX1_stepAhead_10 lf_1_11 (Or.inl rfl) (s_12 hst) (by decide) rfl ?_
    refine ev_if_ne (tgt := 63) 16 rfl dX1_stepAhead_13 (by decide) (fun cd => ?_) (fun cd => ?_)
    · have H := H.1 cd
      exact ev_retV dX1_stepAhead_63 rfl H
    · have H := H.2 cd
      refine ev_aload_n 17 rfl dX1_stepAhead_16 rfl rfl ?_
      refine ev_dup 18 rfl dX1_stepAhead_17 q21 ?_
      refine ev_getI (ki := 10) 21 rfl dX1_stepAhead_18 lf_1_45 (Or.inl rfl) (s_12 hst) (by decide) rfl ?_
      refine ev_iconst 22 rfl dX1_stepAhead_21 (by decide) ?_
      obtain ⟨sd, H⟩ := H
      refine ev_iadd 23 rfl dX1_stepAhead_22 sd ?_
      refine ev_putI (ki := 10) 26 rfl dX1_stepAhead_23 lf_1_45 (Or.inl rfl) (s_12 hst) (by decide) rfl ?_
      obtain ⟨h1, eh1⟩ : ∃ z : qM, z = qup h 12 10 ((h 12 10) + 1) := ⟨_, rfl⟩
      rw [← eh1]
      have H := H h1 eh1
      refine ev_iconst 27 rfl dX1_stepAhead_26 (by decide) ?_
      refine ev_istore (L1 := [(2, 12), (2, c), (0, v2), (0, v3), (0, v4), (0, 0)]) 29 rfl dX1_stepAhead_27 (Nat.le_of_ble_eq_true rfl) rfl ?_
      exact H

set_option maxRecDepth 20000 in
theorem b_X1_stepAhead_29 {X : qX} {d : Nat} {sh : qS} {pt h : qM} {K : qM → Prop} {c v2 v3 v4 v5 : Int} (hst : St sh pt) (hc : isC c)
    (H : (((h 12 5) ≤ v5 → (qI (v4 + 1)) ∧ EvV X (d + 1) mX1_stepAhead 3 [(2, 12), (2, c), (0, v2), (0, v3), (0, (v4 + 1)), (8, -1)] [] sh pt h K) ∧ (v5 < (h 12 5) → (0 ≤ v5 ∧ v5 < 20) ∧ RunV X d mX1_stepOne [(2, 12), (2, c), (0, (h 13 v5)), (0, v3)] sh pt h (fun h2 => (qI (v5 + 1)) ∧ EvV X (d + 1) mX1_stepAhead 29 [(2, 12), (2, c), (0, v2), (0, v3), (0, v4), (0, (v5 + 1))] [] sh pt h2 K)))) :
    EvV X (d + 1) mX1_stepAhead 29 [(2, 12), (2, c), (0, v2), (0, v3), (0, v4), (0, v5)] [] sh pt h K := by
  show Ev X (d + 1) 0 0 mX1_stepAhead 29 [(2, 12), (2, c), (0, v2), (0, v3), (0, v4), (0, v5)] [] (sh, pt, h) (qRV sh pt K)
  refine ev_iload 31 rfl dX1_stepAhead_29 rfl ?_
  refine ev_aload_n 32 rfl dX1_stepAhead_31 rfl rfl ?_
  refine ev_getI (ki := 5) 35 rfl dX1_stepAhead_32 lf_1_30 (Or.inl rfl) (s_12 hst) (by decide) rfl ?_
  refine ev_icmp_ge (tgt := 57) 38 rfl dX1_stepAhead_35 (by decide) (fun cd => ?_) (fun cd => ?_)
  · have H := H.1 cd
    obtain ⟨sd, H⟩ := H
    refine ev_iinc (L1 := [(2, 12), (2, c), (0, v2), (0, v3), (0, (v4 + 1)), (0, v5)]) 60 rfl dX1_stepAhead_57 rfl sd (Nat.le_of_ble_eq_true rfl) rfl ?_
    refine ev_goto (tgt := 3) dX1_stepAhead_60 (by decide) ?_
    refine Ev.drop [5] rfl ?_
    exact H
  · have H := H.2 cd
    refine ev_aload_n 39 rfl dX1_stepAhead_38 rfl rfl ?_
    refine ev_aload_n 40 rfl dX1_stepAhead_39 rfl rfl ?_
    refine ev_aload_n 41 rfl dX1_stepAhead_40 rfl rfl ?_
    refine ev_getR (ki := 2) (v := 13) 44 rfl dX1_stepAhead_41 lf_1_20 (s_12 hst) (by decide) rfl (p_12_2 hst) ?_
    refine ev_iload 46 rfl dX1_stepAhead_44 rfl ?_
    obtain ⟨b1, H⟩ := H
    refine ev_iaload 47 rfl dX1_stepAhead_46 (s_13 hst) b1.1 b1.2 ?_
    refine ev_iload_n 48 rfl dX1_stepAhead_47 rfl rfl ?_
    refine ev_cVV (As := [(2, c), (0, (h 13 v5)), (0, v3)]) (rest := []) 51 rfl dX1_stepAhead_48 lm_1_177 mm_X1_stepOne (s_12 hst) rfl rfl (Nat.le_of_ble_eq_true rfl) (Nat.le_of_ble_eq_true rfl) (Nat.le_refl _) H ?_
    intro h2 H
    obtain ⟨sd, H⟩ := H
    refine ev_iinc (L1 := [(2, 12), (2, c), (0, v2), (0, v3), (0, v4), (0, (v5 + 1))]) 54 rfl dX1_stepAhead_51 rfl sd (Nat.le_of_ble_eq_true rfl) rfl ?_
    refine ev_goto (tgt := 29) dX1_stepAhead_54 (by decide) ?_
    exact H

set_option maxRecDepth 20000 in
theorem b_X1_stepOne {X : qX} {d : Nat} {sh : qS} {pt h : qM} {K : qM → Prop} {c v2 v3 : Int} (hst : St sh pt) (hc : isC c)
    (H : (qI ((h 12 10) - 1)) ∧ RunI X d mX0_faceOf [(2, c), (0, ((h 12 10) - 1)), (0, v2)] sh pt h (fun r2 h1 => (qI ((h1 12 10) - 1)) ∧ RunI X d mX0_eastOf [(2, c), (0, ((h1 12 10) - 1)), (0, v2)] sh pt h1 (fun r4 h3 => RunI X d mX2_eastStep [(0, r2)] sh pt h3 (fun r6 h5 => (qI (v3 * r6)) ∧ (qI (r4 + (v3 * r6))) ∧ (qI ((h5 12 10) - 1)) ∧ RunI X d mX0_northOf [(2, c), (0, ((h5 12 10) - 1)), (0, v2)] sh pt h5 (fun r8 h7 => RunI X d mX2_northStep [(0, r2)] sh pt h7 (fun r10 h9 => (qI (v3 * r10)) ∧ (qI (r8 + (v3 * r10))) ∧ RunI X d mX0_put [(2, c), (0, (h9 12 10)), (0, v2), (0, (r4 + (v3 * r6))), (0, (r8 + (v3 * r10))), (0, r2)] sh pt h9 (fun r12 h11 => ((¬ r12 = 0 → K h11) ∧ (r12 = 0 → RunV X d mX1_fail [(2, 12), (0, 4)] sh pt h11 (fun h13 => K h13)))))))))) :
    RunV X (d + 1) mX1_stepOne [(2, 12), (2, c), (0, v2), (0, v3)] sh pt h K := by
  show Ev X (d + 1) 0 0 mX1_stepOne 0 [(2, 12), (2, c), (0, v2), (0, v3), (8, -1), (8, -1), (8, -1)] [] (sh, pt, h) (qRV sh pt K)
  refine ev_aload_n 1 rfl dX1_stepOne_0 rfl rfl ?_
  refine ev_aload_n 2 rfl dX1_stepOne_1 rfl rfl ?_
  refine ev_getI (ki := 10) 5 rfl dX1_stepOne_2 lf_1_45 (Or.inl rfl) (s_12 hst) (by decide) rfl ?_
  refine ev_iconst 6 rfl dX1_stepOne_5 (by decide) ?_
  obtain ⟨sd, H⟩ := H
  refine ev_isub 7 rfl dX1_stepOne_6 sd ?_
  refine ev_iload_n 8 rfl dX1_stepOne_7 rfl rfl ?_
  refine ev_cVI (As := [(0, ((h 12 10) - 1)), (0, v2)]) (rest := []) 11 rfl dX1_stepOne_8 lm_1_180 mm_X0_faceOf (sC hst hc) rfl rfl (Nat.le_of_ble_eq_true rfl) (Nat.le_of_ble_eq_true rfl) (Nat.le_refl _) H ?_
  intro r2 h1 H
  refine ev_istore (L1 := [(2, 12), (2, c), (0, v2), (0, v3), (0, r2), (8, -1), (8, -1)]) 13 rfl dX1_stepOne_11 (Nat.le_of_ble_eq_true rfl) rfl ?_
  refine ev_aload_n 14 rfl dX1_stepOne_13 rfl rfl ?_
  refine ev_aload_n 15 rfl dX1_stepOne_14 rfl rfl ?_
  refine ev_getI (ki := 10) 18 rfl dX1_stepOne_15 lf_1_45 (Or.inl rfl) (s_12 hst) (by decide) rfl ?_
  refine ev_iconst 19 rfl dX1_stepOne_18 (by decide) ?_
  obtain ⟨sd, H⟩ := H
  refine ev_isub 20 rfl dX1_stepOne_19 sd ?_
  refine ev_iload_n 21 rfl dX1_stepOne_20 rfl rfl ?_
  refine ev_cVI (As := [(0, ((h1 12 10) - 1)), (0, v2)]) (rest := []) 24 rfl dX1_stepOne_21 lm_1_183 mm_X0_eastOf (sC hst hc) rfl rfl (Nat.le_of_ble_eq_true rfl) (Nat.le_of_ble_eq_true rfl) (Nat.le_refl _) H ?_
  intro r4 h3 H
  refine ev_iload_n 25 rfl dX1_stepOne_24 rfl rfl ?_
  refine ev_iload 27 rfl dX1_stepOne_25 rfl ?_
  refine ev_cSI (As := [(0, r2)]) (rest := [(0, v3), (0, r4)]) 30 rfl dX1_stepOne_27 lm_1_186 mm_X2_eastStep rfl rfl (Nat.le_of_ble_eq_true rfl) (Nat.le_of_ble_eq_true rfl) (Nat.le_refl _) H ?_
  intro r6 h5 H
  obtain ⟨sd, H⟩ := H
  refine ev_imul 31 rfl dX1_stepOne_30 sd ?_
  obtain ⟨sd, H⟩ := H
  refine ev_iadd 32 rfl dX1_stepOne_31 sd ?_
  refine ev_istore (L1 := [(2, 12), (2, c), (0, v2), (0, v3), (0, r2), (0, (r4 + (v3 * r6))), (8, -1)]) 34 rfl dX1_stepOne_32 (Nat.le_of_ble_eq_true rfl) rfl ?_
  refine ev_aload_n 35 rfl dX1_stepOne_34 rfl rfl ?_
  refine ev_aload_n 36 rfl dX1_stepOne_35 rfl rfl ?_
  refine ev_getI (ki := 10) 39 rfl dX1_stepOne_36 lf_1_45 (Or.inl rfl) (s_12 hst) (by decide) rfl ?_
  refine ev_iconst 40 rfl dX1_stepOne_39 (by decide) ?_
  obtain ⟨sd, H⟩ := H
  refine ev_isub 41 rfl dX1_stepOne_40 sd ?_
  refine ev_iload_n 42 rfl dX1_stepOne_41 rfl rfl ?_
  refine ev_cVI (As := [(0, ((h5 12 10) - 1)), (0, v2)]) (rest := []) 45 rfl dX1_stepOne_42 lm_1_189 mm_X0_northOf (sC hst hc) rfl rfl (Nat.le_of_ble_eq_true rfl) (Nat.le_of_ble_eq_true rfl) (Nat.le_refl _) H ?_
  intro r8 h7 H
  refine ev_iload_n 46 rfl dX1_stepOne_45 rfl rfl ?_
  refine ev_iload 48 rfl dX1_stepOne_46 rfl ?_
  refine ev_cSI (As := [(0, r2)]) (rest := [(0, v3), (0, r8)]) 51 rfl dX1_stepOne_48 lm_1_192 mm_X2_northStep rfl rfl (Nat.le_of_ble_eq_true rfl) (Nat.le_of_ble_eq_true rfl) (Nat.le_refl _) H ?_
  intro r10 h9 H
  obtain ⟨sd, H⟩ := H
  refine ev_imul 52 rfl dX1_stepOne_51 sd ?_
  obtain ⟨sd, H⟩ := H
  refine ev_iadd 53 rfl dX1_stepOne_52 sd ?_
  refine ev_istore (L1 := [(2, 12), (2, c), (0, v2), (0, v3), (0, r2), (0, (r4 + (v3 * r6))), (0, (r8 + (v3 * r10)))]) 55 rfl dX1_stepOne_53 (Nat.le_of_ble_eq_true rfl) rfl ?_
  refine ev_aload_n 56 rfl dX1_stepOne_55 rfl rfl ?_
  refine ev_aload_n 57 rfl dX1_stepOne_56 rfl rfl ?_
  refine ev_getI (ki := 10) 60 rfl dX1_stepOne_57 lf_1_45 (Or.inl rfl) (s_12 hst) (by decide) rfl ?_
  refine ev_iload_n 61 rfl dX1_stepOne_60 rfl rfl ?_
  refine ev_iload 63 rfl dX1_stepOne_61 rfl ?_
  refine ev_iload 65 rfl dX1_stepOne_63 rfl ?_
  refine ev_iload 67 rfl dX1_stepOne_65 rfl ?_
  refine ev_cVI (As := [(0, (h9 12 10)), (0, v2), (0, (r4 + (v3 * r6))), (0, (r8 + (v3 * r10))), (0, r2)]) (rest := []) 70 rfl dX1_stepOne_67 lm_1_195 mm_X0_put (sC hst hc) rfl rfl (Nat.le_of_ble_eq_true rfl) (Nat.le_of_ble_eq_true rfl) (Nat.le_refl _) H ?_
  intro r12 h11 H
  refine ev_if_ne (tgt := 78) 73 rfl dX1_stepOne_70 (by decide) (fun cd => ?_) (fun cd => ?_)
  · have H := H.1 cd
    exact ev_retV dX1_stepOne_78 rfl H
  · have H := H.2 cd
    refine ev_aload_n 74 rfl dX1_stepOne_73 rfl rfl ?_
    refine ev_iconst 75 rfl dX1_stepOne_74 (by decide) ?_
    refine ev_cVV (As := [(0, 4)]) (rest := []) 78 rfl dX1_stepOne_75 lm_1_133 mm_X1_fail (s_12 hst) rfl rfl (Nat.le_of_ble_eq_true rfl) (Nat.le_of_ble_eq_true rfl) (Nat.le_refl _) H ?_
    intro h13 H
    exact ev_retV dX1_stepOne_78 rfl H

set_option maxRecDepth 20000 in
theorem b_X1_followPivot {X : qX} {d : Nat} {sh : qS} {pt h : qM} {K : qM → Prop} {c v2 : Int} (hst : St sh pt) (hc : isC c)
    (H : EvV X (d + 1) mX1_followPivot 2 [(2, 12), (2, c), (0, v2), (0, 0), (8, -1)] [] sh pt h K) :
    RunV X (d + 1) mX1_followPivot [(2, 12), (2, c), (0, v2)] sh pt h K := by
  show Ev X (d + 1) 0 0 mX1_followPivot 0 [(2, 12), (2, c), (0, v2), (8, -1), (8, -1)] [] (sh, pt, h) (qRV sh pt K)
  refine ev_iconst 1 rfl dX1_followPivot_0 (by decide) ?_
  refine ev_istore_n (L1 := [(2, 12), (2, c), (0, v2), (0, 0), (8, -1)]) 2 rfl dX1_followPivot_1 rfl (Nat.le_of_ble_eq_true rfl) rfl ?_
  exact H

set_option maxRecDepth 20000 in
theorem b_X1_followPivot_2 {X : qX} {d : Nat} {sh : qS} {pt h : qM} {K : qM → Prop} {c v2 v3 : Int} (hst : St sh pt) (hc : isC c)
    (H : ((v2 ≤ v3 → K h) ∧ (v3 < v2 → ((¬ (h 12 0) = 0 → K h) ∧ ((h 12 0) = 0 → (qI ((h 12 10) + 1)) ∧ ∀ h1 : qM, h1 = qup h 12 10 ((h 12 10) + 1) → (((h1 12 5) ≤ 0 → EvV X (d + 1) mX1_followPivot 46 [(2, 12), (2, c), (0, v2), (0, v3), (0, 1)] [] sh pt h1 K) ∧ (0 < (h1 12 5) → RunV X d mX1_stepOne [(2, 12), (2, c), (0, (h1 13 0)), (0, 1)] sh pt h1 (fun h2 => EvV X (d + 1) mX1_followPivot 46 [(2, 12), (2, c), (0, v2), (0, v3), (0, 1)] [] sh pt h2 K)))))))) :
    EvV X (d + 1) mX1_followPivot 2 [(2, 12), (2, c), (0, v2), (0, v3), (8, -1)] [] sh pt h K := by
  show Ev X (d + 1) 0 0 mX1_followPivot 2 [(2, 12), (2, c), (0, v2), (0, v3), (8, -1)] [] (sh, pt, h) (qRV sh pt K)
  refine ev_iload_n 3 rfl dX1_followPivot_2 rfl rfl ?_
  refine ev_iload_n 4 rfl dX1_followPivot_3 rfl rfl ?_
  refine ev_icmp_ge (tgt := 97) 7 rfl dX1_followPivot_4 (by decide) (fun cd => ?_) (fun cd => ?_)
  · have H := H.1 cd
    exact ev_retV dX1_followPivot_97 rfl H
  · have H := H.2 cd
    refine ev_aload_n 8 rfl dX1_followPivot_7 rfl rfl ?_
    refine ev_getI (ki := 0) 11 rfl dX1_followPivot_8 lf_1_11 (Or.inl rfl) (s_12 hst) (by decide) rfl ?_
    refine ev_if_ne (tgt := 97) 14 rfl dX1_followPivot_11 (by decide) (fun cd => ?_) (fun cd => ?_)
    · have H := H.1 cd
      exact ev_retV dX1_followPivot_97 rfl H
    · have H := H.2 cd
      refine ev_aload_n 15 rfl dX1_followPivot_14 rfl rfl ?_
      refine ev_dup 16 rfl dX1_followPivot_15 q21 ?_
      refine ev_getI (ki := 10) 19 rfl dX1_followPivot_16 lf_1_45 (Or.inl rfl) (s_12 hst) (by decide) rfl ?_
      refine ev_iconst 20 rfl dX1_followPivot_19 (by decide) ?_
      obtain ⟨sd, H⟩ := H
      refine ev_iadd 21 rfl dX1_followPivot_20 sd ?_
      refine ev_putI (ki := 10) 24 rfl dX1_followPivot_21 lf_1_45 (Or.inl rfl) (s_12 hst) (by decide) rfl ?_
      obtain ⟨h1, eh1⟩ : ∃ z : qM, z = qup h 12 10 ((h 12 10) + 1) := ⟨_, rfl⟩
      rw [← eh1]
      have H := H h1 eh1
      refine ev_aload_n 25 rfl dX1_followPivot_24 rfl rfl ?_
      refine ev_getI (ki := 5) 28 rfl dX1_followPivot_25 lf_1_30 (Or.inl rfl) (s_12 hst) (by decide) rfl ?_
      refine ev_if_le (tgt := 43) 31 rfl dX1_followPivot_28 (by decide) (fun cd => ?_) (fun cd => ?_)
      · have H := H.1 cd
        refine ev_iconst 44 rfl dX1_followPivot_43 (by decide) ?_
        refine ev_istore (L1 := [(2, 12), (2, c), (0, v2), (0, v3), (0, 1)]) 46 rfl dX1_followPivot_44 (Nat.le_of_ble_eq_true rfl) rfl ?_
        exact H
      · have H := H.2 cd
        refine ev_aload_n 32 rfl dX1_followPivot_31 rfl rfl ?_
        refine ev_aload_n 33 rfl dX1_followPivot_32 rfl rfl ?_
        refine ev_aload_n 34 rfl dX1_followPivot_33 rfl rfl ?_
        refine ev_getR (ki := 2) (v := 13) 37 rfl dX1_followPivot_34 lf_1_20 (s_12 hst) (by decide) rfl (p_12_2 hst) ?_
        refine ev_iconst 38 rfl dX1_followPivot_37 (by decide) ?_
        refine ev_iaload 39 rfl dX1_followPivot_38 (s_13 hst) (by decide) (by decide) ?_
        refine ev_iconst 40 rfl dX1_followPivot_39 (by decide) ?_
        refine ev_cVV (As := [(2, c), (0, (h1 13 0)), (0, 1)]) (rest := []) 43 rfl dX1_followPivot_40 lm_1_177 mm_X1_stepOne (s_12 hst) rfl rfl (Nat.le_of_ble_eq_true rfl) (Nat.le_of_ble_eq_true rfl) (Nat.le_refl _) H ?_
        intro h2 H
        refine ev_iconst 44 rfl dX1_followPivot_43 (by decide) ?_
        refine ev_istore (L1 := [(2, 12), (2, c), (0, v2), (0, v3), (0, 1)]) 46 rfl dX1_followPivot_44 (Nat.le_of_ble_eq_true rfl) rfl ?_
        exact H

set_option maxRecDepth 20000 in
theorem b_X1_followPivot_46 {X : qX} {d : Nat} {sh : qS} {pt h : qM} {K : qM → Prop} {c v2 v3 v4 : Int} (hst : St sh pt) (hc : isC c)
    (H : (((h 12 5) ≤ v4 → (qI (v3 + 1)) ∧ EvV X (d + 1) mX1_followPivot 2 [(2, 12), (2, c), (0, v2), (0, (v3 + 1)), (8, -1)] [] sh pt h K) ∧ (v4 < (h 12 5) → (qI ((h 12 10) - 1)) ∧ (qI (v4 - 1)) ∧ (0 ≤ (v4 - 1) ∧ (v4 - 1) < 20) ∧ (0 ≤ v4 ∧ v4 < 20) ∧ RunV X d mX0_copy [(2, c), (0, ((h 12 10) - 1)), (0, (h 13 (v4 - 1))), (0, (h 12 10)), (0, (h 13 v4))] sh pt h (fun h3 => (qI (v4 + 1)) ∧ EvV X (d + 1) mX1_followPivot 46 [(2, 12), (2, c), (0, v2), (0, v3), (0, (v4 + 1))] [] sh pt h3 K)))) :
    EvV X (d + 1) mX1_followPivot 46 [(2, 12), (2, c), (0, v2), (0, v3), (0, v4)] [] sh pt h K := by
  show Ev X (d + 1) 0 0 mX1_followPivot 46 [(2, 12), (2, c), (0, v2), (0, v3), (0, v4)] [] (sh, pt, h) (qRV sh pt K)
  refine ev_iload 48 rfl dX1_followPivot_46 rfl ?_
  refine ev_aload_n 49 rfl dX1_followPivot_48 rfl rfl ?_
  refine ev_getI (ki := 5) 52 rfl dX1_followPivot_49 lf_1_30 (Or.inl rfl) (s_12 hst) (by decide) rfl ?_
  refine ev_icmp_ge (tgt := 91) 55 rfl dX1_followPivot_52 (by decide) (fun cd => ?_) (fun cd => ?_)
  · have H := H.1 cd
    obtain ⟨sd, H⟩ := H
    refine ev_iinc (L1 := [(2, 12), (2, c), (0, v2), (0, (v3 + 1)), (0, v4)]) 94 rfl dX1_followPivot_91 rfl sd (Nat.le_of_ble_eq_true rfl) rfl ?_
    refine ev_goto (tgt := 2) dX1_followPivot_94 (by decide) ?_
    refine Ev.drop [4] rfl ?_
    exact H
  · have H := H.2 cd
    refine ev_aload_n 56 rfl dX1_followPivot_55 rfl rfl ?_
    refine ev_aload_n 57 rfl dX1_followPivot_56 rfl rfl ?_
    refine ev_getI (ki := 10) 60 rfl dX1_followPivot_57 lf_1_45 (Or.inl rfl) (s_12 hst) (by decide) rfl ?_
    refine ev_iconst 61 rfl dX1_followPivot_60 (by decide) ?_
    obtain ⟨sd, H⟩ := H
    refine ev_isub 62 rfl dX1_followPivot_61 sd ?_
    refine ev_aload_n 63 rfl dX1_followPivot_62 rfl rfl ?_
    refine ev_getR (ki := 2) (v := 13) 66 rfl dX1_followPivot_63 lf_1_20 (s_12 hst) (by decide) rfl (p_12_2 hst) ?_
    refine ev_iload 68 rfl dX1_followPivot_66 rfl ?_
    refine ev_iconst 69 rfl dX1_followPivot_68 (by decide) ?_
    obtain ⟨sd, H⟩ := H
    refine ev_isub 70 rfl dX1_followPivot_69 sd ?_
    obtain ⟨b1, H⟩ := H
    refine ev_iaload 71 rfl dX1_followPivot_70 (s_13 hst) b1.1 b1.2 ?_
    refine ev_aload_n 72 rfl dX1_followPivot_71 rfl rfl ?_
    refine ev_getI (ki := 10) 75 rfl dX1_followPivot_72 lf_1_45 (Or.inl rfl) (s_12 hst) (by decide) rfl ?_
    refine ev_aload_n 76 rfl dX1_followPivot_75 rfl rfl ?_
    refine ev_getR (ki := 2) (v := 13) 79 rfl dX1_followPivot_76 lf_1_20 (s_12 hst) (by decide) rfl (p_12_2 hst) ?_
    refine ev_iload 81 rfl dX1_followPivot_79 rfl ?_
    obtain ⟨b2, H⟩ := H
    refine ev_iaload 82 rfl dX1_followPivot_81 (s_13 hst) b2.1 b2.2 ?_
    refine ev_cVV (As := [(0, ((h 12 10) - 1)), (0, (h 13 (v4 - 1))), (0, (h 12 10)), (0, (h 13 v4))]) (rest := []) 85 rfl dX1_followPivot_82 lm_1_109 mm_X0_copy (sC hst hc) rfl rfl (Nat.le_of_ble_eq_true rfl) (Nat.le_of_ble_eq_true rfl) (Nat.le_refl _) H ?_
    intro h3 H
    obtain ⟨sd, H⟩ := H
    refine ev_iinc (L1 := [(2, 12), (2, c), (0, v2), (0, v3), (0, (v4 + 1))]) 88 rfl dX1_followPivot_85 rfl sd (Nat.le_of_ble_eq_true rfl) rfl ?_
    refine ev_goto (tgt := 46) dX1_followPivot_88 (by decide) ?_
    exact H

set_option maxRecDepth 20000 in
theorem b_X1_turnBody {X : qX} {d : Nat} {sh : qS} {pt h : qM} {K : qM → Prop} {c v2 : Int} (hst : St sh pt) (hc : isC c)
    (H : EvV X (d + 1) mX1_turnBody 2 [(2, 12), (2, c), (0, v2), (0, 0)] [] sh pt h K) :
    RunV X (d + 1) mX1_turnBody [(2, 12), (2, c), (0, v2)] sh pt h K := by
  show Ev X (d + 1) 0 0 mX1_turnBody 0 [(2, 12), (2, c), (0, v2), (8, -1)] [] (sh, pt, h) (qRV sh pt K)
  refine ev_iconst 1 rfl dX1_turnBody_0 (by decide) ?_
  refine ev_istore_n (L1 := [(2, 12), (2, c), (0, v2), (0, 0)]) 2 rfl dX1_turnBody_1 rfl (Nat.le_of_ble_eq_true rfl) rfl ?_
  exact H

set_option maxRecDepth 20000 in
theorem b_X1_turnBody_2 {X : qX} {d : Nat} {sh : qS} {pt h : qM} {K : qM → Prop} {c v2 v3 : Int} (hst : St sh pt) (hc : isC c)
    (H : (((h 12 5) ≤ v3 → K h) ∧ (v3 < (h 12 5) → (0 ≤ v3 ∧ v3 < 20) ∧ RunV X d mX0_turnFace [(2, c), (0, (h 12 10)), (0, (h 13 v3)), (0, v2)] sh pt h (fun h2 => (qI (v3 + 1)) ∧ EvV X (d + 1) mX1_turnBody 2 [(2, 12), (2, c), (0, v2), (0, (v3 + 1))] [] sh pt h2 K)))) :
    EvV X (d + 1) mX1_turnBody 2 [(2, 12), (2, c), (0, v2), (0, v3)] [] sh pt h K := by
  show Ev X (d + 1) 0 0 mX1_turnBody 2 [(2, 12), (2, c), (0, v2), (0, v3)] [] (sh, pt, h) (qRV sh pt K)
  refine ev_iload_n 3 rfl dX1_turnBody_2 rfl rfl ?_
  refine ev_aload_n 4 rfl dX1_turnBody_3 rfl rfl ?_
  refine ev_getI (ki := 5) 7 rfl dX1_turnBody_4 lf_1_30 (Or.inl rfl) (s_12 hst) (by decide) rfl ?_
  refine ev_icmp_ge (tgt := 31) 10 rfl dX1_turnBody_7 (by decide) (fun cd => ?_) (fun cd => ?_)
  · have H := H.1 cd
    exact ev_retV dX1_turnBody_31 rfl H
  · have H := H.2 cd
    refine ev_aload_n 11 rfl dX1_turnBody_10 rfl rfl ?_
    refine ev_aload_n 12 rfl dX1_turnBody_11 rfl rfl ?_
    refine ev_getI (ki := 10) 15 rfl dX1_turnBody_12 lf_1_45 (Or.inl rfl) (s_12 hst) (by decide) rfl ?_
    refine ev_aload_n 16 rfl dX1_turnBody_15 rfl rfl ?_
    refine ev_getR (ki := 2) (v := 13) 19 rfl dX1_turnBody_16 lf_1_20 (s_12 hst) (by decide) rfl (p_12_2 hst) ?_
    refine ev_iload_n 20 rfl dX1_turnBody_19 rfl rfl ?_
    obtain ⟨b1, H⟩ := H
    refine ev_iaload 21 rfl dX1_turnBody_20 (s_13 hst) b1.1 b1.2 ?_
    refine ev_iload_n 22 rfl dX1_turnBody_21 rfl rfl ?_
    refine ev_cVV (As := [(0, (h 12 10)), (0, (h 13 v3)), (0, v2)]) (rest := []) 25 rfl dX1_turnBody_22 lm_1_199 mm_X0_turnFace (sC hst hc) rfl rfl (Nat.le_of_ble_eq_true rfl) (Nat.le_of_ble_eq_true rfl) (Nat.le_refl _) H ?_
    intro h2 H
    obtain ⟨sd, H⟩ := H
    refine ev_iinc (L1 := [(2, 12), (2, c), (0, v2), (0, (v3 + 1))]) 28 rfl dX1_turnBody_25 rfl sd (Nat.le_of_ble_eq_true rfl) rfl ?_
    refine ev_goto (tgt := 2) dX1_turnBody_28 (by decide) ?_
    exact H

set_option maxRecDepth 20000 in
theorem b_X1_judgeTurn {X : qX} {d : Nat} {sh : qS} {pt h : qM} {K : qM → Prop} {c v2 : Int} (hst : St sh pt) (hc : isC c)
    (H : ((¬ (qiand (h 12 12) 1) = 1 → EvV X d mX1_judgeTurn 15 [(2, 12), (2, c), (0, v2), (8, -1), (8, -1)] [(0, 0)] sh pt h K) ∧ ((qiand (h 12 12) 1) = 1 → EvV X d mX1_judgeTurn 15 [(2, 12), (2, c), (0, v2), (8, -1), (8, -1)] [(0, 1)] sh pt h K))) :
    RunV X d mX1_judgeTurn [(2, 12), (2, c), (0, v2)] sh pt h K := by
  show Ev X d 0 0 mX1_judgeTurn 0 [(2, 12), (2, c), (0, v2), (8, -1), (8, -1)] [] (sh, pt, h) (qRV sh pt K)
  refine ev_aload_n 1 rfl dX1_judgeTurn_0 rfl rfl ?_
  refine ev_getI (ki := 12) 4 rfl dX1_judgeTurn_1 lf_1_51 (Or.inl rfl) (s_12 hst) (by decide) rfl ?_
  refine ev_iconst 5 rfl dX1_judgeTurn_4 (by decide) ?_
  refine ev_iand 6 rfl dX1_judgeTurn_5 ?_
  refine ev_iconst 7 rfl dX1_judgeTurn_6 (by decide) ?_
  refine ev_icmp_ne (tgt := 14) 10 rfl dX1_judgeTurn_7 (by decide) (fun cd => ?_) (fun cd => ?_)
  · have H := H.1 cd
    refine ev_iconst 15 rfl dX1_judgeTurn_14 (by decide) ?_
    exact H
  · have H := H.2 cd
    refine ev_iconst 11 rfl dX1_judgeTurn_10 (by decide) ?_
    refine ev_goto (tgt := 15) dX1_judgeTurn_11 (by decide) ?_
    exact H

set_option maxRecDepth 20000 in
theorem b_X1_judgeTurn_15 {X : qX} {d : Nat} {sh : qS} {pt h : qM} {K : qM → Prop} {c v2 u0 : Int} (hst : St sh pt) (hc : isC c)
    (H : (((h 12 12) = 0 → EvV X d mX1_judgeTurn 47 [(8, -1), (2, c), (8, -1), (8, -1), (8, -1)] [(0, 1)] sh pt h K) ∧ (¬ (h 12 12) = 0 → ((v2 = 4 → EvV X d mX1_judgeTurn 47 [(8, -1), (2, c), (8, -1), (8, -1), (8, -1)] [(0, 1)] sh pt h K) ∧ (¬ v2 = 4 → ((4 ≤ v2 → ((¬ u0 = 0 → EvV X d mX1_judgeTurn 47 [(8, -1), (2, c), (8, -1), (8, -1), (8, -1)] [(0, 0)] sh pt h K) ∧ (u0 = 0 → EvV X d mX1_judgeTurn 47 [(8, -1), (2, c), (8, -1), (8, -1), (8, -1)] [(0, 1)] sh pt h K))) ∧ (v2 < 4 → ((¬ u0 = 1 → EvV X d mX1_judgeTurn 47 [(8, -1), (2, c), (8, -1), (8, -1), (8, -1)] [(0, 0)] sh pt h K) ∧ (u0 = 1 → EvV X d mX1_judgeTurn 47 [(8, -1), (2, c), (8, -1), (8, -1), (8, -1)] [(0, 1)] sh pt h K))))))))) :
    EvV X d mX1_judgeTurn 15 [(2, 12), (2, c), (0, v2), (8, -1), (8, -1)] [(0, u0)] sh pt h K := by
  show Ev X d 0 0 mX1_judgeTurn 15 [(2, 12), (2, c), (0, v2), (8, -1), (8, -1)] [(0, u0)] (sh, pt, h) (qRV sh pt K)
  refine ev_istore_n (L1 := [(2, 12), (2, c), (0, v2), (0, u0), (8, -1)]) 16 rfl dX1_judgeTurn_15 rfl (Nat.le_of_ble_eq_true rfl) rfl ?_
  refine ev_aload_n 17 rfl dX1_judgeTurn_16 rfl rfl ?_
  refine ev_getI (ki := 12) 20 rfl dX1_judgeTurn_17 lf_1_51 (Or.inl rfl) (s_12 hst) (by decide) rfl ?_
  refine ev_if_eq (tgt := 42) 23 rfl dX1_judgeTurn_20 (by decide) (fun cd => ?_) (fun cd => ?_)
  · have H := H.1 cd
    refine ev_iconst 43 rfl dX1_judgeTurn_42 (by decide) ?_
    refine ev_goto (tgt := 47) dX1_judgeTurn_43 (by decide) ?_
    refine Ev.drop [0, 2, 3] rfl ?_
    exact H
  · have H := H.2 cd
    refine ev_iload_n 24 rfl dX1_judgeTurn_23 rfl rfl ?_
    refine ev_iconst 25 rfl dX1_judgeTurn_24 (by decide) ?_
    refine ev_icmp_eq (tgt := 42) 28 rfl dX1_judgeTurn_25 (by decide) (fun cd => ?_) (fun cd => ?_)
    · have H := H.1 cd
      refine ev_iconst 43 rfl dX1_judgeTurn_42 (by decide) ?_
      refine ev_goto (tgt := 47) dX1_judgeTurn_43 (by decide) ?_
      refine Ev.drop [0, 2, 3] rfl ?_
      exact H
    · have H := H.2 cd
      refine ev_iload_n 29 rfl dX1_judgeTurn_28 rfl rfl ?_
      refine ev_iload_n 30 rfl dX1_judgeTurn_29 rfl rfl ?_
      refine ev_iconst 31 rfl dX1_judgeTurn_30 (by decide) ?_
      refine ev_icmp_ge (tgt := 38) 34 rfl dX1_judgeTurn_31 (by decide) (fun cd => ?_) (fun cd => ?_)
      · have H := H.1 cd
        refine ev_iconst 39 rfl dX1_judgeTurn_38 (by decide) ?_
        refine ev_icmp_ne (tgt := 46) 42 rfl dX1_judgeTurn_39 (by decide) (fun cd => ?_) (fun cd => ?_)
        · have H := H.1 cd
          refine ev_iconst 47 rfl dX1_judgeTurn_46 (by decide) ?_
          refine Ev.drop [0, 2, 3] rfl ?_
          exact H
        · have H := H.2 cd
          refine ev_iconst 43 rfl dX1_judgeTurn_42 (by decide) ?_
          refine ev_goto (tgt := 47) dX1_judgeTurn_43 (by decide) ?_
          refine Ev.drop [0, 2, 3] rfl ?_
          exact H
      · have H := H.2 cd
        refine ev_iconst 35 rfl dX1_judgeTurn_34 (by decide) ?_
        refine ev_goto (tgt := 39) dX1_judgeTurn_35 (by decide) ?_
        refine ev_icmp_ne (tgt := 46) 42 rfl dX1_judgeTurn_39 (by decide) (fun cd => ?_) (fun cd => ?_)
        · have H := H.1 cd
          refine ev_iconst 47 rfl dX1_judgeTurn_46 (by decide) ?_
          refine Ev.drop [0, 2, 3] rfl ?_
          exact H
        · have H := H.2 cd
          refine ev_iconst 43 rfl dX1_judgeTurn_42 (by decide) ?_
          refine ev_goto (tgt := 47) dX1_judgeTurn_43 (by decide) ?_
          refine Ev.drop [0, 2, 3] rfl ?_
          exact H

set_option maxRecDepth 20000 in
theorem b_X1_judgeTurn_47 {X : qX} {d : Nat} {sh : qS} {pt h : qM} {K : qM → Prop} {c u0 : Int} (hst : St sh pt) (hc : isC c)
    (H : ((u0 = 0 → (qI ((h c 6) + 1)) ∧ ∀ h1 : qM, h1 = qup h c 6 ((h c 6) + 1) → K h1) ∧ (¬ u0 = 0 → (qI ((h c 6) + 0)) ∧ ∀ h2 : qM, h2 = qup h c 6 ((h c 6) + 0) → K h2))) :
    EvV X d mX1_judgeTurn 47 [(8, -1), (2, c), (8, -1), (8, -1), (8, -1)] [(0, u0)] sh pt h K := by
  show Ev X d 0 0 mX1_judgeTurn 47 [(8, -1), (2, c), (8, -1), (8, -1), (8, -1)] [(0, u0)] (sh, pt, h) (qRV sh pt K)
  refine ev_istore (L1 := [(8, -1), (2, c), (8, -1), (8, -1), (0, u0)]) 49 rfl dX1_judgeTurn_47 (Nat.le_of_ble_eq_true rfl) rfl ?_
  refine ev_aload_n 50 rfl dX1_judgeTurn_49 rfl rfl ?_
  refine ev_dup 51 rfl dX1_judgeTurn_50 q21 ?_
  refine ev_getI (ki := 6) 54 rfl dX1_judgeTurn_51 lf_1_203 (Or.inl rfl) (sC hst hc) (by decide) rfl ?_
  refine ev_iload 56 rfl dX1_judgeTurn_54 rfl ?_
  refine ev_if_eq (tgt := 63) 59 rfl dX1_judgeTurn_56 (by decide) (fun cd => ?_) (fun cd => ?_)
  · have H := H.1 cd
    refine ev_iconst 64 rfl dX1_judgeTurn_63 (by decide) ?_
    obtain ⟨sd, H⟩ := H
    refine ev_iadd 65 rfl dX1_judgeTurn_64 sd ?_
    refine ev_putI (ki := 6) 68 rfl dX1_judgeTurn_65 lf_1_203 (Or.inl rfl) (sC hst hc) (by decide) rfl ?_
    obtain ⟨h1, eh1⟩ : ∃ z : qM, z = qup h c 6 ((h c 6) + 1) := ⟨_, rfl⟩
    rw [← eh1]
    have H := H h1 eh1
    exact ev_retV dX1_judgeTurn_68 rfl H
  · have H := H.2 cd
    refine ev_iconst 60 rfl dX1_judgeTurn_59 (by decide) ?_
    refine ev_goto (tgt := 64) dX1_judgeTurn_60 (by decide) ?_
    obtain ⟨sd, H⟩ := H
    refine ev_iadd 65 rfl dX1_judgeTurn_64 sd ?_
    refine ev_putI (ki := 6) 68 rfl dX1_judgeTurn_65 lf_1_203 (Or.inl rfl) (sC hst hc) (by decide) rfl ?_
    obtain ⟨h2, eh2⟩ : ∃ z : qM, z = qup h c 6 ((h c 6) + 0) := ⟨_, rfl⟩
    rw [← eh2]
    have H := H h2 eh2
    exact ev_retV dX1_judgeTurn_68 rfl H

set_option maxRecDepth 20000 in
theorem b_X1_aimWheel {X : qX} {d : Nat} {sh : qS} {pt h : qM} {K : qM → Prop} {c v2 : Int} (hst : St sh pt) (hc : isC c)
    (H : EvV X (d + 1) mX1_aimWheel 2 [(2, 12), (2, c), (0, v2), (0, 0)] [] sh pt h K) :
    RunV X (d + 1) mX1_aimWheel [(2, 12), (2, c), (0, v2)] sh pt h K := by
  show Ev X (d + 1) 0 0 mX1_aimWheel 0 [(2, 12), (2, c), (0, v2), (8, -1)] [] (sh, pt, h) (qRV sh pt K)
  refine ev_iconst 1 rfl dX1_aimWheel_0 (by decide) ?_
  refine ev_istore_n (L1 := [(2, 12), (2, c), (0, v2), (0, 0)]) 2 rfl dX1_aimWheel_1 rfl (Nat.le_of_ble_eq_true rfl) rfl ?_
  exact H

set_option maxRecDepth 20000 in
theorem b_X1_aimWheel_2 {X : qX} {d : Nat} {sh : qS} {pt h : qM} {K : qM → Prop} {c v2 v3 : Int} (hst : St sh pt) (hc : isC c)
    (H : (((h 12 5) ≤ v3 → K h) ∧ (v3 < (h 12 5) → RunI X d mX0_eastOf [(2, c), (0, (h 12 10)), (0, (h 13 0))] sh pt h (fun r2 h1 => RunI X d mX1_northFromPivot [(2, 12), (2, c), (0, v3)] sh pt h1 (fun r4 h3 => (qI (v2 * r4)) ∧ (qI (r2 - (v2 * r4))) ∧ (0 ≤ v3 ∧ v3 < 20) ∧ ∀ h6 : qM, h6 = qup h3 14 v3 (r2 - (v2 * r4)) → RunI X d mX0_northOf [(2, c), (0, (h6 12 10)), (0, (h6 13 0))] sh pt h6 (fun r8 h7 => RunI X d mX1_eastFromPivot [(2, 12), (2, c), (0, v3)] sh pt h7 (fun r10 h9 => (qI (v2 * r10)) ∧ (qI (r8 + (v2 * r10))) ∧ (0 ≤ v3 ∧ v3 < 20) ∧ ∀ h12 : qM, h12 = qup h9 15 v3 (r8 + (v2 * r10)) → (qI (v3 + 1)) ∧ EvV X (d + 1) mX1_aimWheel 2 [(2, 12), (2, c), (0, v2), (0, (v3 + 1))] [] sh pt h12 K))))))) :
    EvV X (d + 1) mX1_aimWheel 2 [(2, 12), (2, c), (0, v2), (0, v3)] [] sh pt h K := by
  show Ev X (d + 1) 0 0 mX1_aimWheel 2 [(2, 12), (2, c), (0, v2), (0, v3)] [] (sh, pt, h) (qRV sh pt K)
  refine ev_iload_n 3 rfl dX1_aimWheel_2 rfl rfl ?_
  refine ev_aload_n 4 rfl dX1_aimWheel_3 rfl rfl ?_
  refine ev_getI (ki := 5) 7 rfl dX1_aimWheel_4 lf_1_30 (Or.inl rfl) (s_12 hst) (by decide) rfl ?_
  refine ev_icmp_ge (tgt := 74) 10 rfl dX1_aimWheel_7 (by decide) (fun cd => ?_) (fun cd => ?_)
  · have H := H.1 cd
    exact ev_retV dX1_aimWheel_74 rfl H
  · have H := H.2 cd
    refine ev_aload_n 11 rfl dX1_aimWheel_10 rfl rfl ?_
    refine ev_getR (ki := 3) (v := 14) 14 rfl dX1_aimWheel_11 lf_1_24 (s_12 hst) (by decide) rfl (p_12_3 hst) ?_
    refine ev_iload_n 15 rfl dX1_aimWheel_14 rfl rfl ?_
    refine ev_aload_n 16 rfl dX1_aimWheel_15 rfl rfl ?_
    refine ev_aload_n 17 rfl dX1_aimWheel_16 rfl rfl ?_
    refine ev_getI (ki := 10) 20 rfl dX1_aimWheel_17 lf_1_45 (Or.inl rfl) (s_12 hst) (by decide) rfl ?_
    refine ev_aload_n 21 rfl dX1_aimWheel_20 rfl rfl ?_
    refine ev_getR (ki := 2) (v := 13) 24 rfl dX1_aimWheel_21 lf_1_20 (s_12 hst) (by decide) rfl (p_12_2 hst) ?_
    refine ev_iconst 25 rfl dX1_aimWheel_24 (by decide) ?_
    refine ev_iaload 26 rfl dX1_aimWheel_25 (s_13 hst) (by decide) (by decide) ?_
    refine ev_cVI (As := [(0, (h 12 10)), (0, (h 13 0))]) (rest := [(0, v3), (2, 14)]) 29 rfl dX1_aimWheel_26 lm_1_183 mm_X0_eastOf (sC hst hc) rfl rfl (Nat.le_of_ble_eq_true rfl) (Nat.le_of_ble_eq_true rfl) (Nat.le_refl _) H ?_
    intro r2 h1 H
    refine ev_iload_n 30 rfl dX1_aimWheel_29 rfl rfl ?_
    refine ev_aload_n 31 rfl dX1_aimWheel_30 rfl rfl ?_
    refine ev_aload_n 32 rfl dX1_aimWheel_31 rfl rfl ?_
    refine ev_iload_n 33 rfl dX1_aimWheel_32 rfl rfl ?_
    refine ev_cVI (As := [(2, c), (0, v3)]) (rest := [(0, v2), (0, r2), (0, v3), (2, 14)]) 36 rfl dX1_aimWheel_33 lm_1_206 mm_X1_northFromPivot (s_12 hst) rfl rfl (Nat.le_of_ble_eq_true rfl) (Nat.le_of_ble_eq_true rfl) (Nat.le_refl _) H ?_
    intro r4 h3 H
    obtain ⟨sd, H⟩ := H
    refine ev_imul 37 rfl dX1_aimWheel_36 sd ?_
    obtain ⟨sd, H⟩ := H
    refine ev_isub 38 rfl dX1_aimWheel_37 sd ?_
    obtain ⟨b5, H⟩ := H
    refine ev_iastore 39 rfl dX1_aimWheel_38 (s_14 hst) b5.1 b5.2 ?_
    obtain ⟨h6, eh6⟩ : ∃ z : qM, z = qup h3 14 v3 (r2 - (v2 * r4)) := ⟨_, rfl⟩
    rw [← eh6]
    have H := H h6 eh6
    refine ev_aload_n 40 rfl dX1_aimWheel_39 rfl rfl ?_
    refine ev_getR (ki := 4) (v := 15) 43 rfl dX1_aimWheel_40 lf_1_27 (s_12 hst) (by decide) rfl (p_12_4 hst) ?_
    refine ev_iload_n 44 rfl dX1_aimWheel_43 rfl rfl ?_
    refine ev_aload_n 45 rfl dX1_aimWheel_44 rfl rfl ?_
    refine ev_aload_n 46 rfl dX1_aimWheel_45 rfl rfl ?_
    refine ev_getI (ki := 10) 49 rfl dX1_aimWheel_46 lf_1_45 (Or.inl rfl) (s_12 hst) (by decide) rfl ?_
    refine ev_aload_n 50 rfl dX1_aimWheel_49 rfl rfl ?_
    refine ev_getR (ki := 2) (v := 13) 53 rfl dX1_aimWheel_50 lf_1_20 (s_12 hst) (by decide) rfl (p_12_2 hst) ?_
    refine ev_iconst 54 rfl dX1_aimWheel_53 (by decide) ?_
    refine ev_iaload 55 rfl dX1_aimWheel_54 (s_13 hst) (by decide) (by decide) ?_
    refine ev_cVI (As := [(0, (h6 12 10)), (0, (h6 13 0))]) (rest := [(0, v3), (2, 15)]) 58 rfl dX1_aimWheel_55 lm_1_189 mm_X0_northOf (sC hst hc) rfl rfl (Nat.le_of_ble_eq_true rfl) (Nat.le_of_ble_eq_true rfl) (Nat.le_refl _) H ?_
    intro r8 h7 H
    refine ev_iload_n 59 rfl dX1_aimWheel_58 rfl rfl ?_
    refine ev_aload_n 60 rfl dX1_aimWheel_59 rfl rfl ?_
    refine ev_aload_n 61 rfl dX1_aimWheel_60 rfl rfl ?_
    refine ev_iload_n 62 rfl dX1_aimWheel_61 rfl rfl ?_
    refine ev_cVI (As := [(2, c), (0, v3)]) (rest := [(0, v2), (0, r8), (0, v3), (2, 15)]) 65 rfl dX1_aimWheel_62 lm_1_210 mm_X1_eastFromPivot (s_12 hst) rfl rfl (Nat.le_of_ble_eq_true rfl) (Nat.le_of_ble_eq_true rfl) (Nat.le_refl _) H ?_
    intro r10 h9 H
    obtain ⟨sd, H⟩ := H
    refine ev_imul 66 rfl dX1_aimWheel_65 sd ?_
    obtain ⟨sd, H⟩ := H
    refine ev_iadd 67 rfl dX1_aimWheel_66 sd ?_
    obtain ⟨b11, H⟩ := H
    refine ev_iastore 68 rfl dX1_aimWheel_67 (s_15 hst) b11.1 b11.2 ?_
    obtain ⟨h12, eh12⟩ : ∃ z : qM, z = qup h9 15 v3 (r8 + (v2 * r10)) := ⟨_, rfl⟩
    rw [← eh12]
    have H := H h12 eh12
    obtain ⟨sd, H⟩ := H
    refine ev_iinc (L1 := [(2, 12), (2, c), (0, v2), (0, (v3 + 1))]) 71 rfl dX1_aimWheel_68 rfl sd (Nat.le_of_ble_eq_true rfl) rfl ?_
    refine ev_goto (tgt := 2) dX1_aimWheel_71 (by decide) ?_
    exact H

set_option maxRecDepth 20000 in
theorem b_X1_aimOpen {X : qX} {d : Nat} {sh : qS} {pt h : qM} {K : qM → Prop} {c v2 : Int} (hst : St sh pt) (hc : isC c)
    (H : EvV X (d + 1) mX1_aimOpen 2 [(2, 12), (2, c), (0, v2), (0, 0)] [] sh pt h K) :
    RunV X (d + 1) mX1_aimOpen [(2, 12), (2, c), (0, v2)] sh pt h K := by
  show Ev X (d + 1) 0 0 mX1_aimOpen 0 [(2, 12), (2, c), (0, v2), (8, -1)] [] (sh, pt, h) (qRV sh pt K)
  refine ev_iconst 1 rfl dX1_aimOpen_0 (by decide) ?_
  refine ev_istore_n (L1 := [(2, 12), (2, c), (0, v2), (0, 0)]) 2 rfl dX1_aimOpen_1 rfl (Nat.le_of_ble_eq_true rfl) rfl ?_
  exact H

set_option maxRecDepth 20000 in
theorem b_X1_aimOpen_2 {X : qX} {d : Nat} {sh : qS} {pt h : qM} {K : qM → Prop} {c v2 v3 : Int} (hst : St sh pt) (hc : isC c)
    (H : (((h 12 5) ≤ v3 → K h) ∧ (v3 < (h 12 5) → RunI X d mX0_eastOf [(2, c), (0, (h 12 10)), (0, (h 13 0))] sh pt h (fun r2 h1 => RunI X d mX1_eastFromPivot [(2, 12), (2, c), (0, v3)] sh pt h1 (fun r4 h3 => (qI (v2 * r4)) ∧ (qI (r2 + (v2 * r4))) ∧ (0 ≤ v3 ∧ v3 < 20) ∧ ∀ h6 : qM, h6 = qup h3 14 v3 (r2 + (v2 * r4)) → RunI X d mX0_northOf [(2, c), (0, (h6 12 10)), (0, (h6 13 0))] sh pt h6 (fun r8 h7 => RunI X d mX1_northFromPivot [(2, 12), (2, c), (0, v3)] sh pt h7 (fun r10 h9 => (qI (v2 * r10)) ∧ (qI (r8 + (v2 * r10))) ∧ (0 ≤ v3 ∧ v3 < 20) ∧ ∀ h12 : qM, h12 = qup h9 15 v3 (r8 + (v2 * r10)) → (qI (v3 + 1)) ∧ EvV X (d + 1) mX1_aimOpen 2 [(2, 12), (2, c), (0, v2), (0, (v3 + 1))] [] sh pt h12 K))))))) :
    EvV X (d + 1) mX1_aimOpen 2 [(2, 12), (2, c), (0, v2), (0, v3)] [] sh pt h K := by
  show Ev X (d + 1) 0 0 mX1_aimOpen 2 [(2, 12), (2, c), (0, v2), (0, v3)] [] (sh, pt, h) (qRV sh pt K)
  refine ev_iload_n 3 rfl dX1_aimOpen_2 rfl rfl ?_
  refine ev_aload_n 4 rfl dX1_aimOpen_3 rfl rfl ?_
  refine ev_getI (ki := 5) 7 rfl dX1_aimOpen_4 lf_1_30 (Or.inl rfl) (s_12 hst) (by decide) rfl ?_
  refine ev_icmp_ge (tgt := 74) 10 rfl dX1_aimOpen_7 (by decide) (fun cd => ?_) (fun cd => ?_)
  · have H := H.1 cd
    exact ev_retV dX1_aimOpen_74 rfl H
  · have H := H.2 cd
    refine ev_aload_n 11 rfl dX1_aimOpen_10 rfl rfl ?_
    refine ev_getR (ki := 3) (v := 14) 14 rfl dX1_aimOpen_11 lf_1_24 (s_12 hst) (by decide) rfl (p_12_3 hst) ?_
    refine ev_iload_n 15 rfl dX1_aimOpen_14 rfl rfl ?_
    refine ev_aload_n 16 rfl dX1_aimOpen_15 rfl rfl ?_
    refine ev_aload_n 17 rfl dX1_aimOpen_16 rfl rfl ?_
    refine ev_getI (ki := 10) 20 rfl dX1_aimOpen_17 lf_1_45 (Or.inl rfl) (s_12 hst) (by decide) rfl ?_
    refine ev_aload_n 21 rfl dX1_aimOpen_20 rfl rfl ?_
    refine ev_getR (ki := 2) (v := 13) 24 rfl dX1_aimOpen_21 lf_1_20 (s_12 hst) (by decide) rfl (p_12_2 hst) ?_
    refine ev_iconst 25 rfl dX1_aimOpen_24 (by decide) ?_
    refine ev_iaload 26 rfl dX1_aimOpen_25 (s_13 hst) (by decide) (by decide) ?_
    refine ev_cVI (As := [(0, (h 12 10)), (0, (h 13 0))]) (rest := [(0, v3), (2, 14)]) 29 rfl dX1_aimOpen_26 lm_1_183 mm_X0_eastOf (sC hst hc) rfl rfl (Nat.le_of_ble_eq_true rfl) (Nat.le_of_ble_eq_true rfl) (Nat.le_refl _) H ?_
    intro r2 h1 H
    refine ev_iload_n 30 rfl dX1_aimOpen_29 rfl rfl ?_
    refine ev_aload_n 31 rfl dX1_aimOpen_30 rfl rfl ?_
    refine ev_aload_n 32 rfl dX1_aimOpen_31 rfl rfl ?_
    refine ev_iload_n 33 rfl dX1_aimOpen_32 rfl rfl ?_
    refine ev_cVI (As := [(2, c), (0, v3)]) (rest := [(0, v2), (0, r2), (0, v3), (2, 14)]) 36 rfl dX1_aimOpen_33 lm_1_210 mm_X1_eastFromPivot (s_12 hst) rfl rfl (Nat.le_of_ble_eq_true rfl) (Nat.le_of_ble_eq_true rfl) (Nat.le_refl _) H ?_
    intro r4 h3 H
    obtain ⟨sd, H⟩ := H
    refine ev_imul 37 rfl dX1_aimOpen_36 sd ?_
    obtain ⟨sd, H⟩ := H
    refine ev_iadd 38 rfl dX1_aimOpen_37 sd ?_
    obtain ⟨b5, H⟩ := H
    refine ev_iastore 39 rfl dX1_aimOpen_38 (s_14 hst) b5.1 b5.2 ?_
    obtain ⟨h6, eh6⟩ : ∃ z : qM, z = qup h3 14 v3 (r2 + (v2 * r4)) := ⟨_, rfl⟩
    rw [← eh6]
    have H := H h6 eh6
    refine ev_aload_n 40 rfl dX1_aimOpen_39 rfl rfl ?_
    refine ev_getR (ki := 4) (v := 15) 43 rfl dX1_aimOpen_40 lf_1_27 (s_12 hst) (by decide) rfl (p_12_4 hst) ?_
    refine ev_iload_n 44 rfl dX1_aimOpen_43 rfl rfl ?_
    refine ev_aload_n 45 rfl dX1_aimOpen_44 rfl rfl ?_
    refine ev_aload_n 46 rfl dX1_aimOpen_45 rfl rfl ?_
    refine ev_getI (ki := 10) 49 rfl dX1_aimOpen_46 lf_1_45 (Or.inl rfl) (s_12 hst) (by decide) rfl ?_
    refine ev_aload_n 50 rfl dX1_aimOpen_49 rfl rfl ?_
    refine ev_getR (ki := 2) (v := 13) 53 rfl dX1_aimOpen_50 lf_1_20 (s_12 hst) (by decide) rfl (p_12_2 hst) ?_
    refine ev_iconst 54 rfl dX1_aimOpen_53 (by decide) ?_
    refine ev_iaload 55 rfl dX1_aimOpen_54 (s_13 hst) (by decide) (by decide) ?_
    refine ev_cVI (As := [(0, (h6 12 10)), (0, (h6 13 0))]) (rest := [(0, v3), (2, 15)]) 58 rfl dX1_aimOpen_55 lm_1_189 mm_X0_northOf (sC hst hc) rfl rfl (Nat.le_of_ble_eq_true rfl) (Nat.le_of_ble_eq_true rfl) (Nat.le_refl _) H ?_
    intro r8 h7 H
    refine ev_iload_n 59 rfl dX1_aimOpen_58 rfl rfl ?_
    refine ev_aload_n 60 rfl dX1_aimOpen_59 rfl rfl ?_
    refine ev_aload_n 61 rfl dX1_aimOpen_60 rfl rfl ?_
    refine ev_iload_n 62 rfl dX1_aimOpen_61 rfl rfl ?_
    refine ev_cVI (As := [(2, c), (0, v3)]) (rest := [(0, v2), (0, r8), (0, v3), (2, 15)]) 65 rfl dX1_aimOpen_62 lm_1_206 mm_X1_northFromPivot (s_12 hst) rfl rfl (Nat.le_of_ble_eq_true rfl) (Nat.le_of_ble_eq_true rfl) (Nat.le_refl _) H ?_
    intro r10 h9 H
    obtain ⟨sd, H⟩ := H
    refine ev_imul 66 rfl dX1_aimOpen_65 sd ?_
    obtain ⟨sd, H⟩ := H
    refine ev_iadd 67 rfl dX1_aimOpen_66 sd ?_
    obtain ⟨b11, H⟩ := H
    refine ev_iastore 68 rfl dX1_aimOpen_67 (s_15 hst) b11.1 b11.2 ?_
    obtain ⟨h12, eh12⟩ : ∃ z : qM, z = qup h9 15 v3 (r8 + (v2 * r10)) := ⟨_, rfl⟩
    rw [← eh12]
    have H := H h12 eh12
    obtain ⟨sd, H⟩ := H
    refine ev_iinc (L1 := [(2, 12), (2, c), (0, v2), (0, (v3 + 1))]) 71 rfl dX1_aimOpen_68 rfl sd (Nat.le_of_ble_eq_true rfl) rfl ?_
    refine ev_goto (tgt := 2) dX1_aimOpen_71 (by decide) ?_
    exact H

set_option maxRecDepth 20000 in
theorem b_X1_aimClose {X : qX} {d : Nat} {sh : qS} {pt h : qM} {K : qM → Prop} {c v2 : Int} (hst : St sh pt) (hc : isC c)
    (H : ((1 ≤ v2 → EvV X (d + 1) mX1_aimClose 8 [(2, 12), (2, c), (0, v2), (0, 0), (8, -1), (8, -1)] [] sh pt h K) ∧ (v2 < 1 → K h))) :
    RunV X (d + 1) mX1_aimClose [(2, 12), (2, c), (0, v2)] sh pt h K := by
  show Ev X (d + 1) 0 0 mX1_aimClose 0 [(2, 12), (2, c), (0, v2), (8, -1), (8, -1), (8, -1)] [] (sh, pt, h) (qRV sh pt K)
  refine ev_iload_n 1 rfl dX1_aimClose_0 rfl rfl ?_
  refine ev_iconst 2 rfl dX1_aimClose_1 (by decide) ?_
  refine ev_icmp_ge (tgt := 6) 5 rfl dX1_aimClose_2 (by decide) (fun cd => ?_) (fun cd => ?_)
  · have H := H.1 cd
    refine ev_iconst 7 rfl dX1_aimClose_6 (by decide) ?_
    refine ev_istore_n (L1 := [(2, 12), (2, c), (0, v2), (0, 0), (8, -1), (8, -1)]) 8 rfl dX1_aimClose_7 rfl (Nat.le_of_ble_eq_true rfl) rfl ?_
    exact H
  · have H := H.2 cd
    exact ev_retV dX1_aimClose_5 rfl H

set_option maxRecDepth 20000 in
theorem b_X1_aimClose_8 {X : qX} {d : Nat} {sh : qS} {pt h : qM} {K : qM → Prop} {c v2 v3 : Int} (hst : St sh pt) (hc : isC c)
    (H : (((h 12 5) ≤ v3 → K h) ∧ (v3 < (h 12 5) → RunI X d mX1_eastFromPivot [(2, 12), (2, c), (0, v3)] sh pt h (fun r2 h1 => RunI X d mX1_northFromPivot [(2, 12), (2, c), (0, v3)] sh pt h1 (fun r4 h3 => (v2 ≠ 0) ∧ ((¬ (r2.tmod v2) = 0 → RunV X d mX1_fail [(2, 12), (0, 3)] sh pt h3 (fun h5 => EvV X (d + 1) mX1_aimClose 51 [(2, 12), (2, c), (0, v2), (0, v3), (0, r2), (0, r4)] [] sh pt h5 K)) ∧ ((r2.tmod v2) = 0 → (v2 ≠ 0) ∧ (((r4.tmod v2) = 0 → EvV X (d + 1) mX1_aimClose 51 [(2, 12), (2, c), (0, v2), (0, v3), (0, r2), (0, r4)] [] sh pt h3 K) ∧ (¬ (r4.tmod v2) = 0 → RunV X d mX1_fail [(2, 12), (0, 3)] sh pt h3 (fun h6 => EvV X (d + 1) mX1_aimClose 51 [(2, 12), (2, c), (0, v2), (0, v3), (0, r2), (0, r4)] [] sh pt h6 K)))))))))) :
    EvV X (d + 1) mX1_aimClose 8 [(2, 12), (2, c), (0, v2), (0, v3), (8, -1), (8, -1)] [] sh pt h K := by
  show Ev X (d + 1) 0 0 mX1_aimClose 8 [(2, 12), (2, c), (0, v2), (0, v3), (8, -1), (8, -1)] [] (sh, pt, h) (qRV sh pt K)
  refine ev_iload_n 9 rfl dX1_aimClose_8 rfl rfl ?_
  refine ev_aload_n 10 rfl dX1_aimClose_9 rfl rfl ?_
  refine ev_getI (ki := 5) 13 rfl dX1_aimClose_10 lf_1_30 (Or.inl rfl) (s_12 hst) (by decide) rfl ?_
  refine ev_icmp_ge (tgt := 107) 16 rfl dX1_aimClose_13 (by decide) (fun cd => ?_) (fun cd => ?_)
  · have H := H.1 cd
    exact ev_retV dX1_aimClose_107 rfl H
  · have H := H.2 cd
    refine ev_aload_n 17 rfl dX1_aimClose_16 rfl rfl ?_
    refine ev_aload_n 18 rfl dX1_aimClose_17 rfl rfl ?_
    refine ev_iload_n 19 rfl dX1_aimClose_18 rfl rfl ?_
    refine ev_cVI (As := [(2, c), (0, v3)]) (rest := []) 22 rfl dX1_aimClose_19 lm_1_210 mm_X1_eastFromPivot (s_12 hst) rfl rfl (Nat.le_of_ble_eq_true rfl) (Nat.le_of_ble_eq_true rfl) (Nat.le_refl _) H ?_
    intro r2 h1 H
    refine ev_istore (L1 := [(2, 12), (2, c), (0, v2), (0, v3), (0, r2), (8, -1)]) 24 rfl dX1_aimClose_22 (Nat.le_of_ble_eq_true rfl) rfl ?_
    refine ev_aload_n 25 rfl dX1_aimClose_24 rfl rfl ?_
    refine ev_aload_n 26 rfl dX1_aimClose_25 rfl rfl ?_
    refine ev_iload_n 27 rfl dX1_aimClose_26 rfl rfl ?_
    refine ev_cVI (As := [(2, c), (0, v3)]) (rest := []) 30 rfl dX1_aimClose_27 lm_1_206 mm_X1_northFromPivot (s_12 hst) rfl rfl (Nat.le_of_ble_eq_true rfl) (Nat.le_of_ble_eq_true rfl) (Nat.le_refl _) H ?_
    intro r4 h3 H
    refine ev_istore (L1 := [(2, 12), (2, c), (0, v2), (0, v3), (0, r2), (0, r4)]) 32 rfl dX1_aimClose_30 (Nat.le_of_ble_eq_true rfl) rfl ?_
    refine ev_iload 34 rfl dX1_aimClose_32 rfl ?_
    refine ev_iload_n 35 rfl dX1_aimClose_34 rfl rfl ?_
    obtain ⟨sd, H⟩ := H
    refine ev_irem 36 rfl dX1_aimClose_35 sd ?_
    refine ev_if_ne (tgt := 46) 39 rfl dX1_aimClose_36 (by decide) (fun cd => ?_) (fun cd => ?_)
    · have H := H.1 cd
      refine ev_aload_n 47 rfl dX1_aimClose_46 rfl rfl ?_
      refine ev_iconst 48 rfl dX1_aimClose_47 (by decide) ?_
      refine ev_cVV (As := [(0, 3)]) (rest := []) 51 rfl dX1_aimClose_48 lm_1_133 mm_X1_fail (s_12 hst) rfl rfl (Nat.le_of_ble_eq_true rfl) (Nat.le_of_ble_eq_true rfl) (Nat.le_refl _) H ?_
      intro h5 H
      exact H
    · have H := H.2 cd
      refine ev_iload 41 rfl dX1_aimClose_39 rfl ?_
      refine ev_iload_n 42 rfl dX1_aimClose_41 rfl rfl ?_
      obtain ⟨sd, H⟩ := H
      refine ev_irem 43 rfl dX1_aimClose_42 sd ?_
      refine ev_if_eq (tgt := 51) 46 rfl dX1_aimClose_43 (by decide) (fun cd => ?_) (fun cd => ?_)
      · have H := H.1 cd
        exact H
      · have H := H.2 cd
        refine ev_aload_n 47 rfl dX1_aimClose_46 rfl rfl ?_
        refine ev_iconst 48 rfl dX1_aimClose_47 (by decide) ?_
        refine ev_cVV (As := [(0, 3)]) (rest := []) 51 rfl dX1_aimClose_48 lm_1_133 mm_X1_fail (s_12 hst) rfl rfl (Nat.le_of_ble_eq_true rfl) (Nat.le_of_ble_eq_true rfl) (Nat.le_refl _) H ?_
        intro h6 H
        exact H

set_option maxRecDepth 20000 in
theorem b_X1_aimClose_51 {X : qX} {d : Nat} {sh : qS} {pt h : qM} {K : qM → Prop} {c v2 v3 v4 v5 : Int} (hst : St sh pt) (hc : isC c)
    (H : RunI X d mX0_eastOf [(2, c), (0, (h 12 10)), (0, (h 13 0))] sh pt h (fun r2 h1 => (v2 ≠ 0 ∧ qI (v4.tdiv v2)) ∧ (qI (r2 + (v4.tdiv v2))) ∧ (0 ≤ v3 ∧ v3 < 20) ∧ ∀ h4 : qM, h4 = qup h1 14 v3 (r2 + (v4.tdiv v2)) → RunI X d mX0_northOf [(2, c), (0, (h4 12 10)), (0, (h4 13 0))] sh pt h4 (fun r6 h5 => (v2 ≠ 0 ∧ qI (v5.tdiv v2)) ∧ (qI (r6 + (v5.tdiv v2))) ∧ (0 ≤ v3 ∧ v3 < 20) ∧ ∀ h8 : qM, h8 = qup h5 15 v3 (r6 + (v5.tdiv v2)) → (qI (v3 + 1)) ∧ EvV X (d + 1) mX1_aimClose 8 [(2, 12), (2, c), (0, v2), (0, (v3 + 1)), (8, -1), (8, -1)] [] sh pt h8 K))) :
    EvV X (d + 1) mX1_aimClose 51 [(2, 12), (2, c), (0, v2), (0, v3), (0, v4), (0, v5)] [] sh pt h K := by
  show Ev X (d + 1) 0 0 mX1_aimClose 51 [(2, 12), (2, c), (0, v2), (0, v3), (0, v4), (0, v5)] [] (sh, pt, h) (qRV sh pt K)
  refine ev_aload_n 52 rfl dX1_aimClose_51 rfl rfl ?_
  refine ev_getR (ki := 3) (v := 14) 55 rfl dX1_aimClose_52 lf_1_24 (s_12 hst) (by decide) rfl (p_12_3 hst) ?_
  refine ev_iload_n 56 rfl dX1_aimClose_55 rfl rfl ?_
  refine ev_aload_n 57 rfl dX1_aimClose_56 rfl rfl ?_
  refine ev_aload_n 58 rfl dX1_aimClose_57 rfl rfl ?_
  refine ev_getI (ki := 10) 61 rfl dX1_aimClose_58 lf_1_45 (Or.inl rfl) (s_12 hst) (by decide) rfl ?_
  refine ev_aload_n 62 rfl dX1_aimClose_61 rfl rfl ?_
  refine ev_getR (ki := 2) (v := 13) 65 rfl dX1_aimClose_62 lf_1_20 (s_12 hst) (by decide) rfl (p_12_2 hst) ?_
  refine ev_iconst 66 rfl dX1_aimClose_65 (by decide) ?_
  refine ev_iaload 67 rfl dX1_aimClose_66 (s_13 hst) (by decide) (by decide) ?_
  refine ev_cVI (As := [(0, (h 12 10)), (0, (h 13 0))]) (rest := [(0, v3), (2, 14)]) 70 rfl dX1_aimClose_67 lm_1_183 mm_X0_eastOf (sC hst hc) rfl rfl (Nat.le_of_ble_eq_true rfl) (Nat.le_of_ble_eq_true rfl) (Nat.le_refl _) H ?_
  intro r2 h1 H
  refine ev_iload 72 rfl dX1_aimClose_70 rfl ?_
  refine ev_iload_n 73 rfl dX1_aimClose_72 rfl rfl ?_
  obtain ⟨sd, H⟩ := H
  refine ev_idiv 74 rfl dX1_aimClose_73 sd.1 sd.2 ?_
  obtain ⟨sd, H⟩ := H
  refine ev_iadd 75 rfl dX1_aimClose_74 sd ?_
  obtain ⟨b3, H⟩ := H
  refine ev_iastore 76 rfl dX1_aimClose_75 (s_14 hst) b3.1 b3.2 ?_
  obtain ⟨h4, eh4⟩ : ∃ z : qM, z = qup h1 14 v3 (r2 + (v4.tdiv v2)) := ⟨_, rfl⟩
  rw [← eh4]
  have H := H h4 eh4
  refine ev_aload_n 77 rfl dX1_aimClose_76 rfl rfl ?_
  refine ev_getR (ki := 4) (v := 15) 80 rfl dX1_aimClose_77 lf_1_27 (s_12 hst) (by decide) rfl (p_12_4 hst) ?_
  refine ev_iload_n 81 rfl dX1_aimClose_80 rfl rfl ?_
  refine ev_aload_n 82 rfl dX1_aimClose_81 rfl rfl ?_
  refine ev_aload_n 83 rfl dX1_aimClose_82 rfl rfl ?_
  refine ev_getI (ki := 10) 86 rfl dX1_aimClose_83 lf_1_45 (Or.inl rfl) (s_12 hst) (by decide) rfl ?_
  refine ev_aload_n 87 rfl dX1_aimClose_86 rfl rfl ?_
  refine ev_getR (ki := 2) (v := 13) 90 rfl dX1_aimClose_87 lf_1_20 (s_12 hst) (by decide) rfl (p_12_2 hst) ?_
  refine ev_iconst 91 rfl dX1_aimClose_90 (by decide) ?_
  refine ev_iaload 92 rfl dX1_aimClose_91 (s_13 hst) (by decide) (by decide) ?_
  refine ev_cVI (As := [(0, (h4 12 10)), (0, (h4 13 0))]) (rest := [(0, v3), (2, 15)]) 95 rfl dX1_aimClose_92 lm_1_189 mm_X0_northOf (sC hst hc) rfl rfl (Nat.le_of_ble_eq_true rfl) (Nat.le_of_ble_eq_true rfl) (Nat.le_refl _) H ?_
  intro r6 h5 H
  refine ev_iload 97 rfl dX1_aimClose_95 rfl ?_
  refine ev_iload_n 98 rfl dX1_aimClose_97 rfl rfl ?_
  obtain ⟨sd, H⟩ := H
  refine ev_idiv 99 rfl dX1_aimClose_98 sd.1 sd.2 ?_
  obtain ⟨sd, H⟩ := H
  refine ev_iadd 100 rfl dX1_aimClose_99 sd ?_
  obtain ⟨b7, H⟩ := H
  refine ev_iastore 101 rfl dX1_aimClose_100 (s_15 hst) b7.1 b7.2 ?_
  obtain ⟨h8, eh8⟩ : ∃ z : qM, z = qup h5 15 v3 (r6 + (v5.tdiv v2)) := ⟨_, rfl⟩
  rw [← eh8]
  have H := H h8 eh8
  obtain ⟨sd, H⟩ := H
  refine ev_iinc (L1 := [(2, 12), (2, c), (0, v2), (0, (v3 + 1)), (0, v4), (0, v5)]) 104 rfl dX1_aimClose_101 rfl sd (Nat.le_of_ble_eq_true rfl) rfl ?_
  refine ev_goto (tgt := 8) dX1_aimClose_104 (by decide) ?_
  refine Ev.drop [4, 5] rfl ?_
  exact H

set_option maxRecDepth 20000 in
theorem b_X1_aimShift {X : qX} {d : Nat} {sh : qS} {pt h : qM} {K : qM → Prop} {c v2 v3 : Int} (hst : St sh pt) (hc : isC c)
    (H : EvV X (d + 1) mX1_aimShift 3 [(2, 12), (2, c), (0, v2), (0, v3), (0, 0)] [] sh pt h K) :
    RunV X (d + 1) mX1_aimShift [(2, 12), (2, c), (0, v2), (0, v3)] sh pt h K := by
  show Ev X (d + 1) 0 0 mX1_aimShift 0 [(2, 12), (2, c), (0, v2), (0, v3), (8, -1)] [] (sh, pt, h) (qRV sh pt K)
  refine ev_iconst 1 rfl dX1_aimShift_0 (by decide) ?_
  refine ev_istore (L1 := [(2, 12), (2, c), (0, v2), (0, v3), (0, 0)]) 3 rfl dX1_aimShift_1 (Nat.le_of_ble_eq_true rfl) rfl ?_
  exact H

set_option maxRecDepth 20000 in
theorem b_X1_aimShift_3 {X : qX} {d : Nat} {sh : qS} {pt h : qM} {K : qM → Prop} {c v2 v3 v4 : Int} (hst : St sh pt) (hc : isC c)
    (H : (((h 12 5) ≤ v4 → K h) ∧ (v4 < (h 12 5) → (0 ≤ v4 ∧ v4 < 20) ∧ RunI X d mX0_eastOf [(2, c), (0, (h 12 10)), (0, (h 13 v4))] sh pt h (fun r3 h2 => (qI (r3 + v2)) ∧ (0 ≤ v4 ∧ v4 < 20) ∧ ∀ h5 : qM, h5 = qup h2 14 v4 (r3 + v2) → (0 ≤ v4 ∧ v4 < 20) ∧ RunI X d mX0_northOf [(2, c), (0, (h5 12 10)), (0, (h5 13 v4))] sh pt h5 (fun r8 h7 => (qI (r8 + v3)) ∧ (0 ≤ v4 ∧ v4 < 20) ∧ ∀ h10 : qM, h10 = qup h7 15 v4 (r8 + v3) → (qI (v4 + 1)) ∧ EvV X (d + 1) mX1_aimShift 3 [(2, 12), (2, c), (0, v2), (0, v3), (0, (v4 + 1))] [] sh pt h10 K))))) :
    EvV X (d + 1) mX1_aimShift 3 [(2, 12), (2, c), (0, v2), (0, v3), (0, v4)] [] sh pt h K := by
  show Ev X (d + 1) 0 0 mX1_aimShift 3 [(2, 12), (2, c), (0, v2), (0, v3), (0, v4)] [] (sh, pt, h) (qRV sh pt K)
  refine ev_iload 5 rfl dX1_aimShift_3 rfl ?_
  refine ev_aload_n 6 rfl dX1_aimShift_5 rfl rfl ?_
  refine ev_getI (ki := 5) 9 rfl dX1_aimShift_6 lf_1_30 (Or.inl rfl) (s_12 hst) (by decide) rfl ?_
  refine ev_icmp_ge (tgt := 66) 12 rfl dX1_aimShift_9 (by decide) (fun cd => ?_) (fun cd => ?_)
  · have H := H.1 cd
    exact ev_retV dX1_aimShift_66 rfl H
  · have H := H.2 cd
    refine ev_aload_n 13 rfl dX1_aimShift_12 rfl rfl ?_
    refine ev_getR (ki := 3) (v := 14) 16 rfl dX1_aimShift_13 lf_1_24 (s_12 hst) (by decide) rfl (p_12_3 hst) ?_
    refine ev_iload 18 rfl dX1_aimShift_16 rfl ?_
    refine ev_aload_n 19 rfl dX1_aimShift_18 rfl rfl ?_
    refine ev_aload_n 20 rfl dX1_aimShift_19 rfl rfl ?_
    refine ev_getI (ki := 10) 23 rfl dX1_aimShift_20 lf_1_45 (Or.inl rfl) (s_12 hst) (by decide) rfl ?_
    refine ev_aload_n 24 rfl dX1_aimShift_23 rfl rfl ?_
    refine ev_getR (ki := 2) (v := 13) 27 rfl dX1_aimShift_24 lf_1_20 (s_12 hst) (by decide) rfl (p_12_2 hst) ?_
    refine ev_iload 29 rfl dX1_aimShift_27 rfl ?_
    obtain ⟨b1, H⟩ := H
    refine ev_iaload 30 rfl dX1_aimShift_29 (s_13 hst) b1.1 b1.2 ?_
    refine ev_cVI (As := [(0, (h 12 10)), (0, (h 13 v4))]) (rest := [(0, v4), (2, 14)]) 33 rfl dX1_aimShift_30 lm_1_183 mm_X0_eastOf (sC hst hc) rfl rfl (Nat.le_of_ble_eq_true rfl) (Nat.le_of_ble_eq_true rfl) (Nat.le_refl _) H ?_
    intro r3 h2 H
    refine ev_iload_n 34 rfl dX1_aimShift_33 rfl rfl ?_
    obtain ⟨sd, H⟩ := H
    refine ev_iadd 35 rfl dX1_aimShift_34 sd ?_
    obtain ⟨b4, H⟩ := H
    refine ev_iastore 36 rfl dX1_aimShift_35 (s_14 hst) b4.1 b4.2 ?_
    obtain ⟨h5, eh5⟩ : ∃ z : qM, z = qup h2 14 v4 (r3 + v2) := ⟨_, rfl⟩
    rw [← eh5]
    have H := H h5 eh5
    refine ev_aload_n 37 rfl dX1_aimShift_36 rfl rfl ?_
    refine ev_getR (ki := 4) (v := 15) 40 rfl dX1_aimShift_37 lf_1_27 (s_12 hst) (by decide) rfl (p_12_4 hst) ?_
    refine ev_iload 42 rfl dX1_aimShift_40 rfl ?_
    refine ev_aload_n 43 rfl dX1_aimShift_42 rfl rfl ?_
    refine ev_aload_n 44 rfl dX1_aimShift_43 rfl rfl ?_
    refine ev_getI (ki := 10) 47 rfl dX1_aimShift_44 lf_1_45 (Or.inl rfl) (s_12 hst) (by decide) rfl ?_
    refine ev_aload_n 48 rfl dX1_aimShift_47 rfl rfl ?_
    refine ev_getR (ki := 2) (v := 13) 51 rfl dX1_aimShift_48 lf_1_20 (s_12 hst) (by decide) rfl (p_12_2 hst) ?_
    refine ev_iload 53 rfl dX1_aimShift_51 rfl ?_
    obtain ⟨b6, H⟩ := H
    refine ev_iaload 54 rfl dX1_aimShift_53 (s_13 hst) b6.1 b6.2 ?_
    refine ev_cVI (As := [(0, (h5 12 10)), (0, (h5 13 v4))]) (rest := [(0, v4), (2, 15)]) 57 rfl dX1_aimShift_54 lm_1_189 mm_X0_northOf (sC hst hc) rfl rfl (Nat.le_of_ble_eq_true rfl) (Nat.le_of_ble_eq_true rfl) (Nat.le_refl _) H ?_
    intro r8 h7 H
    refine ev_iload_n 58 rfl dX1_aimShift_57 rfl rfl ?_
    obtain ⟨sd, H⟩ := H
    refine ev_iadd 59 rfl dX1_aimShift_58 sd ?_
    obtain ⟨b9, H⟩ := H
    refine ev_iastore 60 rfl dX1_aimShift_59 (s_15 hst) b9.1 b9.2 ?_
    obtain ⟨h10, eh10⟩ : ∃ z : qM, z = qup h7 15 v4 (r8 + v3) := ⟨_, rfl⟩
    rw [← eh10]
    have H := H h10 eh10
    obtain ⟨sd, H⟩ := H
    refine ev_iinc (L1 := [(2, 12), (2, c), (0, v2), (0, v3), (0, (v4 + 1))]) 63 rfl dX1_aimShift_60 rfl sd (Nat.le_of_ble_eq_true rfl) rfl ?_
    refine ev_goto (tgt := 3) dX1_aimShift_63 (by decide) ?_
    exact H

set_option maxRecDepth 20000 in
theorem b_X1_eastFromPivot {X : qX} {d : Nat} {sh : qS} {pt h : qM} {K : Int → qM → Prop} {c v2 : Int} (hst : St sh pt) (hc : isC c)
    (H : (0 ≤ v2 ∧ v2 < 20) ∧ RunI X d mX0_eastOf [(2, c), (0, (h 12 10)), (0, (h 13 v2))] sh pt h (fun r3 h2 => RunI X d mX0_eastOf [(2, c), (0, (h2 12 10)), (0, (h2 13 0))] sh pt h2 (fun r5 h4 => (qI (r3 - r5)) ∧ K (r3 - r5) h4))) :
    RunI X (d + 1) mX1_eastFromPivot [(2, 12), (2, c), (0, v2)] sh pt h K := by
  show Ev X (d + 1) 0 0 mX1_eastFromPivot 0 [(2, 12), (2, c), (0, v2)] [] (sh, pt, h) (qRI sh pt K)
  refine ev_aload_n 1 rfl dX1_eastFromPivot_0 rfl rfl ?_
  refine ev_aload_n 2 rfl dX1_eastFromPivot_1 rfl rfl ?_
  refine ev_getI (ki := 10) 5 rfl dX1_eastFromPivot_2 lf_1_45 (Or.inl rfl) (s_12 hst) (by decide) rfl ?_
  refine ev_aload_n 6 rfl dX1_eastFromPivot_5 rfl rfl ?_
  refine ev_getR (ki := 2) (v := 13) 9 rfl dX1_eastFromPivot_6 lf_1_20 (s_12 hst) (by decide) rfl (p_12_2 hst) ?_
  refine ev_iload_n 10 rfl dX1_eastFromPivot_9 rfl rfl ?_
  obtain ⟨b1, H⟩ := H
  refine ev_iaload 11 rfl dX1_eastFromPivot_10 (s_13 hst) b1.1 b1.2 ?_
  refine ev_cVI (As := [(0, (h 12 10)), (0, (h 13 v2))]) (rest := []) 14 rfl dX1_eastFromPivot_11 lm_1_183 mm_X0_eastOf (sC hst hc) rfl rfl (Nat.le_of_ble_eq_true rfl) (Nat.le_of_ble_eq_true rfl) (Nat.le_refl _) H ?_
  intro r3 h2 H
  refine ev_aload_n 15 rfl dX1_eastFromPivot_14 rfl rfl ?_
  refine ev_aload_n 16 rfl dX1_eastFromPivot_15 rfl rfl ?_
  refine ev_getI (ki := 10) 19 rfl dX1_eastFromPivot_16 lf_1_45 (Or.inl rfl) (s_12 hst) (by decide) rfl ?_
  refine ev_aload_n 20 rfl dX1_eastFromPivot_19 rfl rfl ?_
  refine ev_getR (ki := 2) (v := 13) 23 rfl dX1_eastFromPivot_20 lf_1_20 (s_12 hst) (by decide) rfl (p_12_2 hst) ?_
  refine ev_iconst 24 rfl dX1_eastFromPivot_23 (by decide) ?_
  refine ev_iaload 25 rfl dX1_eastFromPivot_24 (s_13 hst) (by decide) (by decide) ?_
  refine ev_cVI (As := [(0, (h2 12 10)), (0, (h2 13 0))]) (rest := [(0, r3)]) 28 rfl dX1_eastFromPivot_25 lm_1_183 mm_X0_eastOf (sC hst hc) rfl rfl (Nat.le_of_ble_eq_true rfl) (Nat.le_of_ble_eq_true rfl) (Nat.le_refl _) H ?_
  intro r5 h4 H
  obtain ⟨sd, H⟩ := H
  refine ev_isub 29 rfl dX1_eastFromPivot_28 sd ?_
  exact ev_retI dX1_eastFromPivot_29 rfl H

set_option maxRecDepth 20000 in
theorem b_X1_northFromPivot {X : qX} {d : Nat} {sh : qS} {pt h : qM} {K : Int → qM → Prop} {c v2 : Int} (hst : St sh pt) (hc : isC c)
    (H : (0 ≤ v2 ∧ v2 < 20) ∧ RunI X d mX0_northOf [(2, c), (0, (h 12 10)), (0, (h 13 v2))] sh pt h (fun r3 h2 => RunI X d mX0_northOf [(2, c), (0, (h2 12 10)), (0, (h2 13 0))] sh pt h2 (fun r5 h4 => (qI (r3 - r5)) ∧ K (r3 - r5) h4))) :
    RunI X (d + 1) mX1_northFromPivot [(2, 12), (2, c), (0, v2)] sh pt h K := by
  show Ev X (d + 1) 0 0 mX1_northFromPivot 0 [(2, 12), (2, c), (0, v2)] [] (sh, pt, h) (qRI sh pt K)
  refine ev_aload_n 1 rfl dX1_northFromPivot_0 rfl rfl ?_
  refine ev_aload_n 2 rfl dX1_northFromPivot_1 rfl rfl ?_
  refine ev_getI (ki := 10) 5 rfl dX1_northFromPivot_2 lf_1_45 (Or.inl rfl) (s_12 hst) (by decide) rfl ?_
  refine ev_aload_n 6 rfl dX1_northFromPivot_5 rfl rfl ?_
  refine ev_getR (ki := 2) (v := 13) 9 rfl dX1_northFromPivot_6 lf_1_20 (s_12 hst) (by decide) rfl (p_12_2 hst) ?_
  refine ev_iload_n 10 rfl dX1_northFromPivot_9 rfl rfl ?_
  obtain ⟨b1, H⟩ := H
  refine ev_iaload 11 rfl dX1_northFromPivot_10 (s_13 hst) b1.1 b1.2 ?_
  refine ev_cVI (As := [(0, (h 12 10)), (0, (h 13 v2))]) (rest := []) 14 rfl dX1_northFromPivot_11 lm_1_189 mm_X0_northOf (sC hst hc) rfl rfl (Nat.le_of_ble_eq_true rfl) (Nat.le_of_ble_eq_true rfl) (Nat.le_refl _) H ?_
  intro r3 h2 H
  refine ev_aload_n 15 rfl dX1_northFromPivot_14 rfl rfl ?_
  refine ev_aload_n 16 rfl dX1_northFromPivot_15 rfl rfl ?_
  refine ev_getI (ki := 10) 19 rfl dX1_northFromPivot_16 lf_1_45 (Or.inl rfl) (s_12 hst) (by decide) rfl ?_
  refine ev_aload_n 20 rfl dX1_northFromPivot_19 rfl rfl ?_
  refine ev_getR (ki := 2) (v := 13) 23 rfl dX1_northFromPivot_20 lf_1_20 (s_12 hst) (by decide) rfl (p_12_2 hst) ?_
  refine ev_iconst 24 rfl dX1_northFromPivot_23 (by decide) ?_
  refine ev_iaload 25 rfl dX1_northFromPivot_24 (s_13 hst) (by decide) (by decide) ?_
  refine ev_cVI (As := [(0, (h2 12 10)), (0, (h2 13 0))]) (rest := [(0, r3)]) 28 rfl dX1_northFromPivot_25 lm_1_189 mm_X0_northOf (sC hst hc) rfl rfl (Nat.le_of_ble_eq_true rfl) (Nat.le_of_ble_eq_true rfl) (Nat.le_refl _) H ?_
  intro r5 h4 H
  obtain ⟨sd, H⟩ := H
  refine ev_isub 29 rfl dX1_northFromPivot_28 sd ?_
  exact ev_retI dX1_northFromPivot_29 rfl H

set_option maxRecDepth 20000 in
theorem b_X1_slide {X : qX} {d : Nat} {sh : qS} {pt h : qM} {K : qM → Prop} {c v2 : Int} (hst : St sh pt) (hc : isC c)
    (H : EvV X (d + 1) mX1_slide 8 [(2, 12), (2, c), (0, v2), (0, (h 12 10)), (0, 1), (8, -1), (8, -1), (8, -1), (8, -1)] [] sh pt h K) :
    RunV X (d + 1) mX1_slide [(2, 12), (2, c), (0, v2)] sh pt h K := by
  show Ev X (d + 1) 0 0 mX1_slide 0 [(2, 12), (2, c), (0, v2), (8, -1), (8, -1), (8, -1), (8, -1), (8, -1), (8, -1)] [] (sh, pt, h) (qRV sh pt K)
  refine ev_aload_n 1 rfl dX1_slide_0 rfl rfl ?_
  refine ev_getI (ki := 10) 4 rfl dX1_slide_1 lf_1_45 (Or.inl rfl) (s_12 hst) (by decide) rfl ?_
  refine ev_istore_n (L1 := [(2, 12), (2, c), (0, v2), (0, (h 12 10)), (8, -1), (8, -1), (8, -1), (8, -1), (8, -1)]) 5 rfl dX1_slide_4 rfl (Nat.le_of_ble_eq_true rfl) rfl ?_
  refine ev_iconst 6 rfl dX1_slide_5 (by decide) ?_
  refine ev_istore (L1 := [(2, 12), (2, c), (0, v2), (0, (h 12 10)), (0, 1), (8, -1), (8, -1), (8, -1), (8, -1)]) 8 rfl dX1_slide_6 (Nat.le_of_ble_eq_true rfl) rfl ?_
  exact H

set_option maxRecDepth 20000 in
theorem b_X1_slide_8 {X : qX} {d : Nat} {sh : qS} {pt h : qM} {K : qM → Prop} {c v2 v3 v4 : Int} (hst : St sh pt) (hc : isC c)
    (H : ((v2 < v4 → K h) ∧ (v4 ≤ v2 → ((¬ (h 12 0) = 0 → K h) ∧ ((h 12 0) = 0 → (qI ((h 12 10) + 1)) ∧ ∀ h1 : qM, h1 = qup h 12 10 ((h 12 10) + 1) → EvV X (d + 1) mX1_slide 34 [(2, 12), (2, c), (0, v2), (0, v3), (0, v4), (0, 0), (8, -1), (8, -1), (8, -1)] [] sh pt h1 K))))) :
    EvV X (d + 1) mX1_slide 8 [(2, 12), (2, c), (0, v2), (0, v3), (0, v4), (8, -1), (8, -1), (8, -1), (8, -1)] [] sh pt h K := by
  show Ev X (d + 1) 0 0 mX1_slide 8 [(2, 12), (2, c), (0, v2), (0, v3), (0, v4), (8, -1), (8, -1), (8, -1), (8, -1)] [] (sh, pt, h) (qRV sh pt K)
  refine ev_iload 10 rfl dX1_slide_8 rfl ?_
  refine ev_iload_n 11 rfl dX1_slide_10 rfl rfl ?_
  refine ev_icmp_gt (tgt := 137) 14 rfl dX1_slide_11 (by decide) (fun cd => ?_) (fun cd => ?_)
  · have H := H.1 cd
    exact ev_retV dX1_slide_137 rfl H
  · have H := H.2 cd
    refine ev_aload_n 15 rfl dX1_slide_14 rfl rfl ?_
    refine ev_getI (ki := 0) 18 rfl dX1_slide_15 lf_1_11 (Or.inl rfl) (s_12 hst) (by decide) rfl ?_
    refine ev_if_ne (tgt := 137) 21 rfl dX1_slide_18 (by decide) (fun cd => ?_) (fun cd => ?_)
    · have H := H.1 cd
      exact ev_retV dX1_slide_137 rfl H
    · have H := H.2 cd
      refine ev_aload_n 22 rfl dX1_slide_21 rfl rfl ?_
      refine ev_dup 23 rfl dX1_slide_22 q21 ?_
      refine ev_getI (ki := 10) 26 rfl dX1_slide_23 lf_1_45 (Or.inl rfl) (s_12 hst) (by decide) rfl ?_
      refine ev_iconst 27 rfl dX1_slide_26 (by decide) ?_
      obtain ⟨sd, H⟩ := H
      refine ev_iadd 28 rfl dX1_slide_27 sd ?_
      refine ev_putI (ki := 10) 31 rfl dX1_slide_28 lf_1_45 (Or.inl rfl) (s_12 hst) (by decide) rfl ?_
      obtain ⟨h1, eh1⟩ : ∃ z : qM, z = qup h 12 10 ((h 12 10) + 1) := ⟨_, rfl⟩
      rw [← eh1]
      have H := H h1 eh1
      refine ev_iconst 32 rfl dX1_slide_31 (by decide) ?_
      refine ev_istore (L1 := [(2, 12), (2, c), (0, v2), (0, v3), (0, v4), (0, 0), (8, -1), (8, -1), (8, -1)]) 34 rfl dX1_slide_32 (Nat.le_of_ble_eq_true rfl) rfl ?_
      exact H

set_option maxRecDepth 20000 in
theorem b_X1_slide_34 {X : qX} {d : Nat} {sh : qS} {pt h : qM} {K : qM → Prop} {c v2 v3 v4 v5 : Int} (hst : St sh pt) (hc : isC c)
    (H : (((h 12 5) ≤ v5 → (qI (v4 + 1)) ∧ EvV X (d + 1) mX1_slide 8 [(2, 12), (2, c), (0, v2), (0, v3), (0, (v4 + 1)), (8, -1), (8, -1), (8, -1), (8, -1)] [] sh pt h K) ∧ (v5 < (h 12 5) → (0 ≤ v5 ∧ v5 < 20) ∧ RunI X d mX0_eastOf [(2, c), (0, v3), (0, (h 13 v5))] sh pt h (fun r3 h2 => (0 ≤ v5 ∧ v5 < 20) ∧ RunI X d mX1_between [(0, r3), (0, (h2 14 v5)), (0, v4), (0, v2)] sh pt h2 (fun r6 h5 => RunI X d mX0_northOf [(2, c), (0, v3), (0, (h 13 v5))] sh pt h5 (fun r8 h7 => (0 ≤ v5 ∧ v5 < 20) ∧ RunI X d mX1_between [(0, r8), (0, (h7 15 v5)), (0, v4), (0, v2)] sh pt h7 (fun r11 h10 => RunI X d mX0_faceOf [(2, c), (0, v3), (0, (h 13 v5))] sh pt h10 (fun r13 h12 => RunI X d mX0_put [(2, c), (0, (h10 12 10)), (0, (h 13 v5)), (0, r6), (0, r11), (0, r13)] sh pt h12 (fun r15 h14 => ((¬ r15 = 0 → (qI (v5 + 1)) ∧ EvV X (d + 1) mX1_slide 34 [(2, 12), (2, c), (0, v2), (0, v3), (0, v4), (0, (v5 + 1)), (8, -1), (8, -1), (8, -1)] [] sh pt h14 K) ∧ (r15 = 0 → RunV X d mX1_fail [(2, 12), (0, 4)] sh pt h14 (fun h16 => (qI (v5 + 1)) ∧ EvV X (d + 1) mX1_slide 34 [(2, 12), (2, c), (0, v2), (0, v3), (0, v4), (0, (v5 + 1)), (8, -1), (8, -1), (8, -1)] [] sh pt h16 K)))))))))))) :
    EvV X (d + 1) mX1_slide 34 [(2, 12), (2, c), (0, v2), (0, v3), (0, v4), (0, v5), (8, -1), (8, -1), (8, -1)] [] sh pt h K := by
  show Ev X (d + 1) 0 0 mX1_slide 34 [(2, 12), (2, c), (0, v2), (0, v3), (0, v4), (0, v5), (8, -1), (8, -1), (8, -1)] [] (sh, pt, h) (qRV sh pt K)
  refine ev_iload 36 rfl dX1_slide_34 rfl ?_
  refine ev_aload_n 37 rfl dX1_slide_36 rfl rfl ?_
  refine ev_getI (ki := 5) 40 rfl dX1_slide_37 lf_1_30 (Or.inl rfl) (s_12 hst) (by decide) rfl ?_
  refine ev_icmp_ge (tgt := 131) 43 rfl dX1_slide_40 (by decide) (fun cd => ?_) (fun cd => ?_)
  · have H := H.1 cd
    obtain ⟨sd, H⟩ := H
    refine ev_iinc (L1 := [(2, 12), (2, c), (0, v2), (0, v3), (0, (v4 + 1)), (0, v5), (8, -1), (8, -1), (8, -1)]) 134 rfl dX1_slide_131 rfl sd (Nat.le_of_ble_eq_true rfl) rfl ?_
    refine ev_goto (tgt := 8) dX1_slide_134 (by decide) ?_
    refine Ev.drop [5] rfl ?_
    exact H
  · have H := H.2 cd
    refine ev_aload_n 44 rfl dX1_slide_43 rfl rfl ?_
    refine ev_getR (ki := 2) (v := 13) 47 rfl dX1_slide_44 lf_1_20 (s_12 hst) (by decide) rfl (p_12_2 hst) ?_
    refine ev_iload 49 rfl dX1_slide_47 rfl ?_
    obtain ⟨b1, H⟩ := H
    refine ev_iaload 50 rfl dX1_slide_49 (s_13 hst) b1.1 b1.2 ?_
    refine ev_istore (L1 := [(2, 12), (2, c), (0, v2), (0, v3), (0, v4), (0, v5), (0, (h 13 v5)), (8, -1), (8, -1)]) 52 rfl dX1_slide_50 (Nat.le_of_ble_eq_true rfl) rfl ?_
    refine ev_aload_n 53 rfl dX1_slide_52 rfl rfl ?_
    refine ev_iload_n 54 rfl dX1_slide_53 rfl rfl ?_
    refine ev_iload 56 rfl dX1_slide_54 rfl ?_
    refine ev_cVI (As := [(0, v3), (0, (h 13 v5))]) (rest := []) 59 rfl dX1_slide_56 lm_1_183 mm_X0_eastOf (sC hst hc) rfl rfl (Nat.le_of_ble_eq_true rfl) (Nat.le_of_ble_eq_true rfl) (Nat.le_refl _) H ?_
    intro r3 h2 H
    refine ev_aload_n 60 rfl dX1_slide_59 rfl rfl ?_
    refine ev_getR (ki := 3) (v := 14) 63 rfl dX1_slide_60 lf_1_24 (s_12 hst) (by decide) rfl (p_12_3 hst) ?_
    refine ev_iload 65 rfl dX1_slide_63 rfl ?_
    obtain ⟨b4, H⟩ := H
    refine ev_iaload 66 rfl dX1_slide_65 (s_14 hst) b4.1 b4.2 ?_
    refine ev_iload 68 rfl dX1_slide_66 rfl ?_
    refine ev_iload_n 69 rfl dX1_slide_68 rfl rfl ?_
    refine ev_cSI (As := [(0, r3), (0, (h2 14 v5)), (0, v4), (0, v2)]) (rest := []) 72 rfl dX1_slide_69 lm_1_213 mm_X1_between rfl rfl (Nat.le_of_ble_eq_true rfl) (Nat.le_of_ble_eq_true rfl) (Nat.le_refl _) H ?_
    intro r6 h5 H
    refine ev_istore (L1 := [(2, 12), (2, c), (0, v2), (0, v3), (0, v4), (0, v5), (0, (h 13 v5)), (0, r6), (8, -1)]) 74 rfl dX1_slide_72 (Nat.le_of_ble_eq_true rfl) rfl ?_
    refine ev_aload_n 75 rfl dX1_slide_74 rfl rfl ?_
    refine ev_iload_n 76 rfl dX1_slide_75 rfl rfl ?_
    refine ev_iload 78 rfl dX1_slide_76 rfl ?_
    refine ev_cVI (As := [(0, v3), (0, (h 13 v5))]) (rest := []) 81 rfl dX1_slide_78 lm_1_189 mm_X0_northOf (sC hst hc) rfl rfl (Nat.le_of_ble_eq_true rfl) (Nat.le_of_ble_eq_true rfl) (Nat.le_refl _) H ?_
    intro r8 h7 H
    refine ev_aload_n 82 rfl dX1_slide_81 rfl rfl ?_
    refine ev_getR (ki := 4) (v := 15) 85 rfl dX1_slide_82 lf_1_27 (s_12 hst) (by decide) rfl (p_12_4 hst) ?_
    refine ev_iload 87 rfl dX1_slide_85 rfl ?_
    obtain ⟨b9, H⟩ := H
    refine ev_iaload 88 rfl dX1_slide_87 (s_15 hst) b9.1 b9.2 ?_
    refine ev_iload 90 rfl dX1_slide_88 rfl ?_
    refine ev_iload_n 91 rfl dX1_slide_90 rfl rfl ?_
    refine ev_cSI (As := [(0, r8), (0, (h7 15 v5)), (0, v4), (0, v2)]) (rest := []) 94 rfl dX1_slide_91 lm_1_213 mm_X1_between rfl rfl (Nat.le_of_ble_eq_true rfl) (Nat.le_of_ble_eq_true rfl) (Nat.le_refl _) H ?_
    intro r11 h10 H
    refine ev_istore (L1 := [(2, 12), (2, c), (0, v2), (0, v3), (0, v4), (0, v5), (0, (h 13 v5)), (0, r6), (0, r11)]) 96 rfl dX1_slide_94 (Nat.le_of_ble_eq_true rfl) rfl ?_
    refine ev_aload_n 97 rfl dX1_slide_96 rfl rfl ?_
    refine ev_aload_n 98 rfl dX1_slide_97 rfl rfl ?_
    refine ev_getI (ki := 10) 101 rfl dX1_slide_98 lf_1_45 (Or.inl rfl) (s_12 hst) (by decide) rfl ?_
    refine ev_iload 103 rfl dX1_slide_101 rfl ?_
    refine ev_iload 105 rfl dX1_slide_103 rfl ?_
    refine ev_iload 107 rfl dX1_slide_105 rfl ?_
    refine ev_aload_n 108 rfl dX1_slide_107 rfl rfl ?_
    refine ev_iload_n 109 rfl dX1_slide_108 rfl rfl ?_
    refine ev_iload 111 rfl dX1_slide_109 rfl ?_
    refine ev_cVI (As := [(0, v3), (0, (h 13 v5))]) (rest := [(0, r11), (0, r6), (0, (h 13 v5)), (0, (h10 12 10)), (2, c)]) 114 rfl dX1_slide_111 lm_1_180 mm_X0_faceOf (sC hst hc) rfl rfl (Nat.le_of_ble_eq_true rfl) (Nat.le_of_ble_eq_true rfl) (Nat.le_refl _) H ?_
    intro r13 h12 H
    refine ev_cVI (As := [(0, (h10 12 10)), (0, (h 13 v5)), (0, r6), (0, r11), (0, r13)]) (rest := []) 117 rfl dX1_slide_114 lm_1_195 mm_X0_put (sC hst hc) rfl rfl (Nat.le_of_ble_eq_true rfl) (Nat.le_of_ble_eq_true rfl) (Nat.le_refl _) H ?_
    intro r15 h14 H
    refine ev_if_ne (tgt := 125) 120 rfl dX1_slide_117 (by decide) (fun cd => ?_) (fun cd => ?_)
    · have H := H.1 cd
      obtain ⟨sd, H⟩ := H
      refine ev_iinc (L1 := [(2, 12), (2, c), (0, v2), (0, v3), (0, v4), (0, (v5 + 1)), (0, (h 13 v5)), (0, r6), (0, r11)]) 128 rfl dX1_slide_125 rfl sd (Nat.le_of_ble_eq_true rfl) rfl ?_
      refine ev_goto (tgt := 34) dX1_slide_128 (by decide) ?_
      refine Ev.drop [6, 7, 8] rfl ?_
      exact H
    · have H := H.2 cd
      refine ev_aload_n 121 rfl dX1_slide_120 rfl rfl ?_
      refine ev_iconst 122 rfl dX1_slide_121 (by decide) ?_
      refine ev_cVV (As := [(0, 4)]) (rest := []) 125 rfl dX1_slide_122 lm_1_133 mm_X1_fail (s_12 hst) rfl rfl (Nat.le_of_ble_eq_true rfl) (Nat.le_of_ble_eq_true rfl) (Nat.le_refl _) H ?_
      intro h16 H
      obtain ⟨sd, H⟩ := H
      refine ev_iinc (L1 := [(2, 12), (2, c), (0, v2), (0, v3), (0, v4), (0, (v5 + 1)), (0, (h 13 v5)), (0, r6), (0, r11)]) 128 rfl dX1_slide_125 rfl sd (Nat.le_of_ble_eq_true rfl) rfl ?_
      refine ev_goto (tgt := 34) dX1_slide_128 (by decide) ?_
      refine Ev.drop [6, 7, 8] rfl ?_
      exact H

set_option maxRecDepth 20000 in
theorem b_X1_between {X : qX} {d : Nat} {sh : qS} {pt h : qM} {K : Int → qM → Prop} {v0 v1 v2 v3 : Int} (hst : St sh pt)
    (H : ((1 ≤ v3 → (qI (2 * v2)) ∧ (qI (v1 - v0)) ∧ (qI ((2 * v2) * (v1 - v0))) ∧ (qI (((2 * v2) * (v1 - v0)) + v3)) ∧ (qI (2 * v3)) ∧ RunI X d mJ9_floorDiv_7cf53 [(0, (((2 * v2) * (v1 - v0)) + v3)), (0, (2 * v3))] sh pt h (fun r2 h1 => (qI (v0 + r2)) ∧ K (v0 + r2) h1)) ∧ (v3 < 1 → K v0 h))) :
    RunI X (d + 1) mX1_between [(0, v0), (0, v1), (0, v2), (0, v3)] sh pt h K := by
  show Ev X (d + 1) 0 0 mX1_between 0 [(0, v0), (0, v1), (0, v2), (0, v3)] [] (sh, pt, h) (qRI sh pt K)
  refine ev_iload_n 1 rfl dX1_between_0 rfl rfl ?_
  refine ev_iconst 2 rfl dX1_between_1 (by decide) ?_
  refine ev_icmp_ge (tgt := 7) 5 rfl dX1_between_2 (by decide) (fun cd => ?_) (fun cd => ?_)
  · have H := H.1 cd
    refine ev_iload_n 8 rfl dX1_between_7 rfl rfl ?_
    refine ev_iconst 9 rfl dX1_between_8 (by decide) ?_
    refine ev_iload_n 10 rfl dX1_between_9 rfl rfl ?_
    obtain ⟨sd, H⟩ := H
    refine ev_imul 11 rfl dX1_between_10 sd ?_
    refine ev_iload_n 12 rfl dX1_between_11 rfl rfl ?_
    refine ev_iload_n 13 rfl dX1_between_12 rfl rfl ?_
    obtain ⟨sd, H⟩ := H
    refine ev_isub 14 rfl dX1_between_13 sd ?_
    obtain ⟨sd, H⟩ := H
    refine ev_imul 15 rfl dX1_between_14 sd ?_
    refine ev_iload_n 16 rfl dX1_between_15 rfl rfl ?_
    obtain ⟨sd, H⟩ := H
    refine ev_iadd 17 rfl dX1_between_16 sd ?_
    refine ev_iconst 18 rfl dX1_between_17 (by decide) ?_
    refine ev_iload_n 19 rfl dX1_between_18 rfl rfl ?_
    obtain ⟨sd, H⟩ := H
    refine ev_imul 20 rfl dX1_between_19 sd ?_
    refine ev_cSI (As := [(0, (((2 * v2) * (v1 - v0)) + v3)), (0, (2 * v3))]) (rest := [(0, v0)]) 23 rfl dX1_between_20 lm_1_217 mm_J9_floorDiv_7cf53 rfl rfl (Nat.le_of_ble_eq_true rfl) (Nat.le_of_ble_eq_true rfl) (Nat.le_refl _) H ?_
    intro r2 h1 H
    obtain ⟨sd, H⟩ := H
    refine ev_iadd 24 rfl dX1_between_23 sd ?_
    exact ev_retI dX1_between_24 rfl H
  · have H := H.2 cd
    refine ev_iload_n 6 rfl dX1_between_5 rfl rfl ?_
    exact ev_retI dX1_between_6 rfl H

set_option maxRecDepth 20000 in
theorem b_X3_takeSpots {X : qX} {d : Nat} {sh : qS} {pt h : qM} {K : Int → qM → Prop} {w v2 : Int} (hst : St sh pt) (hw : isW w)
    (H : EvI X d mX3_takeSpots 2 [(2, 19), (2, w), (0, v2), (0, 0), (8, -1), (8, -1), (8, -1), (8, -1), (8, -1)] [] sh pt h K) :
    RunI X d mX3_takeSpots [(2, 19), (2, w), (0, v2)] sh pt h K := by
  show Ev X d 0 0 mX3_takeSpots 0 [(2, 19), (2, w), (0, v2), (8, -1), (8, -1), (8, -1), (8, -1), (8, -1), (8, -1)] [] (sh, pt, h) (qRI sh pt K)
  refine ev_iconst 1 rfl dX3_takeSpots_0 (by decide) ?_
  refine ev_istore_n (L1 := [(2, 19), (2, w), (0, v2), (0, 0), (8, -1), (8, -1), (8, -1), (8, -1), (8, -1)]) 2 rfl dX3_takeSpots_1 rfl (Nat.le_of_ble_eq_true rfl) rfl ?_
  exact H

set_option maxRecDepth 20000 in
theorem b_X3_takeSpots_2 {X : qX} {d : Nat} {sh : qS} {pt h : qM} {K : Int → qM → Prop} {w v2 v3 : Int} (hst : St sh pt) (hw : isW w)
    (H : ((v2 ≤ v3 → K 1 h) ∧ (v3 < v2 → (qI (2 * v3)) ∧ (0 ≤ (2 * v3) ∧ (2 * v3) < 40) ∧ (qI (2 * v3)) ∧ (qI ((2 * v3) + 1)) ∧ (0 ≤ ((2 * v3) + 1) ∧ ((2 * v3) + 1) < 40) ∧ ∀ x3 : Int, x3 = (h (w + 1) ((2 * v3) + 1)) → (((h (w + 1) (2 * v3)) < 0 → K 0 h) ∧ (0 ≤ (h (w + 1) (2 * v3)) → ((60 ≤ (h (w + 1) (2 * v3)) → K 0 h) ∧ ((h (w + 1) (2 * v3)) < 60 → ((x3 < 0 → K 0 h) ∧ (0 ≤ x3 → ((x3 < 40 → (0 ≤ v3 ∧ v3 < 6) ∧ ∀ h5 : qM, h5 = qup h 21 v3 (ql2i (h (w + 1) (2 * v3))) → (0 ≤ v3 ∧ v3 < 6) ∧ ∀ h7 : qM, h7 = qup h5 22 v3 (ql2i x3) → EvI X d mX3_takeSpots 84 [(2, 19), (2, w), (0, v2), (0, v3), (8, -1), (8, -1), (8, -1), (8, -1), (0, 0)] [] sh pt h7 K) ∧ (40 ≤ x3 → K 0 h))))))))))) :
    EvI X d mX3_takeSpots 2 [(2, 19), (2, w), (0, v2), (0, v3), (8, -1), (8, -1), (8, -1), (8, -1), (8, -1)] [] sh pt h K := by
  show Ev X d 0 0 mX3_takeSpots 2 [(2, 19), (2, w), (0, v2), (0, v3), (8, -1), (8, -1), (8, -1), (8, -1), (8, -1)] [] (sh, pt, h) (qRI sh pt K)
  refine ev_iload_n 3 rfl dX3_takeSpots_2 rfl rfl ?_
  refine ev_iload_n 4 rfl dX3_takeSpots_3 rfl rfl ?_
  refine ev_icmp_ge (tgt := 136) 7 rfl dX3_takeSpots_4 (by decide) (fun cd => ?_) (fun cd => ?_)
  · have H := H.1 cd
    refine ev_iconst 137 rfl dX3_takeSpots_136 (by decide) ?_
    exact ev_retZ dX3_takeSpots_137 rfl (by decide) H
  · have H := H.2 cd
    refine ev_aload_n 8 rfl dX3_takeSpots_7 rfl rfl ?_
    refine ev_getR (ki := 0) (v := (w + 1)) 11 rfl dX3_takeSpots_8 lf_3_56 (sW hst hw) (by decide) rfl (pW0 hst hw) ?_
    refine ev_iconst 12 rfl dX3_takeSpots_11 (by decide) ?_
    refine ev_iload_n 13 rfl dX3_takeSpots_12 rfl rfl ?_
    obtain ⟨sd, H⟩ := H
    refine ev_imul 14 rfl dX3_takeSpots_13 sd ?_
    obtain ⟨b1, H⟩ := H
    refine ev_laload 15 rfl dX3_takeSpots_14 (sW0 hst hw) b1.1 b1.2 ?_
    refine ev_lstore (L1 := [(2, 19), (2, w), (0, v2), (0, v3), (1, (h (w + 1) (2 * v3))), (8, -1), (8, -1), (8, -1), (8, -1)]) 17 rfl dX3_takeSpots_15 (Nat.le_of_ble_eq_true rfl) rfl ?_
    refine ev_aload_n 18 rfl dX3_takeSpots_17 rfl rfl ?_
    refine ev_getR (ki := 0) (v := (w + 1)) 21 rfl dX3_takeSpots_18 lf_3_56 (sW hst hw) (by decide) rfl (pW0 hst hw) ?_
    refine ev_iconst 22 rfl dX3_takeSpots_21 (by decide) ?_
    refine ev_iload_n 23 rfl dX3_takeSpots_22 rfl rfl ?_
    obtain ⟨sd, H⟩ := H
    refine ev_imul 24 rfl dX3_takeSpots_23 sd ?_
    refine ev_iconst 25 rfl dX3_takeSpots_24 (by decide) ?_
    obtain ⟨sd, H⟩ := H
    refine ev_iadd 26 rfl dX3_takeSpots_25 sd ?_
    obtain ⟨b2, H⟩ := H
    refine ev_laload 27 rfl dX3_takeSpots_26 (sW0 hst hw) b2.1 b2.2 ?_
    obtain ⟨x3, ex3⟩ : ∃ z : Int, z = (h (w + 1) ((2 * v3) + 1)) := ⟨_, rfl⟩
    rw [← ex3]
    have H := H x3 ex3
    refine ev_lstore (L1 := [(2, 19), (2, w), (0, v2), (0, v3), (1, (h (w + 1) (2 * v3))), (8, -1), (1, x3), (8, -1), (8, -1)]) 29 rfl dX3_takeSpots_27 (Nat.le_of_ble_eq_true rfl) rfl ?_
    refine ev_lload 31 rfl dX3_takeSpots_29 rfl ?_
    refine ev_lconst (v := 0) 32 rfl dX3_takeSpots_31 (by decide) (by decide) ?_
    refine ev_lc_lt (tgt := 61) 36 rfl dX3_takeSpots_32 dX3_takeSpots_33 (by decide) (fun cd => ?_) (fun cd => ?_)
    · have H := H.1 cd
      refine ev_iconst 62 rfl dX3_takeSpots_61 (by decide) ?_
      exact ev_retZ dX3_takeSpots_62 rfl (by decide) H
    · have H := H.2 cd
      refine ev_lload 38 rfl dX3_takeSpots_36 rfl ?_
      refine ev_ldc2 41 rfl dX3_takeSpots_38 kl_3_64 (by decide) ?_
      refine ev_lc_ge (tgt := 61) 45 rfl dX3_takeSpots_41 dX3_takeSpots_42 (by decide) (fun cd => ?_) (fun cd => ?_)
      · have H := H.1 cd
        refine ev_iconst 62 rfl dX3_takeSpots_61 (by decide) ?_
        exact ev_retZ dX3_takeSpots_62 rfl (by decide) H
      · have H := H.2 cd
        refine ev_lload 47 rfl dX3_takeSpots_45 rfl ?_
        refine ev_lconst (v := 0) 48 rfl dX3_takeSpots_47 (by decide) (by decide) ?_
        refine ev_lc_lt (tgt := 61) 52 rfl dX3_takeSpots_48 dX3_takeSpots_49 (by decide) (fun cd => ?_) (fun cd => ?_)
        · have H := H.1 cd
          refine ev_iconst 62 rfl dX3_takeSpots_61 (by decide) ?_
          exact ev_retZ dX3_takeSpots_62 rfl (by decide) H
        · have H := H.2 cd
          refine ev_lload 54 rfl dX3_takeSpots_52 rfl ?_
          refine ev_ldc2 57 rfl dX3_takeSpots_54 kl_3_66 (by decide) ?_
          refine ev_lc_lt (tgt := 63) 61 rfl dX3_takeSpots_57 dX3_takeSpots_58 (by decide) (fun cd => ?_) (fun cd => ?_)
          · have H := H.1 cd
            refine ev_aload_n 64 rfl dX3_takeSpots_63 rfl rfl ?_
            refine ev_getR (ki := 4) (v := 21) 67 rfl dX3_takeSpots_64 lf_3_25 (s_19 hst) (by decide) rfl (p_19_4 hst) ?_
            refine ev_iload_n 68 rfl dX3_takeSpots_67 rfl rfl ?_
            refine ev_lload 70 rfl dX3_takeSpots_68 rfl ?_
            refine ev_l2i 71 rfl dX3_takeSpots_70 ?_
            obtain ⟨b4, H⟩ := H
            refine ev_iastore 72 rfl dX3_takeSpots_71 (s_21 hst) b4.1 b4.2 ?_
            obtain ⟨h5, eh5⟩ : ∃ z : qM, z = qup h 21 v3 (ql2i (h (w + 1) (2 * v3))) := ⟨_, rfl⟩
            rw [← eh5]
            have H := H h5 eh5
            refine ev_aload_n 73 rfl dX3_takeSpots_72 rfl rfl ?_
            refine ev_getR (ki := 5) (v := 22) 76 rfl dX3_takeSpots_73 lf_3_28 (s_19 hst) (by decide) rfl (p_19_5 hst) ?_
            refine ev_iload_n 77 rfl dX3_takeSpots_76 rfl rfl ?_
            refine ev_lload 79 rfl dX3_takeSpots_77 rfl ?_
            refine ev_l2i 80 rfl dX3_takeSpots_79 ?_
            obtain ⟨b6, H⟩ := H
            refine ev_iastore 81 rfl dX3_takeSpots_80 (s_22 hst) b6.1 b6.2 ?_
            obtain ⟨h7, eh7⟩ : ∃ z : qM, z = qup h5 22 v3 (ql2i x3) := ⟨_, rfl⟩
            rw [← eh7]
            have H := H h7 eh7
            refine ev_iconst 82 rfl dX3_takeSpots_81 (by decide) ?_
            refine ev_istore (L1 := [(2, 19), (2, w), (0, v2), (0, v3), (1, (h (w + 1) (2 * v3))), (8, -1), (1, x3), (8, -1), (0, 0)]) 84 rfl dX3_takeSpots_82 (Nat.le_of_ble_eq_true rfl) rfl ?_
            refine Ev.drop [4, 6] rfl ?_
            exact H
          · have H := H.2 cd
            refine ev_iconst 62 rfl dX3_takeSpots_61 (by decide) ?_
            exact ev_retZ dX3_takeSpots_62 rfl (by decide) H

set_option maxRecDepth 20000 in
theorem b_X3_takeSpots_84 {X : qX} {d : Nat} {sh : qS} {pt h : qM} {K : Int → qM → Prop} {w v2 v3 v8 : Int} (hst : St sh pt) (hw : isW w)
    (H : ((v3 ≤ v8 → (qI (v3 + 1)) ∧ EvI X d mX3_takeSpots 2 [(2, 19), (2, w), (0, v2), (0, (v3 + 1)), (8, -1), (8, -1), (8, -1), (8, -1), (8, -1)] [] sh pt h K) ∧ (v8 < v3 → (0 ≤ v8 ∧ v8 < 6) ∧ (0 ≤ v3 ∧ v3 < 6) ∧ ((¬ (h 21 v8) = (h 21 v3) → (qI (v8 + 1)) ∧ EvI X d mX3_takeSpots 84 [(2, 19), (2, w), (0, v2), (0, v3), (8, -1), (8, -1), (8, -1), (8, -1), (0, (v8 + 1))] [] sh pt h K) ∧ ((h 21 v8) = (h 21 v3) → (0 ≤ v8 ∧ v8 < 6) ∧ (0 ≤ v3 ∧ v3 < 6) ∧ ((¬ (h 22 v8) = (h 22 v3) → (qI (v8 + 1)) ∧ EvI X d mX3_takeSpots 84 [(2, 19), (2, w), (0, v2), (0, v3), (8, -1), (8, -1), (8, -1), (8, -1), (0, (v8 + 1))] [] sh pt h K) ∧ ((h 22 v8) = (h 22 v3) → K 0 h))))))) :
    EvI X d mX3_takeSpots 84 [(2, 19), (2, w), (0, v2), (0, v3), (8, -1), (8, -1), (8, -1), (8, -1), (0, v8)] [] sh pt h K := by
  show Ev X d 0 0 mX3_takeSpots 84 [(2, 19), (2, w), (0, v2), (0, v3), (8, -1), (8, -1), (8, -1), (8, -1), (0, v8)] [] (sh, pt, h) (qRI sh pt K)
  refine ev_iload 86 rfl dX3_takeSpots_84 rfl ?_
  refine ev_iload_n 87 rfl dX3_takeSpots_86 rfl rfl ?_
  refine ev_icmp_ge (tgt := 130) 90 rfl dX3_takeSpots_87 (by decide) (fun cd => ?_) (fun cd => ?_)
  · have H := H.1 cd
    obtain ⟨sd, H⟩ := H
    refine ev_iinc (L1 := [(2, 19), (2, w), (0, v2), (0, (v3 + 1)), (8, -1), (8, -1), (8, -1), (8, -1), (0, v8)]) 133 rfl dX3_takeSpots_130 rfl sd (Nat.le_of_ble_eq_true rfl) rfl ?_
    refine ev_goto (tgt := 2) dX3_takeSpots_133 (by decide) ?_
    refine Ev.drop [8] rfl ?_
    exact H
  · have H := H.2 cd
    refine ev_aload_n 91 rfl dX3_takeSpots_90 rfl rfl ?_
    refine ev_getR (ki := 4) (v := 21) 94 rfl dX3_takeSpots_91 lf_3_25 (s_19 hst) (by decide) rfl (p_19_4 hst) ?_
    refine ev_iload 96 rfl dX3_takeSpots_94 rfl ?_
    obtain ⟨b1, H⟩ := H
    refine ev_iaload 97 rfl dX3_takeSpots_96 (s_21 hst) b1.1 b1.2 ?_
    refine ev_aload_n 98 rfl dX3_takeSpots_97 rfl rfl ?_
    refine ev_getR (ki := 4) (v := 21) 101 rfl dX3_takeSpots_98 lf_3_25 (s_19 hst) (by decide) rfl (p_19_4 hst) ?_
    refine ev_iload_n 102 rfl dX3_takeSpots_101 rfl rfl ?_
    obtain ⟨b2, H⟩ := H
    refine ev_iaload 103 rfl dX3_takeSpots_102 (s_21 hst) b2.1 b2.2 ?_
    refine ev_icmp_ne (tgt := 124) 106 rfl dX3_takeSpots_103 (by decide) (fun cd => ?_) (fun cd => ?_)
    · have H := H.1 cd
      obtain ⟨sd, H⟩ := H
      refine ev_iinc (L1 := [(2, 19), (2, w), (0, v2), (0, v3), (8, -1), (8, -1), (8, -1), (8, -1), (0, (v8 + 1))]) 127 rfl dX3_takeSpots_124 rfl sd (Nat.le_of_ble_eq_true rfl) rfl ?_
      refine ev_goto (tgt := 84) dX3_takeSpots_127 (by decide) ?_
      exact H
    · have H := H.2 cd
      refine ev_aload_n 107 rfl dX3_takeSpots_106 rfl rfl ?_
      refine ev_getR (ki := 5) (v := 22) 110 rfl dX3_takeSpots_107 lf_3_28 (s_19 hst) (by decide) rfl (p_19_5 hst) ?_
      refine ev_iload 112 rfl dX3_takeSpots_110 rfl ?_
      obtain ⟨b3, H⟩ := H
      refine ev_iaload 113 rfl dX3_takeSpots_112 (s_22 hst) b3.1 b3.2 ?_
      refine ev_aload_n 114 rfl dX3_takeSpots_113 rfl rfl ?_
      refine ev_getR (ki := 5) (v := 22) 117 rfl dX3_takeSpots_114 lf_3_28 (s_19 hst) (by decide) rfl (p_19_5 hst) ?_
      refine ev_iload_n 118 rfl dX3_takeSpots_117 rfl rfl ?_
      obtain ⟨b4, H⟩ := H
      refine ev_iaload 119 rfl dX3_takeSpots_118 (s_22 hst) b4.1 b4.2 ?_
      refine ev_icmp_ne (tgt := 124) 122 rfl dX3_takeSpots_119 (by decide) (fun cd => ?_) (fun cd => ?_)
      · have H := H.1 cd
        obtain ⟨sd, H⟩ := H
        refine ev_iinc (L1 := [(2, 19), (2, w), (0, v2), (0, v3), (8, -1), (8, -1), (8, -1), (8, -1), (0, (v8 + 1))]) 127 rfl dX3_takeSpots_124 rfl sd (Nat.le_of_ble_eq_true rfl) rfl ?_
        refine ev_goto (tgt := 84) dX3_takeSpots_127 (by decide) ?_
        exact H
      · have H := H.2 cd
        refine ev_iconst 123 rfl dX3_takeSpots_122 (by decide) ?_
        exact ev_retZ dX3_takeSpots_123 rfl (by decide) H

set_option maxRecDepth 20000 in
theorem b_X3_search {X : qX} {d : Nat} {sh : qS} {pt h : qM} {K : Int → qM → Prop} {v2 v3 : Int} (hst : St sh pt)
    (H : ∀ h1 : qM, h1 = qup h 19 11 v2 → RunV X d mX3_layWays [(2, 19), (2, 2), (0, v3)] sh pt h1 (fun h2 => RunV X d mX3_layMeetings [(2, 19), (0, v3)] sh pt h2 (fun h3 => ∀ h4 : qM, h4 = qup h3 19 12 (-1) → ∀ h5 : qM, h5 = qup h4 19 13 (-1) → RunV X d mX3_choose [(2, 19), (0, 0), (0, 0), (0, 0), (0, 0)] sh pt h5 (fun h6 => ((¬ (h6 19 12) = (-1) → ∀ h7 : qM, h7 = qup h6 19 0 (h6 19 11) → ∀ h8 : qM, h8 = qup h7 19 1 (h7 19 12) → ∀ h9 : qM, h9 = qup h8 19 2 (h8 19 13) → ((0 : Int) ≤ 0 ∧ (0 : Int) ≤ 0 ∧ (0 : Int) ≤ (h9 19 11) ∧ 0 + (h9 19 11) ≤ (6 : Int) ∧ 0 + (h9 19 11) ≤ (6 : Int)) ∧ ∀ h10 : qM, h10 = qcp h9 24 0 20 0 (h9 19 11) → K 1 h10) ∧ ((h6 19 12) = (-1) → K 0 h6)))))) :
    RunI X (d + 1) mX3_search [(2, 19), (2, 2), (0, v2), (0, v3)] sh pt h K := by
  show Ev X (d + 1) 0 0 mX3_search 0 [(2, 19), (2, 2), (0, v2), (0, v3)] [] (sh, pt, h) (qRI sh pt K)
  refine ev_aload_n 1 rfl dX3_search_0 rfl rfl ?_
  refine ev_iload_n 2 rfl dX3_search_1 rfl rfl ?_
  refine ev_putI (ki := 11) 5 rfl dX3_search_2 lf_3_47 (Or.inl rfl) (s_19 hst) (by decide) rfl ?_
  obtain ⟨h1, eh1⟩ : ∃ z : qM, z = qup h 19 11 v2 := ⟨_, rfl⟩
  rw [← eh1]
  have H := H h1 eh1
  refine ev_aload_n 6 rfl dX3_search_5 rfl rfl ?_
  refine ev_aload_n 7 rfl dX3_search_6 rfl rfl ?_
  refine ev_iload_n 8 rfl dX3_search_7 rfl rfl ?_
  refine ev_cVV (As := [(2, 2), (0, v3)]) (rest := []) 11 rfl dX3_search_8 lm_3_68 mm_X3_layWays (s_19 hst) rfl rfl (Nat.le_of_ble_eq_true rfl) (Nat.le_of_ble_eq_true rfl) (Nat.le_refl _) H ?_
  intro h2 H
  refine ev_aload_n 12 rfl dX3_search_11 rfl rfl ?_
  refine ev_iload_n 13 rfl dX3_search_12 rfl rfl ?_
  refine ev_cVV (As := [(0, v3)]) (rest := []) 16 rfl dX3_search_13 lm_3_72 mm_X3_layMeetings (s_19 hst) rfl rfl (Nat.le_of_ble_eq_true rfl) (Nat.le_of_ble_eq_true rfl) (Nat.le_refl _) H ?_
  intro h3 H
  refine ev_aload_n 17 rfl dX3_search_16 rfl rfl ?_
  refine ev_iconst 18 rfl dX3_search_17 (by decide) ?_
  refine ev_putI (ki := 12) 21 rfl dX3_search_18 lf_3_50 (Or.inl rfl) (s_19 hst) (by decide) rfl ?_
  obtain ⟨h4, eh4⟩ : ∃ z : qM, z = qup h3 19 12 (-1) := ⟨_, rfl⟩
  rw [← eh4]
  have H := H h4 eh4
  refine ev_aload_n 22 rfl dX3_search_21 rfl rfl ?_
  refine ev_iconst 23 rfl dX3_search_22 (by decide) ?_
  refine ev_putI (ki := 13) 26 rfl dX3_search_23 lf_3_53 (Or.inl rfl) (s_19 hst) (by decide) rfl ?_
  obtain ⟨h5, eh5⟩ : ∃ z : qM, z = qup h4 19 13 (-1) := ⟨_, rfl⟩
  rw [← eh5]
  have H := H h5 eh5
  refine ev_aload_n 27 rfl dX3_search_26 rfl rfl ?_
  refine ev_iconst 28 rfl dX3_search_27 (by decide) ?_
  refine ev_iconst 29 rfl dX3_search_28 (by decide) ?_
  refine ev_iconst 30 rfl dX3_search_29 (by decide) ?_
  refine ev_iconst 31 rfl dX3_search_30 (by decide) ?_
  refine ev_cVV (As := [(0, 0), (0, 0), (0, 0), (0, 0)]) (rest := []) 34 rfl dX3_search_31 lm_3_76 mm_X3_choose (s_19 hst) rfl rfl (Nat.le_of_ble_eq_true rfl) (Nat.le_of_ble_eq_true rfl) (Nat.le_refl _) H ?_
  intro h6 H
  refine ev_aload_n 35 rfl dX3_search_34 rfl rfl ?_
  refine ev_getI (ki := 12) 38 rfl dX3_search_35 lf_3_50 (Or.inl rfl) (s_19 hst) (by decide) rfl ?_
  refine ev_iconst 39 rfl dX3_search_38 (by decide) ?_
  refine ev_icmp_ne (tgt := 44) 42 rfl dX3_search_39 (by decide) (fun cd => ?_) (fun cd => ?_)
  · have H := H.1 cd
    refine ev_aload_n 45 rfl dX3_search_44 rfl rfl ?_
    refine ev_aload_n 46 rfl dX3_search_45 rfl rfl ?_
    refine ev_getI (ki := 11) 49 rfl dX3_search_46 lf_3_47 (Or.inl rfl) (s_19 hst) (by decide) rfl ?_
    refine ev_putI (ki := 0) 52 rfl dX3_search_49 lf_3_11 (Or.inl rfl) (s_19 hst) (by decide) rfl ?_
    obtain ⟨h7, eh7⟩ : ∃ z : qM, z = qup h6 19 0 (h6 19 11) := ⟨_, rfl⟩
    rw [← eh7]
    have H := H h7 eh7
    refine ev_aload_n 53 rfl dX3_search_52 rfl rfl ?_
    refine ev_aload_n 54 rfl dX3_search_53 rfl rfl ?_
    refine ev_getI (ki := 12) 57 rfl dX3_search_54 lf_3_50 (Or.inl rfl) (s_19 hst) (by decide) rfl ?_
    refine ev_putI (ki := 1) 60 rfl dX3_search_57 lf_3_15 (Or.inl rfl) (s_19 hst) (by decide) rfl ?_
    obtain ⟨h8, eh8⟩ : ∃ z : qM, z = qup h7 19 1 (h7 19 12) := ⟨_, rfl⟩
    rw [← eh8]
    have H := H h8 eh8
    refine ev_aload_n 61 rfl dX3_search_60 rfl rfl ?_
    refine ev_aload_n 62 rfl dX3_search_61 rfl rfl ?_
    refine ev_getI (ki := 13) 65 rfl dX3_search_62 lf_3_53 (Or.inl rfl) (s_19 hst) (by decide) rfl ?_
    refine ev_putI (ki := 2) 68 rfl dX3_search_65 lf_3_18 (Or.inl rfl) (s_19 hst) (by decide) rfl ?_
    obtain ⟨h9, eh9⟩ : ∃ z : qM, z = qup h8 19 2 (h8 19 13) := ⟨_, rfl⟩
    rw [← eh9]
    have H := H h9 eh9
    refine ev_aload_n 69 rfl dX3_search_68 rfl rfl ?_
    refine ev_getR (ki := 7) (v := 24) 72 rfl dX3_search_69 lf_3_34 (s_19 hst) (by decide) rfl (p_19_7 hst) ?_
    refine ev_iconst 73 rfl dX3_search_72 (by decide) ?_
    refine ev_aload_n 74 rfl dX3_search_73 rfl rfl ?_
    refine ev_getR (ki := 3) (v := 20) 77 rfl dX3_search_74 lf_3_21 (s_19 hst) (by decide) rfl (p_19_3 hst) ?_
    refine ev_iconst 78 rfl dX3_search_77 (by decide) ?_
    refine ev_aload_n 79 rfl dX3_search_78 rfl rfl ?_
    refine ev_getI (ki := 11) 82 rfl dX3_search_79 lf_3_47 (Or.inl rfl) (s_19 hst) (by decide) rfl ?_
    obtain ⟨sd, H⟩ := H
    refine ev_copyI 85 rfl dX3_search_82 la_3_80 (s_24 hst) (s_20 hst) sd.1 sd.2.1 sd.2.2.1 sd.2.2.2.1 sd.2.2.2.2 (Nat.le_of_ble_eq_true rfl) (Nat.succ_le_succ (Nat.zero_le _)) ?_
    obtain ⟨h10, eh10⟩ : ∃ z : qM, z = qcp h9 24 0 20 0 (h9 19 11) := ⟨_, rfl⟩
    rw [← eh10]
    have H := H h10 eh10
    refine ev_iconst 86 rfl dX3_search_85 (by decide) ?_
    exact ev_retZ dX3_search_86 rfl (by decide) H
  · have H := H.2 cd
    refine ev_iconst 43 rfl dX3_search_42 (by decide) ?_
    exact ev_retZ dX3_search_43 rfl (by decide) H

set_option maxRecDepth 20000 in
theorem b_X3_layWays {X : qX} {d : Nat} {sh : qS} {pt h : qM} {K : qM → Prop} {v2 : Int} (hst : St sh pt)
    (H : EvV X (d + 1) mX3_layWays 2 [(2, 19), (2, 2), (0, v2), (0, 0), (8, -1), (8, -1), (8, -1), (8, -1), (8, -1), (8, -1), (8, -1)] [] sh pt h K) :
    RunV X (d + 1) mX3_layWays [(2, 19), (2, 2), (0, v2)] sh pt h K := by
  show Ev X (d + 1) 0 0 mX3_layWays 0 [(2, 19), (2, 2), (0, v2), (8, -1), (8, -1), (8, -1), (8, -1), (8, -1), (8, -1), (8, -1), (8, -1)] [] (sh, pt, h) (qRV sh pt K)
  refine ev_iconst 1 rfl dX3_layWays_0 (by decide) ?_
  refine ev_istore_n (L1 := [(2, 19), (2, 2), (0, v2), (0, 0), (8, -1), (8, -1), (8, -1), (8, -1), (8, -1), (8, -1), (8, -1)]) 2 rfl dX3_layWays_1 rfl (Nat.le_of_ble_eq_true rfl) rfl ?_
  exact H

set_option maxRecDepth 20000 in
theorem b_X3_layWays_2 {X : qX} {d : Nat} {sh : qS} {pt h : qM} {K : qM → Prop} {v2 v3 : Int} (hst : St sh pt)
    (H : (((h 19 11) ≤ v3 → K h) ∧ (v3 < (h 19 11) → (0 ≤ v3 ∧ v3 < 20) ∧ (0 ≤ v3 ∧ v3 < 20) ∧ EvV X (d + 1) mX3_layWays 29 [(2, 19), (2, 2), (0, v2), (0, v3), (0, (h 3 v3)), (0, (h 4 v3)), (0, 0), (8, -1), (8, -1), (8, -1), (8, -1)] [] sh pt h K))) :
    EvV X (d + 1) mX3_layWays 2 [(2, 19), (2, 2), (0, v2), (0, v3), (8, -1), (8, -1), (8, -1), (8, -1), (8, -1), (8, -1), (8, -1)] [] sh pt h K := by
  show Ev X (d + 1) 0 0 mX3_layWays 2 [(2, 19), (2, 2), (0, v2), (0, v3), (8, -1), (8, -1), (8, -1), (8, -1), (8, -1), (8, -1), (8, -1)] [] (sh, pt, h) (qRV sh pt K)
  refine ev_iload_n 3 rfl dX3_layWays_2 rfl rfl ?_
  refine ev_aload_n 4 rfl dX3_layWays_3 rfl rfl ?_
  refine ev_getI (ki := 11) 7 rfl dX3_layWays_4 lf_3_47 (Or.inl rfl) (s_19 hst) (by decide) rfl ?_
  refine ev_icmp_ge (tgt := 162) 10 rfl dX3_layWays_7 (by decide) (fun cd => ?_) (fun cd => ?_)
  · have H := H.1 cd
    exact ev_retV dX3_layWays_162 rfl H
  · have H := H.2 cd
    refine ev_aload_n 11 rfl dX3_layWays_10 rfl rfl ?_
    refine ev_getR (ki := 0) (v := 3) 14 rfl dX3_layWays_11 lf_3_86 (s_2 hst) (by decide) rfl (p_2_0 hst) ?_
    refine ev_iload_n 15 rfl dX3_layWays_14 rfl rfl ?_
    obtain ⟨b1, H⟩ := H
    refine ev_iaload 16 rfl dX3_layWays_15 (s_3 hst) b1.1 b1.2 ?_
    refine ev_istore (L1 := [(2, 19), (2, 2), (0, v2), (0, v3), (0, (h 3 v3)), (8, -1), (8, -1), (8, -1), (8, -1), (8, -1), (8, -1)]) 18 rfl dX3_layWays_16 (Nat.le_of_ble_eq_true rfl) rfl ?_
    refine ev_aload_n 19 rfl dX3_layWays_18 rfl rfl ?_
    refine ev_getR (ki := 1) (v := 4) 22 rfl dX3_layWays_19 lf_3_89 (s_2 hst) (by decide) rfl (p_2_1 hst) ?_
    refine ev_iload_n 23 rfl dX3_layWays_22 rfl rfl ?_
    obtain ⟨b2, H⟩ := H
    refine ev_iaload 24 rfl dX3_layWays_23 (s_4 hst) b2.1 b2.2 ?_
    refine ev_istore (L1 := [(2, 19), (2, 2), (0, v2), (0, v3), (0, (h 3 v3)), (0, (h 4 v3)), (8, -1), (8, -1), (8, -1), (8, -1), (8, -1)]) 26 rfl dX3_layWays_24 (Nat.le_of_ble_eq_true rfl) rfl ?_
    refine ev_iconst 27 rfl dX3_layWays_26 (by decide) ?_
    refine ev_istore (L1 := [(2, 19), (2, 2), (0, v2), (0, v3), (0, (h 3 v3)), (0, (h 4 v3)), (0, 0), (8, -1), (8, -1), (8, -1), (8, -1)]) 29 rfl dX3_layWays_27 (Nat.le_of_ble_eq_true rfl) rfl ?_
    exact H

set_option maxRecDepth 20000 in
theorem b_X3_layWays_29 {X : qX} {d : Nat} {sh : qS} {pt h : qM} {K : qM → Prop} {v2 v3 v4 v5 v6 : Int} (hst : St sh pt)
    (H : (((h 19 11) ≤ v6 → (qI (v3 + 1)) ∧ EvV X (d + 1) mX3_layWays 2 [(2, 19), (2, 2), (0, v2), (0, (v3 + 1)), (8, -1), (8, -1), (8, -1), (8, -1), (8, -1), (8, -1), (8, -1)] [] sh pt h K) ∧ (v6 < (h 19 11) → (qI (v3 * 6)) ∧ (qI ((v3 * 6) + v6)) ∧ (0 ≤ v6 ∧ v6 < 6) ∧ (qI ((h 21 v6) - v4)) ∧ (0 ≤ v6 ∧ v6 < 6) ∧ (qI ((h 22 v6) - v5)) ∧ (qI (((h 21 v6) - v4) * ((h 21 v6) - v4))) ∧ (qI (((h 22 v6) - v5) * ((h 22 v6) - v5))) ∧ (qI ((((h 21 v6) - v4) * ((h 21 v6) - v4)) + (((h 22 v6) - v5) * ((h 22 v6) - v5)))) ∧ (0 ≤ ((v3 * 6) + v6) ∧ ((v3 * 6) + v6) < 36) ∧ ∀ h4 : qM, h4 = qup h 25 ((v3 * 6) + v6) ((((h 21 v6) - v4) * ((h 21 v6) - v4)) + (((h 22 v6) - v5) * ((h 22 v6) - v5))) → EvV X (d + 1) mX3_layWays 92 [(2, 19), (2, 2), (0, v2), (0, v3), (0, v4), (0, v5), (0, v6), (0, ((v3 * 6) + v6)), (8, -1), (8, -1), (0, 0)] [] sh pt h4 K))) :
    EvV X (d + 1) mX3_layWays 29 [(2, 19), (2, 2), (0, v2), (0, v3), (0, v4), (0, v5), (0, v6), (8, -1), (8, -1), (8, -1), (8, -1)] [] sh pt h K := by
  show Ev X (d + 1) 0 0 mX3_layWays 29 [(2, 19), (2, 2), (0, v2), (0, v3), (0, v4), (0, v5), (0, v6), (8, -1), (8, -1), (8, -1), (8, -1)] [] (sh, pt, h) (qRV sh pt K)
  refine ev_iload 31 rfl dX3_layWays_29 rfl ?_
  refine ev_aload_n 32 rfl dX3_layWays_31 rfl rfl ?_
  refine ev_getI (ki := 11) 35 rfl dX3_layWays_32 lf_3_47 (Or.inl rfl) (s_19 hst) (by decide) rfl ?_
  refine ev_icmp_ge (tgt := 156) 38 rfl dX3_layWays_35 (by decide) (fun cd => ?_) (fun cd => ?_)
  · have H := H.1 cd
    obtain ⟨sd, H⟩ := H
    refine ev_iinc (L1 := [(2, 19), (2, 2), (0, v2), (0, (v3 + 1)), (0, v4), (0, v5), (0, v6), (8, -1), (8, -1), (8, -1), (8, -1)]) 159 rfl dX3_layWays_156 rfl sd (Nat.le_of_ble_eq_true rfl) rfl ?_
    refine ev_goto (tgt := 2) dX3_layWays_159 (by decide) ?_
    refine Ev.drop [4, 5, 6] rfl ?_
    exact H
  · have H := H.2 cd
    refine ev_iload_n 39 rfl dX3_layWays_38 rfl rfl ?_
    refine ev_bipush 41 rfl dX3_layWays_39 (by decide) (by decide) ?_
    obtain ⟨sd, H⟩ := H
    refine ev_imul 42 rfl dX3_layWays_41 sd ?_
    refine ev_iload 44 rfl dX3_layWays_42 rfl ?_
    obtain ⟨sd, H⟩ := H
    refine ev_iadd 45 rfl dX3_layWays_44 sd ?_
    refine ev_istore (L1 := [(2, 19), (2, 2), (0, v2), (0, v3), (0, v4), (0, v5), (0, v6), (0, ((v3 * 6) + v6)), (8, -1), (8, -1), (8, -1)]) 47 rfl dX3_layWays_45 (Nat.le_of_ble_eq_true rfl) rfl ?_
    refine ev_aload_n 48 rfl dX3_layWays_47 rfl rfl ?_
    refine ev_getR (ki := 4) (v := 21) 51 rfl dX3_layWays_48 lf_3_25 (s_19 hst) (by decide) rfl (p_19_4 hst) ?_
    refine ev_iload 53 rfl dX3_layWays_51 rfl ?_
    obtain ⟨b1, H⟩ := H
    refine ev_iaload 54 rfl dX3_layWays_53 (s_21 hst) b1.1 b1.2 ?_
    refine ev_iload 56 rfl dX3_layWays_54 rfl ?_
    obtain ⟨sd, H⟩ := H
    refine ev_isub 57 rfl dX3_layWays_56 sd ?_
    refine ev_istore (L1 := [(2, 19), (2, 2), (0, v2), (0, v3), (0, v4), (0, v5), (0, v6), (0, ((v3 * 6) + v6)), (0, ((h 21 v6) - v4)), (8, -1), (8, -1)]) 59 rfl dX3_layWays_57 (Nat.le_of_ble_eq_true rfl) rfl ?_
    refine ev_aload_n 60 rfl dX3_layWays_59 rfl rfl ?_
    refine ev_getR (ki := 5) (v := 22) 63 rfl dX3_layWays_60 lf_3_28 (s_19 hst) (by decide) rfl (p_19_5 hst) ?_
    refine ev_iload 65 rfl dX3_layWays_63 rfl ?_
    obtain ⟨b2, H⟩ := H
    refine ev_iaload 66 rfl dX3_layWays_65 (s_22 hst) b2.1 b2.2 ?_
    refine ev_iload 68 rfl dX3_layWays_66 rfl ?_
    obtain ⟨sd, H⟩ := H
    refine ev_isub 69 rfl dX3_layWays_68 sd ?_
    refine ev_istore (L1 := [(2, 19), (2, 2), (0, v2), (0, v3), (0, v4), (0, v5), (0, v6), (0, ((v3 * 6) + v6)), (0, ((h 21 v6) - v4)), (0, ((h 22 v6) - v5)), (8, -1)]) 71 rfl dX3_layWays_69 (Nat.le_of_ble_eq_true rfl) rfl ?_
    refine ev_aload_n 72 rfl dX3_layWays_71 rfl rfl ?_
    refine ev_getR (ki := 8) (v := 25) 75 rfl dX3_layWays_72 lf_3_37 (s_19 hst) (by decide) rfl (p_19_8 hst) ?_
    refine ev_iload 77 rfl dX3_layWays_75 rfl ?_
    refine ev_iload 79 rfl dX3_layWays_77 rfl ?_
    refine ev_iload 81 rfl dX3_layWays_79 rfl ?_
    obtain ⟨sd, H⟩ := H
    refine ev_imul 82 rfl dX3_layWays_81 sd ?_
    refine ev_iload 84 rfl dX3_layWays_82 rfl ?_
    refine ev_iload 86 rfl dX3_layWays_84 rfl ?_
    obtain ⟨sd, H⟩ := H
    refine ev_imul 87 rfl dX3_layWays_86 sd ?_
    obtain ⟨sd, H⟩ := H
    refine ev_iadd 88 rfl dX3_layWays_87 sd ?_
    obtain ⟨b3, H⟩ := H
    refine ev_iastore 89 rfl dX3_layWays_88 (s_25 hst) b3.1 b3.2 ?_
    obtain ⟨h4, eh4⟩ : ∃ z : qM, z = qup h 25 ((v3 * 6) + v6) ((((h 21 v6) - v4) * ((h 21 v6) - v4)) + (((h 22 v6) - v5) * ((h 22 v6) - v5))) := ⟨_, rfl⟩
    rw [← eh4]
    have H := H h4 eh4
    refine ev_iconst 90 rfl dX3_layWays_89 (by decide) ?_
    refine ev_istore (L1 := [(2, 19), (2, 2), (0, v2), (0, v3), (0, v4), (0, v5), (0, v6), (0, ((v3 * 6) + v6)), (0, ((h 21 v6) - v4)), (0, ((h 22 v6) - v5)), (0, 0)]) 92 rfl dX3_layWays_90 (Nat.le_of_ble_eq_true rfl) rfl ?_
    refine Ev.drop [8, 9] rfl ?_
    exact H

set_option maxRecDepth 20000 in
theorem b_X3_layWays_92 {X : qX} {d : Nat} {sh : qS} {pt h : qM} {K : qM → Prop} {v2 v3 v4 v5 v6 v7 v10 : Int} (hst : St sh pt)
    (H : ((v2 < v10 → (qI (v6 + 1)) ∧ EvV X (d + 1) mX3_layWays 29 [(2, 19), (2, 2), (0, v2), (0, v3), (0, v4), (0, v5), (0, (v6 + 1)), (8, -1), (8, -1), (8, -1), (8, -1)] [] sh pt h K) ∧ (v10 ≤ v2 → (qI (v7 * 41)) ∧ (qI ((v7 * 41) + v10)) ∧ (0 ≤ v6 ∧ v6 < 6) ∧ RunI X d mX1_between [(0, v4), (0, (h 21 v6)), (0, v10), (0, v2)] sh pt h (fun r3 h2 => (0 ≤ v6 ∧ v6 < 6) ∧ RunI X d mX1_between [(0, v5), (0, (h2 22 v6)), (0, v10), (0, v2)] sh pt h2 (fun r6 h5 => RunI X d mX2_spot [(0, r3), (0, r6)] sh pt h5 (fun r8 h7 => (0 ≤ ((v7 * 41) + v10) ∧ ((v7 * 41) + v10) < 1476) ∧ ∀ h10 : qM, h10 = qup h7 26 ((v7 * 41) + v10) r8 → (qI (v10 + 1)) ∧ EvV X (d + 1) mX3_layWays 92 [(2, 19), (2, 2), (0, v2), (0, v3), (0, v4), (0, v5), (0, v6), (0, v7), (8, -1), (8, -1), (0, (v10 + 1))] [] sh pt h10 K)))))) :
    EvV X (d + 1) mX3_layWays 92 [(2, 19), (2, 2), (0, v2), (0, v3), (0, v4), (0, v5), (0, v6), (0, v7), (8, -1), (8, -1), (0, v10)] [] sh pt h K := by
  show Ev X (d + 1) 0 0 mX3_layWays 92 [(2, 19), (2, 2), (0, v2), (0, v3), (0, v4), (0, v5), (0, v6), (0, v7), (8, -1), (8, -1), (0, v10)] [] (sh, pt, h) (qRV sh pt K)
  refine ev_iload 94 rfl dX3_layWays_92 rfl ?_
  refine ev_iload_n 95 rfl dX3_layWays_94 rfl rfl ?_
  refine ev_icmp_gt (tgt := 150) 98 rfl dX3_layWays_95 (by decide) (fun cd => ?_) (fun cd => ?_)
  · have H := H.1 cd
    obtain ⟨sd, H⟩ := H
    refine ev_iinc (L1 := [(2, 19), (2, 2), (0, v2), (0, v3), (0, v4), (0, v5), (0, (v6 + 1)), (0, v7), (8, -1), (8, -1), (0, v10)]) 153 rfl dX3_layWays_150 rfl sd (Nat.le_of_ble_eq_true rfl) rfl ?_
    refine ev_goto (tgt := 29) dX3_layWays_153 (by decide) ?_
    refine Ev.drop [7, 10] rfl ?_
    exact H
  · have H := H.2 cd
    refine ev_aload_n 99 rfl dX3_layWays_98 rfl rfl ?_
    refine ev_getR (ki := 9) (v := 26) 102 rfl dX3_layWays_99 lf_3_40 (s_19 hst) (by decide) rfl (p_19_9 hst) ?_
    refine ev_iload 104 rfl dX3_layWays_102 rfl ?_
    refine ev_bipush 106 rfl dX3_layWays_104 (by decide) (by decide) ?_
    obtain ⟨sd, H⟩ := H
    refine ev_imul 107 rfl dX3_layWays_106 sd ?_
    refine ev_iload 109 rfl dX3_layWays_107 rfl ?_
    obtain ⟨sd, H⟩ := H
    refine ev_iadd 110 rfl dX3_layWays_109 sd ?_
    refine ev_iload 112 rfl dX3_layWays_110 rfl ?_
    refine ev_aload_n 113 rfl dX3_layWays_112 rfl rfl ?_
    refine ev_getR (ki := 4) (v := 21) 116 rfl dX3_layWays_113 lf_3_25 (s_19 hst) (by decide) rfl (p_19_4 hst) ?_
    refine ev_iload 118 rfl dX3_layWays_116 rfl ?_
    obtain ⟨b1, H⟩ := H
    refine ev_iaload 119 rfl dX3_layWays_118 (s_21 hst) b1.1 b1.2 ?_
    refine ev_iload 121 rfl dX3_layWays_119 rfl ?_
    refine ev_iload_n 122 rfl dX3_layWays_121 rfl rfl ?_
    refine ev_cSI (As := [(0, v4), (0, (h 21 v6)), (0, v10), (0, v2)]) (rest := [(0, ((v7 * 41) + v10)), (2, 26)]) 125 rfl dX3_layWays_122 lm_3_92 mm_X1_between rfl rfl (Nat.le_of_ble_eq_true rfl) (Nat.le_of_ble_eq_true rfl) (Nat.le_refl _) H ?_
    intro r3 h2 H
    refine ev_iload 127 rfl dX3_layWays_125 rfl ?_
    refine ev_aload_n 128 rfl dX3_layWays_127 rfl rfl ?_
    refine ev_getR (ki := 5) (v := 22) 131 rfl dX3_layWays_128 lf_3_28 (s_19 hst) (by decide) rfl (p_19_5 hst) ?_
    refine ev_iload 133 rfl dX3_layWays_131 rfl ?_
    obtain ⟨b4, H⟩ := H
    refine ev_iaload 134 rfl dX3_layWays_133 (s_22 hst) b4.1 b4.2 ?_
    refine ev_iload 136 rfl dX3_layWays_134 rfl ?_
    refine ev_iload_n 137 rfl dX3_layWays_136 rfl rfl ?_
    refine ev_cSI (As := [(0, v5), (0, (h2 22 v6)), (0, v10), (0, v2)]) (rest := [(0, r3), (0, ((v7 * 41) + v10)), (2, 26)]) 140 rfl dX3_layWays_137 lm_3_92 mm_X1_between rfl rfl (Nat.le_of_ble_eq_true rfl) (Nat.le_of_ble_eq_true rfl) (Nat.le_refl _) H ?_
    intro r6 h5 H
    refine ev_cSI (As := [(0, r3), (0, r6)]) (rest := [(0, ((v7 * 41) + v10)), (2, 26)]) 143 rfl dX3_layWays_140 lm_3_98 mm_X2_spot rfl rfl (Nat.le_of_ble_eq_true rfl) (Nat.le_of_ble_eq_true rfl) (Nat.le_refl _) H ?_
    intro r8 h7 H
    obtain ⟨b9, H⟩ := H
    refine ev_iastore 144 rfl dX3_layWays_143 (s_26 hst) b9.1 b9.2 ?_
    obtain ⟨h10, eh10⟩ : ∃ z : qM, z = qup h7 26 ((v7 * 41) + v10) r8 := ⟨_, rfl⟩
    rw [← eh10]
    have H := H h10 eh10
    obtain ⟨sd, H⟩ := H
    refine ev_iinc (L1 := [(2, 19), (2, 2), (0, v2), (0, v3), (0, v4), (0, v5), (0, v6), (0, v7), (8, -1), (8, -1), (0, (v10 + 1))]) 147 rfl dX3_layWays_144 rfl sd (Nat.le_of_ble_eq_true rfl) rfl ?_
    refine ev_goto (tgt := 92) dX3_layWays_147 (by decide) ?_
    exact H

set_option maxRecDepth 20000 in
theorem b_X3_layMeetings {X : qX} {d : Nat} {sh : qS} {pt h : qM} {K : qM → Prop} {v1 : Int} (hst : St sh pt)
    (H : EvV X (d + 1) mX3_layMeetings 2 [(2, 19), (0, v1), (0, 0), (8, -1), (8, -1)] [] sh pt h K) :
    RunV X (d + 1) mX3_layMeetings [(2, 19), (0, v1)] sh pt h K := by
  show Ev X (d + 1) 0 0 mX3_layMeetings 0 [(2, 19), (0, v1), (8, -1), (8, -1), (8, -1)] [] (sh, pt, h) (qRV sh pt K)
  refine ev_iconst 1 rfl dX3_layMeetings_0 (by decide) ?_
  refine ev_istore_n (L1 := [(2, 19), (0, v1), (0, 0), (8, -1), (8, -1)]) 2 rfl dX3_layMeetings_1 rfl (Nat.le_of_ble_eq_true rfl) rfl ?_
  exact H

set_option maxRecDepth 20000 in
theorem b_X3_layMeetings_2 {X : qX} {d : Nat} {sh : qS} {pt h : qM} {K : qM → Prop} {v1 v2 : Int} (hst : St sh pt)
    (H : (qI ((h 19 11) * 6)) ∧ ((((h 19 11) * 6) ≤ v2 → K h) ∧ (v2 < ((h 19 11) * 6) → EvV X (d + 1) mX3_layMeetings 15 [(2, 19), (0, v1), (0, v2), (0, 0), (8, -1)] [] sh pt h K))) :
    EvV X (d + 1) mX3_layMeetings 2 [(2, 19), (0, v1), (0, v2), (8, -1), (8, -1)] [] sh pt h K := by
  show Ev X (d + 1) 0 0 mX3_layMeetings 2 [(2, 19), (0, v1), (0, v2), (8, -1), (8, -1)] [] (sh, pt, h) (qRV sh pt K)
  refine ev_iload_n 3 rfl dX3_layMeetings_2 rfl rfl ?_
  refine ev_aload_n 4 rfl dX3_layMeetings_3 rfl rfl ?_
  refine ev_getI (ki := 11) 7 rfl dX3_layMeetings_4 lf_3_47 (Or.inl rfl) (s_19 hst) (by decide) rfl ?_
  refine ev_bipush 9 rfl dX3_layMeetings_7 (by decide) (by decide) ?_
  obtain ⟨sd, H⟩ := H
  refine ev_imul 10 rfl dX3_layMeetings_9 sd ?_
  refine ev_icmp_ge (tgt := 114) 13 rfl dX3_layMeetings_10 (by decide) (fun cd => ?_) (fun cd => ?_)
  · have H := H.1 cd
    exact ev_retV dX3_layMeetings_114 rfl H
  · have H := H.2 cd
    refine ev_iconst 14 rfl dX3_layMeetings_13 (by decide) ?_
    refine ev_istore_n (L1 := [(2, 19), (0, v1), (0, v2), (0, 0), (8, -1)]) 15 rfl dX3_layMeetings_14 rfl (Nat.le_of_ble_eq_true rfl) rfl ?_
    exact H

set_option maxRecDepth 20000 in
theorem b_X3_layMeetings_15 {X : qX} {d : Nat} {sh : qS} {pt h : qM} {K : qM → Prop} {v1 v2 v3 : Int} (hst : St sh pt)
    (H : ((v2 ≤ v3 → (qI (v2 + 1)) ∧ EvV X (d + 1) mX3_layMeetings 2 [(2, 19), (0, v1), (0, (v2 + 1)), (8, -1), (8, -1)] [] sh pt h K) ∧ (v3 < v2 → (0 ≤ v2) ∧ (((h 19 11) ≤ (v2 % 6) → EvV X (d + 1) mX3_layMeetings 58 [(2, 19), (0, v1), (0, v2), (0, v3), (8, -1)] [(0, 0)] sh pt h K) ∧ ((v2 % 6) < (h 19 11) → (0 ≤ v3) ∧ (((h 19 11) ≤ (v3 % 6) → EvV X (d + 1) mX3_layMeetings 58 [(2, 19), (0, v1), (0, v2), (0, v3), (8, -1)] [(0, 0)] sh pt h K) ∧ ((v3 % 6) < (h 19 11) → (0 ≤ v2) ∧ (0 ≤ v3) ∧ (((v2 % 6) = (v3 % 6) → EvV X (d + 1) mX3_layMeetings 58 [(2, 19), (0, v1), (0, v2), (0, v3), (8, -1)] [(0, 0)] sh pt h K) ∧ (¬ (v2 % 6) = (v3 % 6) → EvV X (d + 1) mX3_layMeetings 58 [(2, 19), (0, v1), (0, v2), (0, v3), (8, -1)] [(0, 1)] sh pt h K))))))))) :
    EvV X (d + 1) mX3_layMeetings 15 [(2, 19), (0, v1), (0, v2), (0, v3), (8, -1)] [] sh pt h K := by
  show Ev X (d + 1) 0 0 mX3_layMeetings 15 [(2, 19), (0, v1), (0, v2), (0, v3), (8, -1)] [] (sh, pt, h) (qRV sh pt K)
  refine ev_iload_n 16 rfl dX3_layMeetings_15 rfl rfl ?_
  refine ev_iload_n 17 rfl dX3_layMeetings_16 rfl rfl ?_
  refine ev_icmp_ge (tgt := 108) 20 rfl dX3_layMeetings_17 (by decide) (fun cd => ?_) (fun cd => ?_)
  · have H := H.1 cd
    obtain ⟨sd, H⟩ := H
    refine ev_iinc (L1 := [(2, 19), (0, v1), (0, (v2 + 1)), (0, v3), (8, -1)]) 111 rfl dX3_layMeetings_108 rfl sd (Nat.le_of_ble_eq_true rfl) rfl ?_
    refine ev_goto (tgt := 2) dX3_layMeetings_111 (by decide) ?_
    refine Ev.drop [3] rfl ?_
    exact H
  · have H := H.2 cd
    refine ev_iload_n 21 rfl dX3_layMeetings_20 rfl rfl ?_
    refine ev_bipush 23 rfl dX3_layMeetings_21 (by decide) (by decide) ?_
    obtain ⟨sd, H⟩ := H
    refine ev_iremP 24 rfl dX3_layMeetings_23 ⟨sd, by decide⟩ ?_
    refine ev_aload_n 25 rfl dX3_layMeetings_24 rfl rfl ?_
    refine ev_getI (ki := 11) 28 rfl dX3_layMeetings_25 lf_3_47 (Or.inl rfl) (s_19 hst) (by decide) rfl ?_
    refine ev_icmp_ge (tgt := 57) 31 rfl dX3_layMeetings_28 (by decide) (fun cd => ?_) (fun cd => ?_)
    · have H := H.1 cd
      refine ev_iconst 58 rfl dX3_layMeetings_57 (by decide) ?_
      exact H
    · have H := H.2 cd
      refine ev_iload_n 32 rfl dX3_layMeetings_31 rfl rfl ?_
      refine ev_bipush 34 rfl dX3_layMeetings_32 (by decide) (by decide) ?_
      obtain ⟨sd, H⟩ := H
      refine ev_iremP 35 rfl dX3_layMeetings_34 ⟨sd, by decide⟩ ?_
      refine ev_aload_n 36 rfl dX3_layMeetings_35 rfl rfl ?_
      refine ev_getI (ki := 11) 39 rfl dX3_layMeetings_36 lf_3_47 (Or.inl rfl) (s_19 hst) (by decide) rfl ?_
      refine ev_icmp_ge (tgt := 57) 42 rfl dX3_layMeetings_39 (by decide) (fun cd => ?_) (fun cd => ?_)
      · have H := H.1 cd
        refine ev_iconst 58 rfl dX3_layMeetings_57 (by decide) ?_
        exact H
      · have H := H.2 cd
        refine ev_iload_n 43 rfl dX3_layMeetings_42 rfl rfl ?_
        refine ev_bipush 45 rfl dX3_layMeetings_43 (by decide) (by decide) ?_
        obtain ⟨sd, H⟩ := H
        refine ev_iremP 46 rfl dX3_layMeetings_45 ⟨sd, by decide⟩ ?_
        refine ev_iload_n 47 rfl dX3_layMeetings_46 rfl rfl ?_
        refine ev_bipush 49 rfl dX3_layMeetings_47 (by decide) (by decide) ?_
        obtain ⟨sd, H⟩ := H
        refine ev_iremP 50 rfl dX3_layMeetings_49 ⟨sd, by decide⟩ ?_
        refine ev_icmp_eq (tgt := 57) 53 rfl dX3_layMeetings_50 (by decide) (fun cd => ?_) (fun cd => ?_)
        · have H := H.1 cd
          refine ev_iconst 58 rfl dX3_layMeetings_57 (by decide) ?_
          exact H
        · have H := H.2 cd
          refine ev_iconst 54 rfl dX3_layMeetings_53 (by decide) ?_
          refine ev_goto (tgt := 58) dX3_layMeetings_54 (by decide) ?_
          exact H

set_option maxRecDepth 20000 in
theorem b_X3_layMeetings_58 {X : qX} {d : Nat} {sh : qS} {pt h : qM} {K : qM → Prop} {v1 v2 v3 u0 : Int} (hst : St sh pt)
    (H : (qI (v2 * 36)) ∧ (qI ((v2 * 36) + v3)) ∧ ((u0 = 0 → (0 ≤ ((v2 * 36) + v3) ∧ ((v2 * 36) + v3) < 1296) ∧ ∀ h2 : qM, h2 = qup h 27 ((v2 * 36) + v3) 0 → (qI (v3 + 1)) ∧ EvV X (d + 1) mX3_layMeetings 15 [(2, 19), (0, v1), (0, v2), (0, (v3 + 1)), (8, -1)] [] sh pt h2 K) ∧ (¬ u0 = 0 → (0 ≤ v2) ∧ (0 ≤ v3) ∧ (((v2 / 6) = (v3 / 6) → (0 ≤ ((v2 * 36) + v3) ∧ ((v2 * 36) + v3) < 1296) ∧ ∀ h4 : qM, h4 = qup h 27 ((v2 * 36) + v3) 0 → (qI (v3 + 1)) ∧ EvV X (d + 1) mX3_layMeetings 15 [(2, 19), (0, v1), (0, v2), (0, (v3 + 1)), (8, -1)] [] sh pt h4 K) ∧ (¬ (v2 / 6) = (v3 / 6) → RunI X d mX3_meet [(2, 19), (0, v2), (0, v3), (0, v1)] sh pt h (fun r6 h5 => ((r6 = 0 → (0 ≤ ((v2 * 36) + v3) ∧ ((v2 * 36) + v3) < 1296) ∧ ∀ h8 : qM, h8 = qup h5 27 ((v2 * 36) + v3) 0 → (qI (v3 + 1)) ∧ EvV X (d + 1) mX3_layMeetings 15 [(2, 19), (0, v1), (0, v2), (0, (v3 + 1)), (8, -1)] [] sh pt h8 K) ∧ (¬ r6 = 0 → (0 ≤ ((v2 * 36) + v3) ∧ ((v2 * 36) + v3) < 1296) ∧ ∀ h10 : qM, h10 = qup h5 27 ((v2 * 36) + v3) 1 → (qI (v3 + 1)) ∧ EvV X (d + 1) mX3_layMeetings 15 [(2, 19), (0, v1), (0, v2), (0, (v3 + 1)), (8, -1)] [] sh pt h10 K)))))))) :
    EvV X (d + 1) mX3_layMeetings 58 [(2, 19), (0, v1), (0, v2), (0, v3), (8, -1)] [(0, u0)] sh pt h K := by
  show Ev X (d + 1) 0 0 mX3_layMeetings 58 [(2, 19), (0, v1), (0, v2), (0, v3), (8, -1)] [(0, u0)] (sh, pt, h) (qRV sh pt K)
  refine ev_istore (L1 := [(2, 19), (0, v1), (0, v2), (0, v3), (0, u0)]) 60 rfl dX3_layMeetings_58 (Nat.le_of_ble_eq_true rfl) rfl ?_
  refine ev_aload_n 61 rfl dX3_layMeetings_60 rfl rfl ?_
  refine ev_getR (ki := 10) (v := 27) 64 rfl dX3_layMeetings_61 lf_3_43 (s_19 hst) (by decide) rfl (p_19_10 hst) ?_
  refine ev_iload_n 65 rfl dX3_layMeetings_64 rfl rfl ?_
  refine ev_bipush 67 rfl dX3_layMeetings_65 (by decide) (by decide) ?_
  obtain ⟨sd, H⟩ := H
  refine ev_imul 68 rfl dX3_layMeetings_67 sd ?_
  refine ev_iload_n 69 rfl dX3_layMeetings_68 rfl rfl ?_
  obtain ⟨sd, H⟩ := H
  refine ev_iadd 70 rfl dX3_layMeetings_69 sd ?_
  refine ev_iload 72 rfl dX3_layMeetings_70 rfl ?_
  refine ev_if_eq (tgt := 100) 75 rfl dX3_layMeetings_72 (by decide) (fun cd => ?_) (fun cd => ?_)
  · have H := H.1 cd
    refine ev_iconst 101 rfl dX3_layMeetings_100 (by decide) ?_
    obtain ⟨b1, H⟩ := H
    refine ev_zastore 102 rfl dX3_layMeetings_101 (s_27 hst) b1.1 b1.2 (by decide) ?_
    obtain ⟨h2, eh2⟩ : ∃ z : qM, z = qup h 27 ((v2 * 36) + v3) 0 := ⟨_, rfl⟩
    rw [← eh2]
    have H := H h2 eh2
    obtain ⟨sd, H⟩ := H
    refine ev_iinc (L1 := [(2, 19), (0, v1), (0, v2), (0, (v3 + 1)), (0, u0)]) 105 rfl dX3_layMeetings_102 rfl sd (Nat.le_of_ble_eq_true rfl) rfl ?_
    refine ev_goto (tgt := 15) dX3_layMeetings_105 (by decide) ?_
    refine Ev.drop [4] rfl ?_
    exact H
  · have H := H.2 cd
    refine ev_iload_n 76 rfl dX3_layMeetings_75 rfl rfl ?_
    refine ev_bipush 78 rfl dX3_layMeetings_76 (by decide) (by decide) ?_
    obtain ⟨sd, H⟩ := H
    refine ev_idivP 79 rfl dX3_layMeetings_78 ⟨sd, by decide⟩ ?_
    refine ev_iload_n 80 rfl dX3_layMeetings_79 rfl rfl ?_
    refine ev_bipush 82 rfl dX3_layMeetings_80 (by decide) (by decide) ?_
    obtain ⟨sd, H⟩ := H
    refine ev_idivP 83 rfl dX3_layMeetings_82 ⟨sd, by decide⟩ ?_
    refine ev_icmp_eq (tgt := 100) 86 rfl dX3_layMeetings_83 (by decide) (fun cd => ?_) (fun cd => ?_)
    · have H := H.1 cd
      refine ev_iconst 101 rfl dX3_layMeetings_100 (by decide) ?_
      obtain ⟨b3, H⟩ := H
      refine ev_zastore 102 rfl dX3_layMeetings_101 (s_27 hst) b3.1 b3.2 (by decide) ?_
      obtain ⟨h4, eh4⟩ : ∃ z : qM, z = qup h 27 ((v2 * 36) + v3) 0 := ⟨_, rfl⟩
      rw [← eh4]
      have H := H h4 eh4
      obtain ⟨sd, H⟩ := H
      refine ev_iinc (L1 := [(2, 19), (0, v1), (0, v2), (0, (v3 + 1)), (0, u0)]) 105 rfl dX3_layMeetings_102 rfl sd (Nat.le_of_ble_eq_true rfl) rfl ?_
      refine ev_goto (tgt := 15) dX3_layMeetings_105 (by decide) ?_
      refine Ev.drop [4] rfl ?_
      exact H
    · have H := H.2 cd
      refine ev_aload_n 87 rfl dX3_layMeetings_86 rfl rfl ?_
      refine ev_iload_n 88 rfl dX3_layMeetings_87 rfl rfl ?_
      refine ev_iload_n 89 rfl dX3_layMeetings_88 rfl rfl ?_
      refine ev_iload_n 90 rfl dX3_layMeetings_89 rfl rfl ?_
      refine ev_cVI (As := [(0, v2), (0, v3), (0, v1)]) (rest := [(0, ((v2 * 36) + v3)), (2, 27)]) 93 rfl dX3_layMeetings_90 lm_3_102 mm_X3_meet (s_19 hst) rfl rfl (Nat.le_of_ble_eq_true rfl) (Nat.le_of_ble_eq_true rfl) (Nat.le_refl _) H ?_
      intro r6 h5 H
      refine ev_if_eq (tgt := 100) 96 rfl dX3_layMeetings_93 (by decide) (fun cd => ?_) (fun cd => ?_)
      · have H := H.1 cd
        refine ev_iconst 101 rfl dX3_layMeetings_100 (by decide) ?_
        obtain ⟨b7, H⟩ := H
        refine ev_zastore 102 rfl dX3_layMeetings_101 (s_27 hst) b7.1 b7.2 (by decide) ?_
        obtain ⟨h8, eh8⟩ : ∃ z : qM, z = qup h5 27 ((v2 * 36) + v3) 0 := ⟨_, rfl⟩
        rw [← eh8]
        have H := H h8 eh8
        obtain ⟨sd, H⟩ := H
        refine ev_iinc (L1 := [(2, 19), (0, v1), (0, v2), (0, (v3 + 1)), (0, u0)]) 105 rfl dX3_layMeetings_102 rfl sd (Nat.le_of_ble_eq_true rfl) rfl ?_
        refine ev_goto (tgt := 15) dX3_layMeetings_105 (by decide) ?_
        refine Ev.drop [4] rfl ?_
        exact H
      · have H := H.2 cd
        refine ev_iconst 97 rfl dX3_layMeetings_96 (by decide) ?_
        refine ev_goto (tgt := 101) dX3_layMeetings_97 (by decide) ?_
        obtain ⟨b9, H⟩ := H
        refine ev_zastore 102 rfl dX3_layMeetings_101 (s_27 hst) b9.1 b9.2 (by decide) ?_
        obtain ⟨h10, eh10⟩ : ∃ z : qM, z = qup h5 27 ((v2 * 36) + v3) 1 := ⟨_, rfl⟩
        rw [← eh10]
        have H := H h10 eh10
        obtain ⟨sd, H⟩ := H
        refine ev_iinc (L1 := [(2, 19), (0, v1), (0, v2), (0, (v3 + 1)), (0, u0)]) 105 rfl dX3_layMeetings_102 rfl sd (Nat.le_of_ble_eq_true rfl) rfl ?_
        refine ev_goto (tgt := 15) dX3_layMeetings_105 (by decide) ?_
        refine Ev.drop [4] rfl ?_
        exact H

set_option maxRecDepth 20000 in
theorem b_X3_meet {X : qX} {d : Nat} {sh : qS} {pt h : qM} {K : Int → qM → Prop} {v1 v2 v3 : Int} (hst : St sh pt)
    (H : (qI (v1 * 41)) ∧ (qI (v2 * 41)) ∧ EvI X d mX3_meet 15 [(2, 19), (8, -1), (8, -1), (0, v3), (0, (v1 * 41)), (0, (v2 * 41)), (0, 0)] [] sh pt h K) :
    RunI X d mX3_meet [(2, 19), (0, v1), (0, v2), (0, v3)] sh pt h K := by
  show Ev X d 0 0 mX3_meet 0 [(2, 19), (0, v1), (0, v2), (0, v3), (8, -1), (8, -1), (8, -1)] [] (sh, pt, h) (qRI sh pt K)
  refine ev_iload_n 1 rfl dX3_meet_0 rfl rfl ?_
  refine ev_bipush 3 rfl dX3_meet_1 (by decide) (by decide) ?_
  obtain ⟨sd, H⟩ := H
  refine ev_imul 4 rfl dX3_meet_3 sd ?_
  refine ev_istore (L1 := [(2, 19), (0, v1), (0, v2), (0, v3), (0, (v1 * 41)), (8, -1), (8, -1)]) 6 rfl dX3_meet_4 (Nat.le_of_ble_eq_true rfl) rfl ?_
  refine ev_iload_n 7 rfl dX3_meet_6 rfl rfl ?_
  refine ev_bipush 9 rfl dX3_meet_7 (by decide) (by decide) ?_
  obtain ⟨sd, H⟩ := H
  refine ev_imul 10 rfl dX3_meet_9 sd ?_
  refine ev_istore (L1 := [(2, 19), (0, v1), (0, v2), (0, v3), (0, (v1 * 41)), (0, (v2 * 41)), (8, -1)]) 12 rfl dX3_meet_10 (Nat.le_of_ble_eq_true rfl) rfl ?_
  refine ev_iconst 13 rfl dX3_meet_12 (by decide) ?_
  refine ev_istore (L1 := [(2, 19), (0, v1), (0, v2), (0, v3), (0, (v1 * 41)), (0, (v2 * 41)), (0, 0)]) 15 rfl dX3_meet_13 (Nat.le_of_ble_eq_true rfl) rfl ?_
  refine Ev.drop [1, 2] rfl ?_
  exact H

set_option maxRecDepth 20000 in
theorem b_X3_meet_15 {X : qX} {d : Nat} {sh : qS} {pt h : qM} {K : Int → qM → Prop} {v3 v4 v5 v6 : Int} (hst : St sh pt)
    (H : ((v3 < v6 → K 0 h) ∧ (v6 ≤ v3 → (qI (v4 + v6)) ∧ (0 ≤ (v4 + v6) ∧ (v4 + v6) < 1476) ∧ (qI (v5 + v6)) ∧ (0 ≤ (v5 + v6) ∧ (v5 + v6) < 1476) ∧ ((¬ (h 26 (v4 + v6)) = (h 26 (v5 + v6)) → ((v6 ≤ 0 → (qI (v6 + 1)) ∧ EvI X d mX3_meet 15 [(2, 19), (8, -1), (8, -1), (0, v3), (0, v4), (0, v5), (0, (v6 + 1))] [] sh pt h K) ∧ (0 < v6 → (qI (v4 + v6)) ∧ (0 ≤ (v4 + v6) ∧ (v4 + v6) < 1476) ∧ (qI (v5 + v6)) ∧ (qI ((v5 + v6) - 1)) ∧ (0 ≤ ((v5 + v6) - 1) ∧ ((v5 + v6) - 1) < 1476) ∧ ((¬ (h 26 (v4 + v6)) = (h 26 ((v5 + v6) - 1)) → (qI (v6 + 1)) ∧ EvI X d mX3_meet 15 [(2, 19), (8, -1), (8, -1), (0, v3), (0, v4), (0, v5), (0, (v6 + 1))] [] sh pt h K) ∧ ((h 26 (v4 + v6)) = (h 26 ((v5 + v6) - 1)) → (qI (v5 + v6)) ∧ (0 ≤ (v5 + v6) ∧ (v5 + v6) < 1476) ∧ (qI (v4 + v6)) ∧ (qI ((v4 + v6) - 1)) ∧ (0 ≤ ((v4 + v6) - 1) ∧ ((v4 + v6) - 1) < 1476) ∧ ((¬ (h 26 (v5 + v6)) = (h 26 ((v4 + v6) - 1)) → (qI (v6 + 1)) ∧ EvI X d mX3_meet 15 [(2, 19), (8, -1), (8, -1), (0, v3), (0, v4), (0, v5), (0, (v6 + 1))] [] sh pt h K) ∧ ((h 26 (v5 + v6)) = (h 26 ((v4 + v6) - 1)) → K 1 h))))))) ∧ ((h 26 (v4 + v6)) = (h 26 (v5 + v6)) → K 1 h))))) :
    EvI X d mX3_meet 15 [(2, 19), (8, -1), (8, -1), (0, v3), (0, v4), (0, v5), (0, v6)] [] sh pt h K := by
  show Ev X d 0 0 mX3_meet 15 [(2, 19), (8, -1), (8, -1), (0, v3), (0, v4), (0, v5), (0, v6)] [] (sh, pt, h) (qRI sh pt K)
  refine ev_iload 17 rfl dX3_meet_15 rfl ?_
  refine ev_iload_n 18 rfl dX3_meet_17 rfl rfl ?_
  refine ev_icmp_gt (tgt := 109) 21 rfl dX3_meet_18 (by decide) (fun cd => ?_) (fun cd => ?_)
  · have H := H.1 cd
    refine ev_iconst 110 rfl dX3_meet_109 (by decide) ?_
    exact ev_retZ dX3_meet_110 rfl (by decide) H
  · have H := H.2 cd
    refine ev_aload_n 22 rfl dX3_meet_21 rfl rfl ?_
    refine ev_getR (ki := 9) (v := 26) 25 rfl dX3_meet_22 lf_3_40 (s_19 hst) (by decide) rfl (p_19_9 hst) ?_
    refine ev_iload 27 rfl dX3_meet_25 rfl ?_
    refine ev_iload 29 rfl dX3_meet_27 rfl ?_
    obtain ⟨sd, H⟩ := H
    refine ev_iadd 30 rfl dX3_meet_29 sd ?_
    obtain ⟨b1, H⟩ := H
    refine ev_iaload 31 rfl dX3_meet_30 (s_26 hst) b1.1 b1.2 ?_
    refine ev_aload_n 32 rfl dX3_meet_31 rfl rfl ?_
    refine ev_getR (ki := 9) (v := 26) 35 rfl dX3_meet_32 lf_3_40 (s_19 hst) (by decide) rfl (p_19_9 hst) ?_
    refine ev_iload 37 rfl dX3_meet_35 rfl ?_
    refine ev_iload 39 rfl dX3_meet_37 rfl ?_
    obtain ⟨sd, H⟩ := H
    refine ev_iadd 40 rfl dX3_meet_39 sd ?_
    obtain ⟨b2, H⟩ := H
    refine ev_iaload 41 rfl dX3_meet_40 (s_26 hst) b2.1 b2.2 ?_
    refine ev_icmp_ne (tgt := 46) 44 rfl dX3_meet_41 (by decide) (fun cd => ?_) (fun cd => ?_)
    · have H := H.1 cd
      refine ev_iload 48 rfl dX3_meet_46 rfl ?_
      refine ev_if_le (tgt := 103) 51 rfl dX3_meet_48 (by decide) (fun cd => ?_) (fun cd => ?_)
      · have H := H.1 cd
        obtain ⟨sd, H⟩ := H
        refine ev_iinc (L1 := [(2, 19), (8, -1), (8, -1), (0, v3), (0, v4), (0, v5), (0, (v6 + 1))]) 106 rfl dX3_meet_103 rfl sd (Nat.le_of_ble_eq_true rfl) rfl ?_
        refine ev_goto (tgt := 15) dX3_meet_106 (by decide) ?_
        exact H
      · have H := H.2 cd
        refine ev_aload_n 52 rfl dX3_meet_51 rfl rfl ?_
        refine ev_getR (ki := 9) (v := 26) 55 rfl dX3_meet_52 lf_3_40 (s_19 hst) (by decide) rfl (p_19_9 hst) ?_
        refine ev_iload 57 rfl dX3_meet_55 rfl ?_
        refine ev_iload 59 rfl dX3_meet_57 rfl ?_
        obtain ⟨sd, H⟩ := H
        refine ev_iadd 60 rfl dX3_meet_59 sd ?_
        obtain ⟨b3, H⟩ := H
        refine ev_iaload 61 rfl dX3_meet_60 (s_26 hst) b3.1 b3.2 ?_
        refine ev_aload_n 62 rfl dX3_meet_61 rfl rfl ?_
        refine ev_getR (ki := 9) (v := 26) 65 rfl dX3_meet_62 lf_3_40 (s_19 hst) (by decide) rfl (p_19_9 hst) ?_
        refine ev_iload 67 rfl dX3_meet_65 rfl ?_
        refine ev_iload 69 rfl dX3_meet_67 rfl ?_
        obtain ⟨sd, H⟩ := H
        refine ev_iadd 70 rfl dX3_meet_69 sd ?_
        refine ev_iconst 71 rfl dX3_meet_70 (by decide) ?_
        obtain ⟨sd, H⟩ := H
        refine ev_isub 72 rfl dX3_meet_71 sd ?_
        obtain ⟨b4, H⟩ := H
        refine ev_iaload 73 rfl dX3_meet_72 (s_26 hst) b4.1 b4.2 ?_
        refine ev_icmp_ne (tgt := 103) 76 rfl dX3_meet_73 (by decide) (fun cd => ?_) (fun cd => ?_)
        · have H := H.1 cd
          obtain ⟨sd, H⟩ := H
          refine ev_iinc (L1 := [(2, 19), (8, -1), (8, -1), (0, v3), (0, v4), (0, v5), (0, (v6 + 1))]) 106 rfl dX3_meet_103 rfl sd (Nat.le_of_ble_eq_true rfl) rfl ?_
          refine ev_goto (tgt := 15) dX3_meet_106 (by decide) ?_
          exact H
        · have H := H.2 cd
          refine ev_aload_n 77 rfl dX3_meet_76 rfl rfl ?_
          refine ev_getR (ki := 9) (v := 26) 80 rfl dX3_meet_77 lf_3_40 (s_19 hst) (by decide) rfl (p_19_9 hst) ?_
          refine ev_iload 82 rfl dX3_meet_80 rfl ?_
          refine ev_iload 84 rfl dX3_meet_82 rfl ?_
          obtain ⟨sd, H⟩ := H
          refine ev_iadd 85 rfl dX3_meet_84 sd ?_
          obtain ⟨b5, H⟩ := H
          refine ev_iaload 86 rfl dX3_meet_85 (s_26 hst) b5.1 b5.2 ?_
          refine ev_aload_n 87 rfl dX3_meet_86 rfl rfl ?_
          refine ev_getR (ki := 9) (v := 26) 90 rfl dX3_meet_87 lf_3_40 (s_19 hst) (by decide) rfl (p_19_9 hst) ?_
          refine ev_iload 92 rfl dX3_meet_90 rfl ?_
          refine ev_iload 94 rfl dX3_meet_92 rfl ?_
          obtain ⟨sd, H⟩ := H
          refine ev_iadd 95 rfl dX3_meet_94 sd ?_
          refine ev_iconst 96 rfl dX3_meet_95 (by decide) ?_
          obtain ⟨sd, H⟩ := H
          refine ev_isub 97 rfl dX3_meet_96 sd ?_
          obtain ⟨b6, H⟩ := H
          refine ev_iaload 98 rfl dX3_meet_97 (s_26 hst) b6.1 b6.2 ?_
          refine ev_icmp_ne (tgt := 103) 101 rfl dX3_meet_98 (by decide) (fun cd => ?_) (fun cd => ?_)
          · have H := H.1 cd
            obtain ⟨sd, H⟩ := H
            refine ev_iinc (L1 := [(2, 19), (8, -1), (8, -1), (0, v3), (0, v4), (0, v5), (0, (v6 + 1))]) 106 rfl dX3_meet_103 rfl sd (Nat.le_of_ble_eq_true rfl) rfl ?_
            refine ev_goto (tgt := 15) dX3_meet_106 (by decide) ?_
            exact H
          · have H := H.2 cd
            refine ev_iconst 102 rfl dX3_meet_101 (by decide) ?_
            exact ev_retZ dX3_meet_102 rfl (by decide) H
    · have H := H.2 cd
      refine ev_iconst 45 rfl dX3_meet_44 (by decide) ?_
      exact ev_retZ dX3_meet_45 rfl (by decide) H

set_option maxRecDepth 20000 in
theorem b_X3_choose {X : qX} {d : Nat} {sh : qS} {pt h : qM} {K : qM → Prop} {v1 v2 v3 v4 : Int} (hst : St sh pt)
    (H : ((v1 < (h 19 11) → EvV X (d + 1) mX3_choose 19 [(2, 19), (0, v1), (0, v2), (0, v3), (0, v4), (0, 0), (8, -1)] [] sh pt h K) ∧ ((h 19 11) ≤ v1 → RunV X d mX3_keepIfBetter [(2, 19), (0, v3), (0, v4)] sh pt h (fun h1 => K h1)))) :
    RunV X (d + 1) mX3_choose [(2, 19), (0, v1), (0, v2), (0, v3), (0, v4)] sh pt h K := by
  show Ev X (d + 1) 0 0 mX3_choose 0 [(2, 19), (0, v1), (0, v2), (0, v3), (0, v4), (8, -1), (8, -1)] [] (sh, pt, h) (qRV sh pt K)
  refine ev_iload_n 1 rfl dX3_choose_0 rfl rfl ?_
  refine ev_aload_n 2 rfl dX3_choose_1 rfl rfl ?_
  refine ev_getI (ki := 11) 5 rfl dX3_choose_2 lf_3_47 (Or.inl rfl) (s_19 hst) (by decide) rfl ?_
  refine ev_icmp_lt (tgt := 16) 8 rfl dX3_choose_5 (by decide) (fun cd => ?_) (fun cd => ?_)
  · have H := H.1 cd
    refine ev_iconst 17 rfl dX3_choose_16 (by decide) ?_
    refine ev_istore (L1 := [(2, 19), (0, v1), (0, v2), (0, v3), (0, v4), (0, 0), (8, -1)]) 19 rfl dX3_choose_17 (Nat.le_of_ble_eq_true rfl) rfl ?_
    exact H
  · have H := H.2 cd
    refine ev_aload_n 9 rfl dX3_choose_8 rfl rfl ?_
    refine ev_iload_n 10 rfl dX3_choose_9 rfl rfl ?_
    refine ev_iload 12 rfl dX3_choose_10 rfl ?_
    refine ev_cVV (As := [(0, v3), (0, v4)]) (rest := []) 15 rfl dX3_choose_12 lm_3_106 mm_X3_keepIfBetter (s_19 hst) rfl rfl (Nat.le_of_ble_eq_true rfl) (Nat.le_of_ble_eq_true rfl) (Nat.le_refl _) H ?_
    intro h1 H
    exact ev_retV dX3_choose_15 rfl H

set_option maxRecDepth 20000 in
theorem b_X3_choose_19 {X : qX} {d : Nat} {sh : qS} {pt h : qM} {K : qM → Prop} {v1 v2 v3 v4 v5 : Int} (hst : St sh pt)
    (H : (((h 19 11) ≤ v5 → K h) ∧ (v5 < (h 19 11) → ((¬ (qiand (qiushr v2 v5) 1) = 0 → (qI (v5 + 1)) ∧ EvV X (d + 1) mX3_choose 19 [(2, 19), (0, v1), (0, v2), (0, v3), (0, v4), (0, (v5 + 1)), (8, -1)] [] sh pt h K) ∧ ((qiand (qiushr v2 v5) 1) = 0 → RunI X d mX3_isFree [(2, 19), (0, v1), (0, v5)] sh pt h (fun r2 h1 => ((r2 = 0 → (qI (v5 + 1)) ∧ EvV X (d + 1) mX3_choose 19 [(2, 19), (0, v1), (0, v2), (0, v3), (0, v4), (0, (v5 + 1)), (8, -1)] [] sh pt h1 K) ∧ (¬ r2 = 0 → (qI (v1 * 6)) ∧ (qI ((v1 * 6) + v5)) ∧ (0 ≤ ((v1 * 6) + v5) ∧ ((v1 * 6) + v5) < 36) ∧ (0 ≤ v1 ∧ v1 < 6) ∧ ∀ h5 : qM, h5 = qup h1 23 v1 v5 → (qI (v1 + 1)) ∧ RunI X d mJ9_max_7cf53 [(0, v3), (0, (h1 25 ((v1 * 6) + v5)))] sh pt h5 (fun r7 h6 => (qI (v4 + (h1 25 ((v1 * 6) + v5)))) ∧ RunV X d mX3_choose [(2, 19), (0, (v1 + 1)), (0, (qior v2 (qishl 1 v5))), (0, r7), (0, (v4 + (h1 25 ((v1 * 6) + v5))))] sh pt h6 (fun h8 => (qI (v5 + 1)) ∧ EvV X (d + 1) mX3_choose 19 [(2, 19), (0, v1), (0, v2), (0, v3), (0, v4), (0, (v5 + 1)), (8, -1)] [] sh pt h8 K)))))))))) :
    EvV X (d + 1) mX3_choose 19 [(2, 19), (0, v1), (0, v2), (0, v3), (0, v4), (0, v5), (8, -1)] [] sh pt h K := by
  show Ev X (d + 1) 0 0 mX3_choose 19 [(2, 19), (0, v1), (0, v2), (0, v3), (0, v4), (0, v5), (8, -1)] [] (sh, pt, h) (qRV sh pt K)
  refine ev_iload 21 rfl dX3_choose_19 rfl ?_
  refine ev_aload_n 22 rfl dX3_choose_21 rfl rfl ?_
  refine ev_getI (ki := 11) 25 rfl dX3_choose_22 lf_3_47 (Or.inl rfl) (s_19 hst) (by decide) rfl ?_
  refine ev_icmp_ge (tgt := 99) 28 rfl dX3_choose_25 (by decide) (fun cd => ?_) (fun cd => ?_)
  · have H := H.1 cd
    exact ev_retV dX3_choose_99 rfl H
  · have H := H.2 cd
    refine ev_iload_n 29 rfl dX3_choose_28 rfl rfl ?_
    refine ev_iload 31 rfl dX3_choose_29 rfl ?_
    refine ev_iushr 32 rfl dX3_choose_31 ?_
    refine ev_iconst 33 rfl dX3_choose_32 (by decide) ?_
    refine ev_iand 34 rfl dX3_choose_33 ?_
    refine ev_if_ne (tgt := 93) 37 rfl dX3_choose_34 (by decide) (fun cd => ?_) (fun cd => ?_)
    · have H := H.1 cd
      obtain ⟨sd, H⟩ := H
      refine ev_iinc (L1 := [(2, 19), (0, v1), (0, v2), (0, v3), (0, v4), (0, (v5 + 1)), (8, -1)]) 96 rfl dX3_choose_93 rfl sd (Nat.le_of_ble_eq_true rfl) rfl ?_
      refine ev_goto (tgt := 19) dX3_choose_96 (by decide) ?_
      exact H
    · have H := H.2 cd
      refine ev_aload_n 38 rfl dX3_choose_37 rfl rfl ?_
      refine ev_iload_n 39 rfl dX3_choose_38 rfl rfl ?_
      refine ev_iload 41 rfl dX3_choose_39 rfl ?_
      refine ev_cVI (As := [(0, v1), (0, v5)]) (rest := []) 44 rfl dX3_choose_41 lm_3_110 mm_X3_isFree (s_19 hst) rfl rfl (Nat.le_of_ble_eq_true rfl) (Nat.le_of_ble_eq_true rfl) (Nat.le_refl _) H ?_
      intro r2 h1 H
      refine ev_if_eq (tgt := 93) 47 rfl dX3_choose_44 (by decide) (fun cd => ?_) (fun cd => ?_)
      · have H := H.1 cd
        obtain ⟨sd, H⟩ := H
        refine ev_iinc (L1 := [(2, 19), (0, v1), (0, v2), (0, v3), (0, v4), (0, (v5 + 1)), (8, -1)]) 96 rfl dX3_choose_93 rfl sd (Nat.le_of_ble_eq_true rfl) rfl ?_
        refine ev_goto (tgt := 19) dX3_choose_96 (by decide) ?_
        exact H
      · have H := H.2 cd
        refine ev_aload_n 48 rfl dX3_choose_47 rfl rfl ?_
        refine ev_getR (ki := 8) (v := 25) 51 rfl dX3_choose_48 lf_3_37 (s_19 hst) (by decide) rfl (p_19_8 hst) ?_
        refine ev_iload_n 52 rfl dX3_choose_51 rfl rfl ?_
        refine ev_bipush 54 rfl dX3_choose_52 (by decide) (by decide) ?_
        obtain ⟨sd, H⟩ := H
        refine ev_imul 55 rfl dX3_choose_54 sd ?_
        refine ev_iload 57 rfl dX3_choose_55 rfl ?_
        obtain ⟨sd, H⟩ := H
        refine ev_iadd 58 rfl dX3_choose_57 sd ?_
        obtain ⟨b3, H⟩ := H
        refine ev_iaload 59 rfl dX3_choose_58 (s_25 hst) b3.1 b3.2 ?_
        refine ev_istore (L1 := [(2, 19), (0, v1), (0, v2), (0, v3), (0, v4), (0, v5), (0, (h1 25 ((v1 * 6) + v5)))]) 61 rfl dX3_choose_59 (Nat.le_of_ble_eq_true rfl) rfl ?_
        refine ev_aload_n 62 rfl dX3_choose_61 rfl rfl ?_
        refine ev_getR (ki := 6) (v := 23) 65 rfl dX3_choose_62 lf_3_31 (s_19 hst) (by decide) rfl (p_19_6 hst) ?_
        refine ev_iload_n 66 rfl dX3_choose_65 rfl rfl ?_
        refine ev_iload 68 rfl dX3_choose_66 rfl ?_
        obtain ⟨b4, H⟩ := H
        refine ev_iastore 69 rfl dX3_choose_68 (s_23 hst) b4.1 b4.2 ?_
        obtain ⟨h5, eh5⟩ : ∃ z : qM, z = qup h1 23 v1 v5 := ⟨_, rfl⟩
        rw [← eh5]
        have H := H h5 eh5
        refine ev_aload_n 70 rfl dX3_choose_69 rfl rfl ?_
        refine ev_iload_n 71 rfl dX3_choose_70 rfl rfl ?_
        refine ev_iconst 72 rfl dX3_choose_71 (by decide) ?_
        obtain ⟨sd, H⟩ := H
        refine ev_iadd 73 rfl dX3_choose_72 sd ?_
        refine ev_iload_n 74 rfl dX3_choose_73 rfl rfl ?_
        refine ev_iconst 75 rfl dX3_choose_74 (by decide) ?_
        refine ev_iload 77 rfl dX3_choose_75 rfl ?_
        refine ev_ishl 78 rfl dX3_choose_77 ?_
        refine ev_ior 79 rfl dX3_choose_78 ?_
        refine ev_iload_n 80 rfl dX3_choose_79 rfl rfl ?_
        refine ev_iload 82 rfl dX3_choose_80 rfl ?_
        refine ev_cSI (As := [(0, v3), (0, (h1 25 ((v1 * 6) + v5)))]) (rest := [(0, (qior v2 (qishl 1 v5))), (0, (v1 + 1)), (2, 19)]) 85 rfl dX3_choose_82 lm_3_114 mm_J9_max_7cf53 rfl rfl (Nat.le_of_ble_eq_true rfl) (Nat.le_of_ble_eq_true rfl) (Nat.le_refl _) H ?_
        intro r7 h6 H
        refine ev_iload 87 rfl dX3_choose_85 rfl ?_
        refine ev_iload 89 rfl dX3_choose_87 rfl ?_
        obtain ⟨sd, H⟩ := H
        refine ev_iadd 90 rfl dX3_choose_89 sd ?_
        refine ev_cVV (As := [(0, (v1 + 1)), (0, (qior v2 (qishl 1 v5))), (0, r7), (0, (v4 + (h1 25 ((v1 * 6) + v5))))]) (rest := []) 93 rfl dX3_choose_90 lm_3_76 mm_X3_choose (s_19 hst) rfl rfl (Nat.le_of_ble_eq_true rfl) (Nat.le_of_ble_eq_true rfl) (Nat.le_refl _) H ?_
        intro h8 H
        obtain ⟨sd, H⟩ := H
        refine ev_iinc (L1 := [(2, 19), (0, v1), (0, v2), (0, v3), (0, v4), (0, (v5 + 1)), (0, (h1 25 ((v1 * 6) + v5)))]) 96 rfl dX3_choose_93 rfl sd (Nat.le_of_ble_eq_true rfl) rfl ?_
        refine ev_goto (tgt := 19) dX3_choose_96 (by decide) ?_
        refine Ev.drop [6] rfl ?_
        exact H

set_option maxRecDepth 20000 in
theorem b_X3_isFree {X : qX} {d : Nat} {sh : qS} {pt h : qM} {K : Int → qM → Prop} {v1 v2 : Int} (hst : St sh pt)
    (H : (qI (v1 * 6)) ∧ (qI ((v1 * 6) + v2)) ∧ (qI (((v1 * 6) + v2) * 36)) ∧ EvI X d mX3_isFree 13 [(2, 19), (0, v1), (8, -1), (0, (((v1 * 6) + v2) * 36)), (0, 0)] [] sh pt h K) :
    RunI X d mX3_isFree [(2, 19), (0, v1), (0, v2)] sh pt h K := by
  show Ev X d 0 0 mX3_isFree 0 [(2, 19), (0, v1), (0, v2), (8, -1), (8, -1)] [] (sh, pt, h) (qRI sh pt K)
  refine ev_iload_n 1 rfl dX3_isFree_0 rfl rfl ?_
  refine ev_bipush 3 rfl dX3_isFree_1 (by decide) (by decide) ?_
  obtain ⟨sd, H⟩ := H
  refine ev_imul 4 rfl dX3_isFree_3 sd ?_
  refine ev_iload_n 5 rfl dX3_isFree_4 rfl rfl ?_
  obtain ⟨sd, H⟩ := H
  refine ev_iadd 6 rfl dX3_isFree_5 sd ?_
  refine ev_bipush 8 rfl dX3_isFree_6 (by decide) (by decide) ?_
  obtain ⟨sd, H⟩ := H
  refine ev_imul 9 rfl dX3_isFree_8 sd ?_
  refine ev_istore_n (L1 := [(2, 19), (0, v1), (0, v2), (0, (((v1 * 6) + v2) * 36)), (8, -1)]) 10 rfl dX3_isFree_9 rfl (Nat.le_of_ble_eq_true rfl) rfl ?_
  refine ev_iconst 11 rfl dX3_isFree_10 (by decide) ?_
  refine ev_istore (L1 := [(2, 19), (0, v1), (0, v2), (0, (((v1 * 6) + v2) * 36)), (0, 0)]) 13 rfl dX3_isFree_11 (Nat.le_of_ble_eq_true rfl) rfl ?_
  refine Ev.drop [2] rfl ?_
  exact H

set_option maxRecDepth 20000 in
theorem b_X3_isFree_13 {X : qX} {d : Nat} {sh : qS} {pt h : qM} {K : Int → qM → Prop} {v1 v3 v4 : Int} (hst : St sh pt)
    (H : ((v1 ≤ v4 → K 1 h) ∧ (v4 < v1 → (qI (v4 * 6)) ∧ (qI (v3 + (v4 * 6))) ∧ (0 ≤ v4 ∧ v4 < 6) ∧ (qI ((v3 + (v4 * 6)) + (h 23 v4))) ∧ (0 ≤ ((v3 + (v4 * 6)) + (h 23 v4)) ∧ ((v3 + (v4 * 6)) + (h 23 v4)) < 1296) ∧ (((h 27 ((v3 + (v4 * 6)) + (h 23 v4))) = 0 → (qI (v4 + 1)) ∧ EvI X d mX3_isFree 13 [(2, 19), (0, v1), (8, -1), (0, v3), (0, (v4 + 1))] [] sh pt h K) ∧ (¬ (h 27 ((v3 + (v4 * 6)) + (h 23 v4))) = 0 → K 0 h))))) :
    EvI X d mX3_isFree 13 [(2, 19), (0, v1), (8, -1), (0, v3), (0, v4)] [] sh pt h K := by
  show Ev X d 0 0 mX3_isFree 13 [(2, 19), (0, v1), (8, -1), (0, v3), (0, v4)] [] (sh, pt, h) (qRI sh pt K)
  refine ev_iload 15 rfl dX3_isFree_13 rfl ?_
  refine ev_iload_n 16 rfl dX3_isFree_15 rfl rfl ?_
  refine ev_icmp_ge (tgt := 50) 19 rfl dX3_isFree_16 (by decide) (fun cd => ?_) (fun cd => ?_)
  · have H := H.1 cd
    refine ev_iconst 51 rfl dX3_isFree_50 (by decide) ?_
    exact ev_retZ dX3_isFree_51 rfl (by decide) H
  · have H := H.2 cd
    refine ev_aload_n 20 rfl dX3_isFree_19 rfl rfl ?_
    refine ev_getR (ki := 10) (v := 27) 23 rfl dX3_isFree_20 lf_3_43 (s_19 hst) (by decide) rfl (p_19_10 hst) ?_
    refine ev_iload_n 24 rfl dX3_isFree_23 rfl rfl ?_
    refine ev_iload 26 rfl dX3_isFree_24 rfl ?_
    refine ev_bipush 28 rfl dX3_isFree_26 (by decide) (by decide) ?_
    obtain ⟨sd, H⟩ := H
    refine ev_imul 29 rfl dX3_isFree_28 sd ?_
    obtain ⟨sd, H⟩ := H
    refine ev_iadd 30 rfl dX3_isFree_29 sd ?_
    refine ev_aload_n 31 rfl dX3_isFree_30 rfl rfl ?_
    refine ev_getR (ki := 6) (v := 23) 34 rfl dX3_isFree_31 lf_3_31 (s_19 hst) (by decide) rfl (p_19_6 hst) ?_
    refine ev_iload 36 rfl dX3_isFree_34 rfl ?_
    obtain ⟨b1, H⟩ := H
    refine ev_iaload 37 rfl dX3_isFree_36 (s_23 hst) b1.1 b1.2 ?_
    obtain ⟨sd, H⟩ := H
    refine ev_iadd 38 rfl dX3_isFree_37 sd ?_
    obtain ⟨b2, H⟩ := H
    refine ev_zaload 39 rfl dX3_isFree_38 (s_27 hst) b2.1 b2.2 ?_
    refine ev_if_eq (tgt := 44) 42 rfl dX3_isFree_39 (by decide) (fun cd => ?_) (fun cd => ?_)
    · have H := H.1 cd
      obtain ⟨sd, H⟩ := H
      refine ev_iinc (L1 := [(2, 19), (0, v1), (8, -1), (0, v3), (0, (v4 + 1))]) 47 rfl dX3_isFree_44 rfl sd (Nat.le_of_ble_eq_true rfl) rfl ?_
      refine ev_goto (tgt := 13) dX3_isFree_47 (by decide) ?_
      exact H
    · have H := H.2 cd
      refine ev_iconst 43 rfl dX3_isFree_42 (by decide) ?_
      exact ev_retZ dX3_isFree_43 rfl (by decide) H

set_option maxRecDepth 20000 in
theorem b_X3_keepIfBetter {X : qX} {d : Nat} {sh : qS} {pt h : qM} {K : qM → Prop} {v1 v2 : Int} (hst : St sh pt)
    (H : (((h 19 12) = (-1) → EvV X (d + 1) mX3_keepIfBetter 37 [(2, 19), (0, v1), (0, v2), (8, -1)] [(0, 1)] sh pt h K) ∧ (¬ (h 19 12) = (-1) → ((v1 < (h 19 12) → EvV X (d + 1) mX3_keepIfBetter 37 [(2, 19), (0, v1), (0, v2), (8, -1)] [(0, 1)] sh pt h K) ∧ ((h 19 12) ≤ v1 → ((¬ v1 = (h 19 12) → EvV X (d + 1) mX3_keepIfBetter 37 [(2, 19), (0, v1), (0, v2), (8, -1)] [(0, 0)] sh pt h K) ∧ (v1 = (h 19 12) → (((h 19 13) ≤ v2 → EvV X (d + 1) mX3_keepIfBetter 37 [(2, 19), (0, v1), (0, v2), (8, -1)] [(0, 0)] sh pt h K) ∧ (v2 < (h 19 13) → EvV X (d + 1) mX3_keepIfBetter 37 [(2, 19), (0, v1), (0, v2), (8, -1)] [(0, 1)] sh pt h K))))))))) :
    RunV X (d + 1) mX3_keepIfBetter [(2, 19), (0, v1), (0, v2)] sh pt h K := by
  show Ev X (d + 1) 0 0 mX3_keepIfBetter 0 [(2, 19), (0, v1), (0, v2), (8, -1)] [] (sh, pt, h) (qRV sh pt K)
  refine ev_aload_n 1 rfl dX3_keepIfBetter_0 rfl rfl ?_
  refine ev_getI (ki := 12) 4 rfl dX3_keepIfBetter_1 lf_3_50 (Or.inl rfl) (s_19 hst) (by decide) rfl ?_
  refine ev_iconst 5 rfl dX3_keepIfBetter_4 (by decide) ?_
  refine ev_icmp_eq (tgt := 32) 8 rfl dX3_keepIfBetter_5 (by decide) (fun cd => ?_) (fun cd => ?_)
  · have H := H.1 cd
    refine ev_iconst 33 rfl dX3_keepIfBetter_32 (by decide) ?_
    refine ev_goto (tgt := 37) dX3_keepIfBetter_33 (by decide) ?_
    exact H
  · have H := H.2 cd
    refine ev_iload_n 9 rfl dX3_keepIfBetter_8 rfl rfl ?_
    refine ev_aload_n 10 rfl dX3_keepIfBetter_9 rfl rfl ?_
    refine ev_getI (ki := 12) 13 rfl dX3_keepIfBetter_10 lf_3_50 (Or.inl rfl) (s_19 hst) (by decide) rfl ?_
    refine ev_icmp_lt (tgt := 32) 16 rfl dX3_keepIfBetter_13 (by decide) (fun cd => ?_) (fun cd => ?_)
    · have H := H.1 cd
      refine ev_iconst 33 rfl dX3_keepIfBetter_32 (by decide) ?_
      refine ev_goto (tgt := 37) dX3_keepIfBetter_33 (by decide) ?_
      exact H
    · have H := H.2 cd
      refine ev_iload_n 17 rfl dX3_keepIfBetter_16 rfl rfl ?_
      refine ev_aload_n 18 rfl dX3_keepIfBetter_17 rfl rfl ?_
      refine ev_getI (ki := 12) 21 rfl dX3_keepIfBetter_18 lf_3_50 (Or.inl rfl) (s_19 hst) (by decide) rfl ?_
      refine ev_icmp_ne (tgt := 36) 24 rfl dX3_keepIfBetter_21 (by decide) (fun cd => ?_) (fun cd => ?_)
      · have H := H.1 cd
        refine ev_iconst 37 rfl dX3_keepIfBetter_36 (by decide) ?_
        exact H
      · have H := H.2 cd
        refine ev_iload_n 25 rfl dX3_keepIfBetter_24 rfl rfl ?_
        refine ev_aload_n 26 rfl dX3_keepIfBetter_25 rfl rfl ?_
        refine ev_getI (ki := 13) 29 rfl dX3_keepIfBetter_26 lf_3_53 (Or.inl rfl) (s_19 hst) (by decide) rfl ?_
        refine ev_icmp_ge (tgt := 36) 32 rfl dX3_keepIfBetter_29 (by decide) (fun cd => ?_) (fun cd => ?_)
        · have H := H.1 cd
          refine ev_iconst 37 rfl dX3_keepIfBetter_36 (by decide) ?_
          exact H
        · have H := H.2 cd
          refine ev_iconst 33 rfl dX3_keepIfBetter_32 (by decide) ?_
          refine ev_goto (tgt := 37) dX3_keepIfBetter_33 (by decide) ?_
          exact H

set_option maxRecDepth 20000 in
theorem b_X3_keepIfBetter_37 {X : qX} {d : Nat} {sh : qS} {pt h : qM} {K : qM → Prop} {v1 v2 u0 : Int} (hst : St sh pt)
    (H : ((u0 = 0 → K h) ∧ (¬ u0 = 0 → ∀ h1 : qM, h1 = qup h 19 12 v1 → ∀ h2 : qM, h2 = qup h1 19 13 v2 → ((0 : Int) ≤ 0 ∧ (0 : Int) ≤ 0 ∧ (0 : Int) ≤ (h2 19 11) ∧ 0 + (h2 19 11) ≤ (6 : Int) ∧ 0 + (h2 19 11) ≤ (6 : Int)) ∧ ∀ h3 : qM, h3 = qcp h2 23 0 24 0 (h2 19 11) → K h3))) :
    EvV X (d + 1) mX3_keepIfBetter 37 [(2, 19), (0, v1), (0, v2), (8, -1)] [(0, u0)] sh pt h K := by
  show Ev X (d + 1) 0 0 mX3_keepIfBetter 37 [(2, 19), (0, v1), (0, v2), (8, -1)] [(0, u0)] (sh, pt, h) (qRV sh pt K)
  refine ev_istore_n (L1 := [(2, 19), (0, v1), (0, v2), (0, u0)]) 38 rfl dX3_keepIfBetter_37 rfl (Nat.le_of_ble_eq_true rfl) rfl ?_
  refine ev_iload_n 39 rfl dX3_keepIfBetter_38 rfl rfl ?_
  refine ev_if_eq (tgt := 69) 42 rfl dX3_keepIfBetter_39 (by decide) (fun cd => ?_) (fun cd => ?_)
  · have H := H.1 cd
    exact ev_retV dX3_keepIfBetter_69 rfl H
  · have H := H.2 cd
    refine ev_aload_n 43 rfl dX3_keepIfBetter_42 rfl rfl ?_
    refine ev_iload_n 44 rfl dX3_keepIfBetter_43 rfl rfl ?_
    refine ev_putI (ki := 12) 47 rfl dX3_keepIfBetter_44 lf_3_50 (Or.inl rfl) (s_19 hst) (by decide) rfl ?_
    obtain ⟨h1, eh1⟩ : ∃ z : qM, z = qup h 19 12 v1 := ⟨_, rfl⟩
    rw [← eh1]
    have H := H h1 eh1
    refine ev_aload_n 48 rfl dX3_keepIfBetter_47 rfl rfl ?_
    refine ev_iload_n 49 rfl dX3_keepIfBetter_48 rfl rfl ?_
    refine ev_putI (ki := 13) 52 rfl dX3_keepIfBetter_49 lf_3_53 (Or.inl rfl) (s_19 hst) (by decide) rfl ?_
    obtain ⟨h2, eh2⟩ : ∃ z : qM, z = qup h1 19 13 v2 := ⟨_, rfl⟩
    rw [← eh2]
    have H := H h2 eh2
    refine ev_aload_n 53 rfl dX3_keepIfBetter_52 rfl rfl ?_
    refine ev_getR (ki := 6) (v := 23) 56 rfl dX3_keepIfBetter_53 lf_3_31 (s_19 hst) (by decide) rfl (p_19_6 hst) ?_
    refine ev_iconst 57 rfl dX3_keepIfBetter_56 (by decide) ?_
    refine ev_aload_n 58 rfl dX3_keepIfBetter_57 rfl rfl ?_
    refine ev_getR (ki := 7) (v := 24) 61 rfl dX3_keepIfBetter_58 lf_3_34 (s_19 hst) (by decide) rfl (p_19_7 hst) ?_
    refine ev_iconst 62 rfl dX3_keepIfBetter_61 (by decide) ?_
    refine ev_aload_n 63 rfl dX3_keepIfBetter_62 rfl rfl ?_
    refine ev_getI (ki := 11) 66 rfl dX3_keepIfBetter_63 lf_3_47 (Or.inl rfl) (s_19 hst) (by decide) rfl ?_
    obtain ⟨sd, H⟩ := H
    refine ev_copyI 69 rfl dX3_keepIfBetter_66 la_3_80 (s_23 hst) (s_24 hst) sd.1 sd.2.1 sd.2.2.1 sd.2.2.2.1 sd.2.2.2.2 (Nat.le_of_ble_eq_true rfl) (Nat.succ_le_succ (Nat.zero_le _)) ?_
    obtain ⟨h3, eh3⟩ : ∃ z : qM, z = qcp h2 23 0 24 0 (h2 19 11) := ⟨_, rfl⟩
    rw [← eh3]
    have H := H h3 eh3
    exact ev_retV dX3_keepIfBetter_69 rfl H
