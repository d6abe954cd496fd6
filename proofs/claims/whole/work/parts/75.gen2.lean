set_option maxRecDepth 20000 in
theorem c_X9_makeRows {X : qX} {d rc rs : Nat} {sh : qS} {pt h : qM} {Q : Option qV → qG → Prop} (hst : St sh pt)
    (H : (((pt 28 3) = -1 → Ev X (d + 1) rc rs mX9_makeRows 21 [(2, 28)] [] (sh, pt, h) Q) ∧ (¬ (pt 28 3) = -1 → (((pt 28 4) = -1 → Ev X (d + 1) rc rs mX9_makeRows 21 [(2, 28)] [] (sh, pt, h) Q) ∧ (¬ (pt 28 4) = -1 → ((¬ (pt 28 1) = -1 → Q none (sh, pt, h)) ∧ ((pt 28 1) = -1 → Ev X (d + 1) rc rs mX9_makeRows 21 [(2, 28)] [] (sh, pt, h) Q))))))) :
    Ev X (d + 1) rc rs mX9_makeRows 0 [(2, 28)] [] (sh, pt, h) Q := by
  refine ev_aload_n 1 rfl dX9_makeRows_0 rfl rfl ?_
  refine ev_getR (ki := 3) (v := (pt 28 3)) 4 rfl dX9_makeRows_1 lf_9_25 (s_28 hst) (by decide) rfl rfl ?_
  refine ev_ifnull (tgt := 21) 7 rfl dX9_makeRows_4 (by decide) (fun cd => ?_) (fun cd => ?_)
  · have H := H.1 cd
    exact H
  · have H := H.2 cd
    refine ev_aload_n 8 rfl dX9_makeRows_7 rfl rfl ?_
    refine ev_getR (ki := 4) (v := (pt 28 4)) 11 rfl dX9_makeRows_8 lf_9_28 (s_28 hst) (by decide) rfl rfl ?_
    refine ev_ifnull (tgt := 21) 14 rfl dX9_makeRows_11 (by decide) (fun cd => ?_) (fun cd => ?_)
    · have H := H.1 cd
      exact H
    · have H := H.2 cd
      refine ev_aload_n 15 rfl dX9_makeRows_14 rfl rfl ?_
      refine ev_getR (ki := 1) (v := (pt 28 1)) 18 rfl dX9_makeRows_15 lf_9_17 (s_28 hst) (by decide) rfl rfl ?_
      refine ev_ifnonnull (tgt := 48) 21 rfl dX9_makeRows_18 (by decide) (fun cd => ?_) (fun cd => ?_)
      · have H := H.1 cd
        exact ev_return dX9_makeRows_48 rfl H
      · have H := H.2 cd
        exact H

set_option maxRecDepth 20000 in
theorem c_X10_orders {X : qX} {d rc rs : Nat} {sh : qS} {pt h : qM} {Q : Option qV → qG → Prop} {v1 : Int} (hst : St sh pt) {t : Int} {ts : Int} (e8 : pt 0 8 = t) (ht : isT t) (e9 : pt 0 9 = ts) (hts : isT ts)
    (H : ((v1 < 0 → RunI X d mX10_none [(2, 0), (0, 5)] sh pt h (fun r2 h1 => Q (some (0, r2)) (sh, pt, h1))) ∧ (0 ≤ v1 → ((v1 ≤ (h 9 1) → RunV X d mX4_readText [(2, 9), (0, v1), (2, ts), (2, 2)] sh pt h (fun h3 => ∀ h4 : qM, h4 = qup h3 9 1 0 → ∀ h5 : qM, h5 = qup h4 0 13 (h4 9 2) → ∀ h6 : qM, h6 = qup h5 0 14 (h5 9 3) → (((h6 0 13) = 0 → Ev X (d + 1) rc rs mX10_orders 91 [(2, 0), (8, -1), (2, t)] [(2, ts), (2, 0)] (sh, pt, h6) Q) ∧ (¬ (h6 0 13) = 0 → RunI X d mX10_none [(2, 0), (0, 10)] sh pt h6 (fun r8 h7 => Q (some (0, r8)) (sh, pt, h7)))))) ∧ ((h 9 1) < v1 → RunI X d mX10_none [(2, 0), (0, 5)] sh pt h (fun r10 h9 => Q (some (0, r10)) (sh, pt, h9))))))) :
    Ev X (d + 1) rc rs mX10_orders 0 [(2, 0), (0, v1), (8, -1)] [] (sh, pt, h) Q := by
  refine ev_iload_n 1 rfl dX10_orders_0 rfl rfl ?_
  refine ev_if_lt (tgt := 15) 4 rfl dX10_orders_1 (by decide) (fun cd => ?_) (fun cd => ?_)
  · have H := H.1 cd
    refine ev_aload_n 16 rfl dX10_orders_15 rfl rfl ?_
    refine ev_iconst 17 rfl dX10_orders_16 (by decide) ?_
    refine ev_cVI (As := [(0, 5)]) (rest := []) 20 rfl dX10_orders_17 lm_10_124 mm_X10_none (s_0 hst) rfl rfl (Nat.le_of_ble_eq_true rfl) (Nat.le_of_ble_eq_true rfl) (Nat.le_refl _) H ?_
    intro r2 h1 H
    exact ev_ireturn dX10_orders_20 (Or.inl rfl) H
  · have H := H.2 cd
    refine ev_iload_n 5 rfl dX10_orders_4 rfl rfl ?_
    refine ev_aload_n 6 rfl dX10_orders_5 rfl rfl ?_
    refine ev_getR (ki := 2) (v := 9) 9 rfl dX10_orders_6 lf_10_25 (s_0 hst) (by decide) rfl (p_0_2 hst) ?_
    refine ev_getI (ki := 1) 12 rfl dX10_orders_9 lf_10_202 (Or.inl rfl) (s_9 hst) (by decide) rfl ?_
    refine ev_icmp_le (tgt := 21) 15 rfl dX10_orders_12 (by decide) (fun cd => ?_) (fun cd => ?_)
    · have H := H.1 cd
      refine ev_aload_n 22 rfl dX10_orders_21 rfl rfl ?_
      refine ev_getR (ki := 2) (v := 9) 25 rfl dX10_orders_22 lf_10_25 (s_0 hst) (by decide) rfl (p_0_2 hst) ?_
      refine ev_iload_n 26 rfl dX10_orders_25 rfl rfl ?_
      refine ev_aload_n 27 rfl dX10_orders_26 rfl rfl ?_
      refine ev_getR (ki := 9) (v := ts) 30 rfl dX10_orders_27 lf_10_71 (s_0 hst) (by decide) rfl e9 ?_
      refine ev_aload_n 31 rfl dX10_orders_30 rfl rfl ?_
      refine ev_getR (ki := 1) (v := 2) 34 rfl dX10_orders_31 lf_10_18 (s_0 hst) (by decide) rfl (p_0_1 hst) ?_
      refine ev_cVV (As := [(0, v1), (2, ts), (2, 2)]) (rest := []) 37 rfl dX10_orders_34 lm_10_205 mm_X4_readText (s_9 hst) rfl rfl (Nat.le_of_ble_eq_true rfl) (Nat.le_of_ble_eq_true rfl) (Nat.le_refl _) H ?_
      intro h3 H
      refine ev_aload_n 38 rfl dX10_orders_37 rfl rfl ?_
      refine ev_getR (ki := 2) (v := 9) 41 rfl dX10_orders_38 lf_10_25 (s_0 hst) (by decide) rfl (p_0_2 hst) ?_
      refine ev_iconst 42 rfl dX10_orders_41 (by decide) ?_
      refine ev_putI (ki := 1) 45 rfl dX10_orders_42 lf_10_202 (Or.inl rfl) (s_9 hst) (by decide) rfl ?_
      obtain ⟨h4, eh4⟩ : ∃ z : qM, z = qup h3 9 1 0 := ⟨_, rfl⟩
      rw [← eh4]
      have H := H h4 eh4
      refine ev_aload_n 46 rfl dX10_orders_45 rfl rfl ?_
      refine ev_aload_n 47 rfl dX10_orders_46 rfl rfl ?_
      refine ev_getR (ki := 2) (v := 9) 50 rfl dX10_orders_47 lf_10_25 (s_0 hst) (by decide) rfl (p_0_2 hst) ?_
      refine ev_getI (ki := 2) 53 rfl dX10_orders_50 lf_10_209 (Or.inl rfl) (s_9 hst) (by decide) rfl ?_
      refine ev_putI (ki := 13) 56 rfl dX10_orders_53 lf_10_88 (Or.inl rfl) (s_0 hst) (by decide) rfl ?_
      obtain ⟨h5, eh5⟩ : ∃ z : qM, z = qup h4 0 13 (h4 9 2) := ⟨_, rfl⟩
      rw [← eh5]
      have H := H h5 eh5
      refine ev_aload_n 57 rfl dX10_orders_56 rfl rfl ?_
      refine ev_aload_n 58 rfl dX10_orders_57 rfl rfl ?_
      refine ev_getR (ki := 2) (v := 9) 61 rfl dX10_orders_58 lf_10_25 (s_0 hst) (by decide) rfl (p_0_2 hst) ?_
      refine ev_getI (ki := 3) 64 rfl dX10_orders_61 lf_10_210 (Or.inl rfl) (s_9 hst) (by decide) rfl ?_
      refine ev_putI (ki := 14) 67 rfl dX10_orders_64 lf_10_91 (Or.inl rfl) (s_0 hst) (by decide) rfl ?_
      obtain ⟨h6, eh6⟩ : ∃ z : qM, z = qup h5 0 14 (h5 9 3) := ⟨_, rfl⟩
      rw [← eh6]
      have H := H h6 eh6
      refine ev_aload_n 68 rfl dX10_orders_67 rfl rfl ?_
      refine ev_getI (ki := 13) 71 rfl dX10_orders_68 lf_10_88 (Or.inl rfl) (s_0 hst) (by decide) rfl ?_
      refine ev_if_eq (tgt := 81) 74 rfl dX10_orders_71 (by decide) (fun cd => ?_) (fun cd => ?_)
      · have H := H.1 cd
        refine ev_aload_n 82 rfl dX10_orders_81 rfl rfl ?_
        refine ev_getR (ki := 8) (v := t) 85 rfl dX10_orders_82 lf_10_67 (s_0 hst) (by decide) rfl e8 ?_
        refine ev_astore_n (L1 := [(2, 0), (0, v1), (2, t)]) 86 rfl dX10_orders_85 rfl (Nat.le_of_ble_eq_true rfl) rfl ?_
        refine ev_aload_n 87 rfl dX10_orders_86 rfl rfl ?_
        refine ev_aload_n 88 rfl dX10_orders_87 rfl rfl ?_
        refine ev_getR (ki := 9) (v := ts) 91 rfl dX10_orders_88 lf_10_71 (s_0 hst) (by decide) rfl e9 ?_
        refine Ev.drop [1] rfl ?_
        exact H
      · have H := H.2 cd
        refine ev_aload_n 75 rfl dX10_orders_74 rfl rfl ?_
        refine ev_bipush 77 rfl dX10_orders_75 (by decide) (by decide) ?_
        refine ev_cVI (As := [(0, 10)]) (rest := []) 80 rfl dX10_orders_77 lm_10_124 mm_X10_none (s_0 hst) rfl rfl (Nat.le_of_ble_eq_true rfl) (Nat.le_of_ble_eq_true rfl) (Nat.le_refl _) H ?_
        intro r8 h7 H
        exact ev_ireturn dX10_orders_80 (Or.inl rfl) H
    · have H := H.2 cd
      refine ev_aload_n 16 rfl dX10_orders_15 rfl rfl ?_
      refine ev_iconst 17 rfl dX10_orders_16 (by decide) ?_
      refine ev_cVI (As := [(0, 5)]) (rest := []) 20 rfl dX10_orders_17 lm_10_124 mm_X10_none (s_0 hst) rfl rfl (Nat.le_of_ble_eq_true rfl) (Nat.le_of_ble_eq_true rfl) (Nat.le_refl _) H ?_
      intro r10 h9 H
      exact ev_ireturn dX10_orders_20 (Or.inl rfl) H

set_option maxRecDepth 20000 in
theorem c_X10_run {X : qX} {d rc rs : Nat} {sh : qS} {pt h : qM} {Q : Option qV → qG → Prop} (hst : St sh pt) {c : Int} {cs : Int} {t : Int} (e10 : pt 0 10 = c) (hc : isC c) (e11 : pt 0 11 = cs) (hcs : isC cs) (e8 : pt 0 8 = t) (ht : isT t)
    (H : ((¬ (h t 10) = 0 → RunV X d mX1_stepThrough [(2, 12), (2, t), (2, 2), (2, cs)] sh pt h (fun h1 => ∀ h2 : qM, h2 = qup h1 0 15 (h1 12 0) → ∀ h3 : qM, h3 = qup h2 0 16 (h2 12 1) → (((h3 0 15) = 0 → Ev X (d + 1) rc rs mX10_run 82 [(2, 0), (2, c)] [(2, cs), (2, 0)] (sh, pt, h3) Q) ∧ (¬ (h3 0 15) = 0 → RunI X d mX10_none [(2, 0), (0, 10)] sh pt h3 (fun r5 h4 => Q (some (0, r5)) (sh, pt, h4)))))) ∧ ((h t 10) = 0 → RunI X d mX10_none [(2, 0), (0, 8)] sh pt h (fun r7 h6 => Q (some (0, r7)) (sh, pt, h6))))) :
    Ev X (d + 1) rc rs mX10_run 0 [(2, 0), (8, -1)] [] (sh, pt, h) Q := by
  refine ev_aload_n 1 rfl dX10_run_0 rfl rfl ?_
  refine ev_getR (ki := 8) (v := t) 4 rfl dX10_run_1 lf_10_67 (s_0 hst) (by decide) rfl e8 ?_
  refine ev_getI (ki := 10) 7 rfl dX10_run_4 lf_10_214 (Or.inr rfl) (sT hst ht) (by decide) rfl ?_
  refine ev_if_ne (tgt := 17) 10 rfl dX10_run_7 (by decide) (fun cd => ?_) (fun cd => ?_)
  · have H := H.1 cd
    refine ev_aload_n 18 rfl dX10_run_17 rfl rfl ?_
    refine ev_getR (ki := 3) (v := 12) 21 rfl dX10_run_18 lf_10_32 (s_0 hst) (by decide) rfl (p_0_3 hst) ?_
    refine ev_aload_n 22 rfl dX10_run_21 rfl rfl ?_
    refine ev_getR (ki := 8) (v := t) 25 rfl dX10_run_22 lf_10_67 (s_0 hst) (by decide) rfl e8 ?_
    refine ev_aload_n 26 rfl dX10_run_25 rfl rfl ?_
    refine ev_getR (ki := 1) (v := 2) 29 rfl dX10_run_26 lf_10_18 (s_0 hst) (by decide) rfl (p_0_1 hst) ?_
    refine ev_aload_n 30 rfl dX10_run_29 rfl rfl ?_
    refine ev_getR (ki := 11) (v := cs) 33 rfl dX10_run_30 lf_10_81 (s_0 hst) (by decide) rfl e11 ?_
    refine ev_cVV (As := [(2, t), (2, 2), (2, cs)]) (rest := []) 36 rfl dX10_run_33 lm_10_217 mm_X1_stepThrough (s_12 hst) rfl rfl (Nat.le_of_ble_eq_true rfl) (Nat.le_of_ble_eq_true rfl) (Nat.le_refl _) H ?_
    intro h1 H
    refine ev_aload_n 37 rfl dX10_run_36 rfl rfl ?_
    refine ev_aload_n 38 rfl dX10_run_37 rfl rfl ?_
    refine ev_getR (ki := 3) (v := 12) 41 rfl dX10_run_38 lf_10_32 (s_0 hst) (by decide) rfl (p_0_3 hst) ?_
    refine ev_getI (ki := 0) 44 rfl dX10_run_41 lf_10_221 (Or.inl rfl) (s_12 hst) (by decide) rfl ?_
    refine ev_putI (ki := 15) 47 rfl dX10_run_44 lf_10_94 (Or.inl rfl) (s_0 hst) (by decide) rfl ?_
    obtain ⟨h2, eh2⟩ : ∃ z : qM, z = qup h1 0 15 (h1 12 0) := ⟨_, rfl⟩
    rw [← eh2]
    have H := H h2 eh2
    refine ev_aload_n 48 rfl dX10_run_47 rfl rfl ?_
    refine ev_aload_n 49 rfl dX10_run_48 rfl rfl ?_
    refine ev_getR (ki := 3) (v := 12) 52 rfl dX10_run_49 lf_10_32 (s_0 hst) (by decide) rfl (p_0_3 hst) ?_
    refine ev_getI (ki := 1) 55 rfl dX10_run_52 lf_10_222 (Or.inl rfl) (s_12 hst) (by decide) rfl ?_
    refine ev_putI (ki := 16) 58 rfl dX10_run_55 lf_10_97 (Or.inl rfl) (s_0 hst) (by decide) rfl ?_
    obtain ⟨h3, eh3⟩ : ∃ z : qM, z = qup h2 0 16 (h2 12 1) := ⟨_, rfl⟩
    rw [← eh3]
    have H := H h3 eh3
    refine ev_aload_n 59 rfl dX10_run_58 rfl rfl ?_
    refine ev_getI (ki := 15) 62 rfl dX10_run_59 lf_10_94 (Or.inl rfl) (s_0 hst) (by decide) rfl ?_
    refine ev_if_eq (tgt := 72) 65 rfl dX10_run_62 (by decide) (fun cd => ?_) (fun cd => ?_)
    · have H := H.1 cd
      refine ev_aload_n 73 rfl dX10_run_72 rfl rfl ?_
      refine ev_getR (ki := 10) (v := c) 76 rfl dX10_run_73 lf_10_77 (s_0 hst) (by decide) rfl e10 ?_
      refine ev_astore_n (L1 := [(2, 0), (2, c)]) 77 rfl dX10_run_76 rfl (Nat.le_of_ble_eq_true rfl) rfl ?_
      refine ev_aload_n 78 rfl dX10_run_77 rfl rfl ?_
      refine ev_aload_n 79 rfl dX10_run_78 rfl rfl ?_
      refine ev_getR (ki := 11) (v := cs) 82 rfl dX10_run_79 lf_10_81 (s_0 hst) (by decide) rfl e11 ?_
      exact H
    · have H := H.2 cd
      refine ev_aload_n 66 rfl dX10_run_65 rfl rfl ?_
      refine ev_bipush 68 rfl dX10_run_66 (by decide) (by decide) ?_
      refine ev_cVI (As := [(0, 10)]) (rest := []) 71 rfl dX10_run_68 lm_10_124 mm_X10_none (s_0 hst) rfl rfl (Nat.le_of_ble_eq_true rfl) (Nat.le_of_ble_eq_true rfl) (Nat.le_refl _) H ?_
      intro r5 h4 H
      exact ev_ireturn dX10_run_71 (Or.inl rfl) H
  · have H := H.2 cd
    refine ev_aload_n 11 rfl dX10_run_10 rfl rfl ?_
    refine ev_bipush 13 rfl dX10_run_11 (by decide) (by decide) ?_
    refine ev_cVI (As := [(0, 8)]) (rest := []) 16 rfl dX10_run_13 lm_10_124 mm_X10_none (s_0 hst) rfl rfl (Nat.le_of_ble_eq_true rfl) (Nat.le_of_ble_eq_true rfl) (Nat.le_refl _) H ?_
    intro r7 h6 H
    exact ev_ireturn dX10_run_16 (Or.inl rfl) H
