set_option maxRecDepth 20000 in
theorem b_X9_moveAt {X : qX} {d : Nat} {sh : qS} {pt h : qM} {K : Int → qM → Prop} {v1 : Int} (hst : St sh pt)
    (H : (((pt 28 1) = -1 → K (-1) h) ∧ (¬ (pt 28 1) = -1 → ((v1 < 0 → K (-1) h) ∧ (0 ≤ v1 → ((v1 < (h 28 0) → ∃ n1 : Int, qsh sh (pt 28 1) = some (2, n1) ∧ (0 ≤ v1 ∧ v1 < n1) ∧ K (h (pt 28 1) v1) h) ∧ ((h 28 0) ≤ v1 → K (-1) h))))))) :
    RunI X d mX9_moveAt [(2, 28), (0, v1)] sh pt h K := by
  show Ev X d 0 0 mX9_moveAt 0 [(2, 28), (0, v1)] [] (sh, pt, h) (qRI sh pt K)
  refine ev_aload_n 1 rfl dX9_moveAt_0 rfl rfl ?_
  refine ev_getR (ki := 1) (v := (pt 28 1)) 4 rfl dX9_moveAt_1 lf_9_17 (s_28 hst) (by decide) rfl rfl ?_
  refine ev_ifnull (tgt := 19) 7 rfl dX9_moveAt_4 (by decide) (fun cd => ?_) (fun cd => ?_)
  · have H := H.1 cd
    refine ev_iconst 20 rfl dX9_moveAt_19 (by decide) ?_
    refine ev_goto (tgt := 29) dX9_moveAt_20 (by decide) ?_
    exact ev_retI dX9_moveAt_29 rfl H
  · have H := H.2 cd
    refine ev_iload_n 8 rfl dX9_moveAt_7 rfl rfl ?_
    refine ev_if_lt (tgt := 19) 11 rfl dX9_moveAt_8 (by decide) (fun cd => ?_) (fun cd => ?_)
    · have H := H.1 cd
      refine ev_iconst 20 rfl dX9_moveAt_19 (by decide) ?_
      refine ev_goto (tgt := 29) dX9_moveAt_20 (by decide) ?_
      exact ev_retI dX9_moveAt_29 rfl H
    · have H := H.2 cd
      refine ev_iload_n 12 rfl dX9_moveAt_11 rfl rfl ?_
      refine ev_aload_n 13 rfl dX9_moveAt_12 rfl rfl ?_
      refine ev_getI (ki := 0) 16 rfl dX9_moveAt_13 lf_9_11 (Or.inl rfl) (s_28 hst) (by decide) rfl ?_
      refine ev_icmp_lt (tgt := 23) 19 rfl dX9_moveAt_16 (by decide) (fun cd => ?_) (fun cd => ?_)
      · have H := H.1 cd
        refine ev_aload_n 24 rfl dX9_moveAt_23 rfl rfl ?_
        refine ev_getR (ki := 1) (v := (pt 28 1)) 27 rfl dX9_moveAt_24 lf_9_17 (s_28 hst) (by decide) rfl rfl ?_
        refine ev_iload_n 28 rfl dX9_moveAt_27 rfl rfl ?_
        obtain ⟨n1, sn2, H⟩ := H
        obtain ⟨b3, H⟩ := H
        refine ev_baload 29 rfl dX9_moveAt_28 sn2 b3.1 b3.2 ?_
        exact ev_retI dX9_moveAt_29 rfl H
      · have H := H.2 cd
        refine ev_iconst 20 rfl dX9_moveAt_19 (by decide) ?_
        refine ev_goto (tgt := 29) dX9_moveAt_20 (by decide) ?_
        exact ev_retI dX9_moveAt_29 rfl H

set_option maxRecDepth 20000 in
theorem b_X9_bar {X : qX} {d : Nat} {sh : qS} {pt h : qM} {K : qM → Prop} {v2 : Int} (hst : St sh pt)
    (H : ((0 : Int) ≤ 0 ∧ (0 : Int) ≤ 0 ∧ (0 : Int) ≤ 40 ∧ 0 + 40 ≤ (40 : Int) ∧ 0 + 40 ≤ (40 : Int)) ∧ ∀ h1 : qM, h1 = qcp h 6 0 29 0 40 → EvV X (d + 1) mX9_bar 17 [(2, 28), (2, 2), (0, v2), (0, 0)] [] sh pt h1 K) :
    RunV X (d + 1) mX9_bar [(2, 28), (2, 2), (0, v2)] sh pt h K := by
  show Ev X (d + 1) 0 0 mX9_bar 0 [(2, 28), (2, 2), (0, v2), (8, -1)] [] (sh, pt, h) (qRV sh pt K)
  refine ev_aload_n 1 rfl dX9_bar_0 rfl rfl ?_
  refine ev_getR (ki := 4) (v := 6) 4 rfl dX9_bar_1 lf_9_75 (s_2 hst) (by decide) rfl (p_2_4 hst) ?_
  refine ev_iconst 5 rfl dX9_bar_4 (by decide) ?_
  refine ev_aload_n 6 rfl dX9_bar_5 rfl rfl ?_
  refine ev_getR (ki := 2) (v := 29) 9 rfl dX9_bar_6 lf_9_21 (s_28 hst) (by decide) rfl (p_28_2 hst) ?_
  refine ev_iconst 10 rfl dX9_bar_9 (by decide) ?_
  refine ev_bipush 12 rfl dX9_bar_10 (by decide) (by decide) ?_
  obtain ⟨sd, H⟩ := H
  refine ev_copyL 15 rfl dX9_bar_12 la_9_78 (s_6 hst) (s_29 hst) sd.1 sd.2.1 sd.2.2.1 sd.2.2.2.1 sd.2.2.2.2 (Nat.le_of_ble_eq_true rfl) (Nat.succ_le_succ (Nat.zero_le _)) ?_
  obtain ⟨h1, eh1⟩ : ∃ z : qM, z = qcp h 6 0 29 0 40 := ⟨_, rfl⟩
  rw [← eh1]
  have H := H h1 eh1
  refine ev_iconst 16 rfl dX9_bar_15 (by decide) ?_
  refine ev_istore_n (L1 := [(2, 28), (2, 2), (0, v2), (0, 0)]) 17 rfl dX9_bar_16 rfl (Nat.le_of_ble_eq_true rfl) rfl ?_
  exact H

set_option maxRecDepth 20000 in
theorem b_X9_bar_17 {X : qX} {d : Nat} {sh : qS} {pt h : qM} {K : qM → Prop} {v2 v3 : Int} (hst : St sh pt)
    (H : (((h 2 3) ≤ v3 → (0 ≤ v2 ∧ v2 < 20) ∧ (0 ≤ (h 4 v2) ∧ (h 4 v2) < 40) ∧ (0 ≤ v2 ∧ v2 < 20) ∧ (0 ≤ (h 4 v2) ∧ (h 4 v2) < 40) ∧ ∀ h5 : qM, h5 = qup h 29 (h 4 v2) (qland (h 29 (h 4 v2)) (qlxor (qlshl 1 (h 3 v2)) (-1))) → K h5) ∧ (v3 < (h 2 3) → (0 ≤ v3 ∧ v3 < 20) ∧ (0 ≤ (h 4 v3) ∧ (h 4 v3) < 40) ∧ (0 ≤ v3 ∧ v3 < 20) ∧ (0 ≤ (h 4 v3) ∧ (h 4 v3) < 40) ∧ ∀ h10 : qM, h10 = qup h 29 (h 4 v3) (qlor (h 29 (h 4 v3)) (qlshl 1 (h 3 v3))) → (qI (v3 + 1)) ∧ EvV X (d + 1) mX9_bar 17 [(2, 28), (2, 2), (0, v2), (0, (v3 + 1))] [] sh pt h10 K))) :
    EvV X (d + 1) mX9_bar 17 [(2, 28), (2, 2), (0, v2), (0, v3)] [] sh pt h K := by
  show Ev X (d + 1) 0 0 mX9_bar 17 [(2, 28), (2, 2), (0, v2), (0, v3)] [] (sh, pt, h) (qRV sh pt K)
  refine ev_iload_n 18 rfl dX9_bar_17 rfl rfl ?_
  refine ev_aload_n 19 rfl dX9_bar_18 rfl rfl ?_
  refine ev_getI (ki := 3) 22 rfl dX9_bar_19 lf_9_84 (Or.inl rfl) (s_2 hst) (by decide) rfl ?_
  refine ev_icmp_ge (tgt := 53) 25 rfl dX9_bar_22 (by decide) (fun cd => ?_) (fun cd => ?_)
  · have H := H.1 cd
    refine ev_aload_n 54 rfl dX9_bar_53 rfl rfl ?_
    refine ev_getR (ki := 2) (v := 29) 57 rfl dX9_bar_54 lf_9_21 (s_28 hst) (by decide) rfl (p_28_2 hst) ?_
    refine ev_aload_n 58 rfl dX9_bar_57 rfl rfl ?_
    refine ev_getR (ki := 1) (v := 4) 61 rfl dX9_bar_58 lf_9_51 (s_2 hst) (by decide) rfl (p_2_1 hst) ?_
    refine ev_iload_n 62 rfl dX9_bar_61 rfl rfl ?_
    obtain ⟨b1, H⟩ := H
    refine ev_iaload 63 rfl dX9_bar_62 (s_4 hst) b1.1 b1.2 ?_
    refine ev_dup2 64 rfl dX9_bar_63 q01 q21 ?_
    obtain ⟨b2, H⟩ := H
    refine ev_laload 65 rfl dX9_bar_64 (s_29 hst) b2.1 b2.2 ?_
    refine ev_lconst (v := 1) 66 rfl dX9_bar_65 (by decide) (by decide) ?_
    refine ev_aload_n 67 rfl dX9_bar_66 rfl rfl ?_
    refine ev_getR (ki := 0) (v := 3) 70 rfl dX9_bar_67 lf_9_48 (s_2 hst) (by decide) rfl (p_2_0 hst) ?_
    refine ev_iload_n 71 rfl dX9_bar_70 rfl rfl ?_
    obtain ⟨b3, H⟩ := H
    refine ev_iaload 72 rfl dX9_bar_71 (s_3 hst) b3.1 b3.2 ?_
    refine ev_lshl 73 rfl dX9_bar_72 ?_
    refine ev_ldc2 76 rfl dX9_bar_73 kl_9_87 (by decide) ?_
    refine ev_lxor 77 rfl dX9_bar_76 ?_
    refine ev_land 78 rfl dX9_bar_77 ?_
    obtain ⟨b4, H⟩ := H
    refine ev_lastore 79 rfl dX9_bar_78 (s_29 hst) b4.1 b4.2 ?_
    obtain ⟨h5, eh5⟩ : ∃ z : qM, z = qup h 29 (h 4 v2) (qland (h 29 (h 4 v2)) (qlxor (qlshl 1 (h 3 v2)) (-1))) := ⟨_, rfl⟩
    rw [← eh5]
    have H := H h5 eh5
    exact ev_retV dX9_bar_79 rfl H
  · have H := H.2 cd
    refine ev_aload_n 26 rfl dX9_bar_25 rfl rfl ?_
    refine ev_getR (ki := 2) (v := 29) 29 rfl dX9_bar_26 lf_9_21 (s_28 hst) (by decide) rfl (p_28_2 hst) ?_
    refine ev_aload_n 30 rfl dX9_bar_29 rfl rfl ?_
    refine ev_getR (ki := 1) (v := 4) 33 rfl dX9_bar_30 lf_9_51 (s_2 hst) (by decide) rfl (p_2_1 hst) ?_
    refine ev_iload_n 34 rfl dX9_bar_33 rfl rfl ?_
    obtain ⟨b6, H⟩ := H
    refine ev_iaload 35 rfl dX9_bar_34 (s_4 hst) b6.1 b6.2 ?_
    refine ev_dup2 36 rfl dX9_bar_35 q01 q21 ?_
    obtain ⟨b7, H⟩ := H
    refine ev_laload 37 rfl dX9_bar_36 (s_29 hst) b7.1 b7.2 ?_
    refine ev_lconst (v := 1) 38 rfl dX9_bar_37 (by decide) (by decide) ?_
    refine ev_aload_n 39 rfl dX9_bar_38 rfl rfl ?_
    refine ev_getR (ki := 0) (v := 3) 42 rfl dX9_bar_39 lf_9_48 (s_2 hst) (by decide) rfl (p_2_0 hst) ?_
    refine ev_iload_n 43 rfl dX9_bar_42 rfl rfl ?_
    obtain ⟨b8, H⟩ := H
    refine ev_iaload 44 rfl dX9_bar_43 (s_3 hst) b8.1 b8.2 ?_
    refine ev_lshl 45 rfl dX9_bar_44 ?_
    refine ev_lor 46 rfl dX9_bar_45 ?_
    obtain ⟨b9, H⟩ := H
    refine ev_lastore 47 rfl dX9_bar_46 (s_29 hst) b9.1 b9.2 ?_
    obtain ⟨h10, eh10⟩ : ∃ z : qM, z = qup h 29 (h 4 v3) (qlor (h 29 (h 4 v3)) (qlshl 1 (h 3 v3))) := ⟨_, rfl⟩
    rw [← eh10]
    have H := H h10 eh10
    obtain ⟨sd, H⟩ := H
    refine ev_iinc (L1 := [(2, 28), (2, 2), (0, v2), (0, (v3 + 1))]) 50 rfl dX9_bar_47 rfl sd (Nat.le_of_ble_eq_true rfl) rfl ?_
    refine ev_goto (tgt := 17) dX9_bar_50 (by decide) ?_
    exact H

set_option maxRecDepth 20000 in
theorem b_X9_visitAhead {X : qX} {d : Nat} {sh : qS} {pt h : qM} {K : qM → Prop} {v1 : Int} (hst : St sh pt)
    (H : (0 ≤ (qishr v1 3)) ∧ RunI X d mX2_eastStep [(0, v1)] sh pt h (fun r2 h1 => (qI (((qishr v1 3) / 40) + r2)) ∧ ∀ x3 : Int, x3 = (((qishr v1 3) / 40) + r2) → (0 ≤ (qishr v1 3)) ∧ RunI X d mX2_northStep [(0, v1)] sh pt h1 (fun r5 h4 => (qI (((qishr v1 3) % 40) + r5)) ∧ ∀ x6 : Int, x6 = (((qishr v1 3) % 40) + r5) → RunI X d mX2_isSpot [(0, x3), (0, x6)] sh pt h4 (fun r8 h7 => ((r8 = 0 → K h7) ∧ (¬ r8 = 0 → (0 ≤ x6 ∧ x6 < 40) ∧ ((¬ (qland (qlushr (h7 29 x6) x3) 1) = 0 → K h7) ∧ ((qland (qlushr (h7 29 x6) x3) 1) = 0 → RunI X d mX2_spot [(0, x3), (0, x6)] sh pt h7 (fun r11 h10 => RunV X d mX9_visit [(2, 28), (0, (qior (qishl r11 3) (qiand v1 7))), (0, 0)] sh pt h10 (fun h12 => K h12)))))))))) :
    RunV X (d + 1) mX9_visitAhead [(2, 28), (0, v1)] sh pt h K := by
  show Ev X (d + 1) 0 0 mX9_visitAhead 0 [(2, 28), (0, v1), (8, -1), (8, -1)] [] (sh, pt, h) (qRV sh pt K)
  refine ev_iload_n 1 rfl dX9_visitAhead_0 rfl rfl ?_
  refine ev_iconst 2 rfl dX9_visitAhead_1 (by decide) ?_
  refine ev_ishr 3 rfl dX9_visitAhead_2 ?_
  refine ev_bipush 5 rfl dX9_visitAhead_3 (by decide) (by decide) ?_
  obtain ⟨sd, H⟩ := H
  refine ev_idivP 6 rfl dX9_visitAhead_5 ⟨sd, by decide⟩ ?_
  refine ev_iload_n 7 rfl dX9_visitAhead_6 rfl rfl ?_
  refine ev_cSI (As := [(0, v1)]) (rest := [(0, ((qishr v1 3) / 40))]) 10 rfl dX9_visitAhead_7 lm_9_89 mm_X2_eastStep rfl rfl (Nat.le_of_ble_eq_true rfl) (Nat.le_of_ble_eq_true rfl) (Nat.le_refl _) H ?_
  intro r2 h1 H
  obtain ⟨sd, H⟩ := H
  refine ev_iadd 11 rfl dX9_visitAhead_10 sd ?_
  obtain ⟨x3, ex3⟩ : ∃ z : Int, z = (((qishr v1 3) / 40) + r2) := ⟨_, rfl⟩
  rw [← ex3]
  have H := H x3 ex3
  refine ev_istore_n (L1 := [(2, 28), (0, v1), (0, x3), (8, -1)]) 12 rfl dX9_visitAhead_11 rfl (Nat.le_of_ble_eq_true rfl) rfl ?_
  refine ev_iload_n 13 rfl dX9_visitAhead_12 rfl rfl ?_
  refine ev_iconst 14 rfl dX9_visitAhead_13 (by decide) ?_
  refine ev_ishr 15 rfl dX9_visitAhead_14 ?_
  refine ev_bipush 17 rfl dX9_visitAhead_15 (by decide) (by decide) ?_
  obtain ⟨sd, H⟩ := H
  refine ev_iremP 18 rfl dX9_visitAhead_17 ⟨sd, by decide⟩ ?_
  refine ev_iload_n 19 rfl dX9_visitAhead_18 rfl rfl ?_
  refine ev_cSI (As := [(0, v1)]) (rest := [(0, ((qishr v1 3) % 40))]) 22 rfl dX9_visitAhead_19 lm_9_93 mm_X2_northStep rfl rfl (Nat.le_of_ble_eq_true rfl) (Nat.le_of_ble_eq_true rfl) (Nat.le_refl _) H ?_
  intro r5 h4 H
  obtain ⟨sd, H⟩ := H
  refine ev_iadd 23 rfl dX9_visitAhead_22 sd ?_
  obtain ⟨x6, ex6⟩ : ∃ z : Int, z = (((qishr v1 3) % 40) + r5) := ⟨_, rfl⟩
  rw [← ex6]
  have H := H x6 ex6
  refine ev_istore_n (L1 := [(2, 28), (0, v1), (0, x3), (0, x6)]) 24 rfl dX9_visitAhead_23 rfl (Nat.le_of_ble_eq_true rfl) rfl ?_
  refine ev_iload_n 25 rfl dX9_visitAhead_24 rfl rfl ?_
  refine ev_iload_n 26 rfl dX9_visitAhead_25 rfl rfl ?_
  refine ev_cSI (As := [(0, x3), (0, x6)]) (rest := []) 29 rfl dX9_visitAhead_26 lm_9_96 mm_X2_isSpot rfl rfl (Nat.le_of_ble_eq_true rfl) (Nat.le_of_ble_eq_true rfl) (Nat.le_refl _) H ?_
  intro r8 h7 H
  refine ev_if_eq (tgt := 64) 32 rfl dX9_visitAhead_29 (by decide) (fun cd => ?_) (fun cd => ?_)
  · have H := H.1 cd
    exact ev_retV dX9_visitAhead_64 rfl H
  · have H := H.2 cd
    refine ev_aload_n 33 rfl dX9_visitAhead_32 rfl rfl ?_
    refine ev_getR (ki := 2) (v := 29) 36 rfl dX9_visitAhead_33 lf_9_21 (s_28 hst) (by decide) rfl (p_28_2 hst) ?_
    refine ev_iload_n 37 rfl dX9_visitAhead_36 rfl rfl ?_
    obtain ⟨b9, H⟩ := H
    refine ev_laload 38 rfl dX9_visitAhead_37 (s_29 hst) b9.1 b9.2 ?_
    refine ev_iload_n 39 rfl dX9_visitAhead_38 rfl rfl ?_
    refine ev_lushr 40 rfl dX9_visitAhead_39 ?_
    refine ev_lconst (v := 1) 41 rfl dX9_visitAhead_40 (by decide) (by decide) ?_
    refine ev_land 42 rfl dX9_visitAhead_41 ?_
    refine ev_lconst (v := 0) 43 rfl dX9_visitAhead_42 (by decide) (by decide) ?_
    refine ev_lc_ne (tgt := 64) 47 rfl dX9_visitAhead_43 dX9_visitAhead_44 (by decide) (fun cd => ?_) (fun cd => ?_)
    · have H := H.1 cd
      exact ev_retV dX9_visitAhead_64 rfl H
    · have H := H.2 cd
      refine ev_aload_n 48 rfl dX9_visitAhead_47 rfl rfl ?_
      refine ev_iload_n 49 rfl dX9_visitAhead_48 rfl rfl ?_
      refine ev_iload_n 50 rfl dX9_visitAhead_49 rfl rfl ?_
      refine ev_cSI (As := [(0, x3), (0, x6)]) (rest := [(2, 28)]) 53 rfl dX9_visitAhead_50 lm_9_54 mm_X2_spot rfl rfl (Nat.le_of_ble_eq_true rfl) (Nat.le_of_ble_eq_true rfl) (Nat.le_refl _) H ?_
      intro r11 h10 H
      refine ev_iconst 54 rfl dX9_visitAhead_53 (by decide) ?_
      refine ev_ishl 55 rfl dX9_visitAhead_54 ?_
      refine ev_iload_n 56 rfl dX9_visitAhead_55 rfl rfl ?_
      refine ev_bipush 58 rfl dX9_visitAhead_56 (by decide) (by decide) ?_
      refine ev_iand 59 rfl dX9_visitAhead_58 ?_
      refine ev_ior 60 rfl dX9_visitAhead_59 ?_
      refine ev_iconst 61 rfl dX9_visitAhead_60 (by decide) ?_
      refine ev_cVV (As := [(0, (qior (qishl r11 3) (qiand v1 7))), (0, 0)]) (rest := []) 64 rfl dX9_visitAhead_61 lm_9_61 mm_X9_visit (s_28 hst) rfl rfl (Nat.le_of_ble_eq_true rfl) (Nat.le_of_ble_eq_true rfl) (Nat.le_refl _) H ?_
      intro h12 H
      exact ev_retV dX9_visitAhead_64 rfl H

set_option maxRecDepth 20000 in
theorem b_X9_turned {X : qX} {d : Nat} {sh : qS} {pt h : qM} {K : Int → qM → Prop} {v0 v1 : Int} (hst : St sh pt)
    (H : (qI (v0 + v1)) ∧ K (qior (qiand v0 (-8)) (qiand (v0 + v1) 7)) h) :
    RunI X d mX9_turned [(0, v0), (0, v1)] sh pt h K := by
  show Ev X d 0 0 mX9_turned 0 [(0, v0), (0, v1)] [] (sh, pt, h) (qRI sh pt K)
  refine ev_iload_n 1 rfl dX9_turned_0 rfl rfl ?_
  refine ev_bipush 3 rfl dX9_turned_1 (by decide) (by decide) ?_
  refine ev_iand 4 rfl dX9_turned_3 ?_
  refine ev_iload_n 5 rfl dX9_turned_4 rfl rfl ?_
  refine ev_iload_n 6 rfl dX9_turned_5 rfl rfl ?_
  obtain ⟨sd, H⟩ := H
  refine ev_iadd 7 rfl dX9_turned_6 sd ?_
  refine ev_bipush 9 rfl dX9_turned_7 (by decide) (by decide) ?_
  refine ev_iand 10 rfl dX9_turned_9 ?_
  refine ev_ior 11 rfl dX9_turned_10 ?_
  exact ev_retI dX9_turned_11 rfl H

set_option maxRecDepth 20000 in
theorem b_X9_visit {X : qX} {d : Nat} {sh : qS} {pt h : qM} {K : qM → Prop} {v1 v2 : Int} (hst : St sh pt) (hsw0 : Sw sh pt)
    (H : (0 ≤ v1 ∧ v1 < 19200) ∧ ((¬ (h 136 v1) = 0 → K h) ∧ ((h 136 v1) = 0 → ((19200 ≤ (h 28 5) → K h) ∧ ((h 28 5) < 19200 → (qI (v2 + 1)) ∧ (0 ≤ v1 ∧ v1 < 19200) ∧ (-128 ≤ (qi2b (v2 + 1)) ∧ (qi2b (v2 + 1)) ≤ 127) ∧ ∀ h4 : qM, h4 = qup h 136 v1 (qi2b (v2 + 1)) → (0 ≤ (h4 28 5) ∧ (h4 28 5) < 19200) ∧ ∀ h6 : qM, h6 = qup h4 137 (h4 28 5) v1 → (qI ((h6 28 5) + 1)) ∧ ∀ h7 : qM, h7 = qup h6 28 5 ((h6 28 5) + 1) → K h7))))) :
    RunV X d mX9_visit [(2, 28), (0, v1), (0, v2)] sh pt h K := by
  show Ev X d 0 0 mX9_visit 0 [(2, 28), (0, v1), (0, v2)] [] (sh, pt, h) (qRV sh pt K)
  refine ev_aload_n 1 rfl dX9_visit_0 rfl rfl ?_
  refine ev_getR (ki := 3) (v := 136) 4 rfl dX9_visit_1 lf_9_25 (s_28 hst) (by decide) rfl (pw_3 hsw0) ?_
  refine ev_iload_n 5 rfl dX9_visit_4 rfl rfl ?_
  obtain ⟨b1, H⟩ := H
  refine ev_baload 6 rfl dX9_visit_5 (sw_136 hsw0) b1.1 b1.2 ?_
  refine ev_if_ne (tgt := 49) 9 rfl dX9_visit_6 (by decide) (fun cd => ?_) (fun cd => ?_)
  · have H := H.1 cd
    exact ev_retV dX9_visit_49 rfl H
  · have H := H.2 cd
    refine ev_aload_n 10 rfl dX9_visit_9 rfl rfl ?_
    refine ev_getI (ki := 5) 13 rfl dX9_visit_10 lf_9_32 (Or.inl rfl) (s_28 hst) (by decide) rfl ?_
    refine ev_sipush 16 rfl dX9_visit_13 (by decide) (by decide) ?_
    refine ev_icmp_ge (tgt := 49) 19 rfl dX9_visit_16 (by decide) (fun cd => ?_) (fun cd => ?_)
    · have H := H.1 cd
      exact ev_retV dX9_visit_49 rfl H
    · have H := H.2 cd
      refine ev_aload_n 20 rfl dX9_visit_19 rfl rfl ?_
      refine ev_getR (ki := 3) (v := 136) 23 rfl dX9_visit_20 lf_9_25 (s_28 hst) (by decide) rfl (pw_3 hsw0) ?_
      refine ev_iload_n 24 rfl dX9_visit_23 rfl rfl ?_
      refine ev_iload_n 25 rfl dX9_visit_24 rfl rfl ?_
      refine ev_iconst 26 rfl dX9_visit_25 (by decide) ?_
      obtain ⟨sd, H⟩ := H
      refine ev_iadd 27 rfl dX9_visit_26 sd ?_
      refine ev_i2b 28 rfl dX9_visit_27 ?_
      obtain ⟨b2, H⟩ := H
      obtain ⟨sv3, H⟩ := H
      refine ev_bastore 29 rfl dX9_visit_28 (sw_136 hsw0) b2.1 b2.2 sv3 ?_
      obtain ⟨h4, eh4⟩ : ∃ z : qM, z = qup h 136 v1 (qi2b (v2 + 1)) := ⟨_, rfl⟩
      rw [← eh4]
      have H := H h4 eh4
      refine ev_aload_n 30 rfl dX9_visit_29 rfl rfl ?_
      refine ev_getR (ki := 4) (v := 137) 33 rfl dX9_visit_30 lf_9_28 (s_28 hst) (by decide) rfl (pw_4 hsw0) ?_
      refine ev_aload_n 34 rfl dX9_visit_33 rfl rfl ?_
      refine ev_getI (ki := 5) 37 rfl dX9_visit_34 lf_9_32 (Or.inl rfl) (s_28 hst) (by decide) rfl ?_
      refine ev_iload_n 38 rfl dX9_visit_37 rfl rfl ?_
      obtain ⟨b5, H⟩ := H
      refine ev_iastore 39 rfl dX9_visit_38 (sw_137 hsw0) b5.1 b5.2 ?_
      obtain ⟨h6, eh6⟩ : ∃ z : qM, z = qup h4 137 (h4 28 5) v1 := ⟨_, rfl⟩
      rw [← eh6]
      have H := H h6 eh6
      refine ev_aload_n 40 rfl dX9_visit_39 rfl rfl ?_
      refine ev_dup 41 rfl dX9_visit_40 q21 ?_
      refine ev_getI (ki := 5) 44 rfl dX9_visit_41 lf_9_32 (Or.inl rfl) (s_28 hst) (by decide) rfl ?_
      refine ev_iconst 45 rfl dX9_visit_44 (by decide) ?_
      obtain ⟨sd, H⟩ := H
      refine ev_iadd 46 rfl dX9_visit_45 sd ?_
      refine ev_putI (ki := 5) 49 rfl dX9_visit_46 lf_9_32 (Or.inl rfl) (s_28 hst) (by decide) rfl ?_
      obtain ⟨h7, eh7⟩ : ∃ z : qM, z = qup h6 28 5 ((h6 28 5) + 1) := ⟨_, rfl⟩
      rw [← eh7]
      have H := H h7 eh7
      exact ev_retV dX9_visit_49 rfl H

set_option maxRecDepth 20000 in
theorem b_X9_keepMoves {X : qX} {d : Nat} {sh : qS} {pt h : qM} {K : qM → Prop} {v1 : Int} (hst : St sh pt)
    (H : RunI X d mX9_countMoves [(2, 28), (0, v1)] sh pt h (fun r2 h1 => ∀ h3 : qM, h3 = qup h1 28 0 r2 → (qI ((h3 28 0) - 1)) ∧ EvV X (d + 1) mX9_keepMoves 18 [(2, 28), (8, -1), (0, v1), (0, ((h3 28 0) - 1))] [] sh pt h3 K)) :
    RunV X (d + 1) mX9_keepMoves [(2, 28), (0, v1)] sh pt h K := by
  show Ev X (d + 1) 0 0 mX9_keepMoves 0 [(2, 28), (0, v1), (8, -1), (8, -1)] [] (sh, pt, h) (qRV sh pt K)
  refine ev_aload_n 1 rfl dX9_keepMoves_0 rfl rfl ?_
  refine ev_aload_n 2 rfl dX9_keepMoves_1 rfl rfl ?_
  refine ev_iload_n 3 rfl dX9_keepMoves_2 rfl rfl ?_
  refine ev_cVI (As := [(0, v1)]) (rest := [(2, 28)]) 6 rfl dX9_keepMoves_3 lm_9_100 mm_X9_countMoves (s_28 hst) rfl rfl (Nat.le_of_ble_eq_true rfl) (Nat.le_of_ble_eq_true rfl) (Nat.le_refl _) H ?_
  intro r2 h1 H
  refine ev_putI (ki := 0) 9 rfl dX9_keepMoves_6 lf_9_11 (Or.inl rfl) (s_28 hst) (by decide) rfl ?_
  obtain ⟨h3, eh3⟩ : ∃ z : qM, z = qup h1 28 0 r2 := ⟨_, rfl⟩
  rw [← eh3]
  have H := H h3 eh3
  refine ev_iload_n 10 rfl dX9_keepMoves_9 rfl rfl ?_
  refine ev_istore_n (L1 := [(2, 28), (0, v1), (0, v1), (8, -1)]) 11 rfl dX9_keepMoves_10 rfl (Nat.le_of_ble_eq_true rfl) rfl ?_
  refine ev_aload_n 12 rfl dX9_keepMoves_11 rfl rfl ?_
  refine ev_getI (ki := 0) 15 rfl dX9_keepMoves_12 lf_9_11 (Or.inl rfl) (s_28 hst) (by decide) rfl ?_
  refine ev_iconst 16 rfl dX9_keepMoves_15 (by decide) ?_
  obtain ⟨sd, H⟩ := H
  refine ev_isub 17 rfl dX9_keepMoves_16 sd ?_
  refine ev_istore_n (L1 := [(2, 28), (0, v1), (0, v1), (0, ((h3 28 0) - 1))]) 18 rfl dX9_keepMoves_17 rfl (Nat.le_of_ble_eq_true rfl) rfl ?_
  refine Ev.drop [1] rfl ?_
  exact H

set_option maxRecDepth 20000 in
theorem b_X9_keepMoves_18 {X : qX} {d : Nat} {sh : qS} {pt h : qM} {K : qM → Prop} {v2 v3 : Int} (hst : St sh pt) (hsw0 : Sw sh pt)
    (H : ((v3 < 0 → K h) ∧ (0 ≤ v3 → (0 ≤ v2 ∧ v2 < 19200) ∧ (qI ((h 136 v2) - 1)) ∧ (0 ≤ v3 ∧ v3 < 19200) ∧ (-128 ≤ (qi2b ((h 136 v2) - 1)) ∧ (qi2b ((h 136 v2) - 1)) ≤ 127) ∧ ∀ h4 : qM, h4 = qup h 138 v3 (qi2b ((h 136 v2) - 1)) → RunI X d mX9_stateAhead [(2, 28), (0, v2)] sh pt h4 (fun r6 h5 => (qI (v3 + (-1))) ∧ EvV X (d + 1) mX9_keepMoves 18 [(2, 28), (8, -1), (0, r6), (0, (v3 + (-1)))] [] sh pt h5 K)))) :
    EvV X (d + 1) mX9_keepMoves 18 [(2, 28), (8, -1), (0, v2), (0, v3)] [] sh pt h K := by
  show Ev X (d + 1) 0 0 mX9_keepMoves 18 [(2, 28), (8, -1), (0, v2), (0, v3)] [] (sh, pt, h) (qRV sh pt K)
  refine ev_iload_n 19 rfl dX9_keepMoves_18 rfl rfl ?_
  refine ev_if_lt (tgt := 49) 22 rfl dX9_keepMoves_19 (by decide) (fun cd => ?_) (fun cd => ?_)
  · have H := H.1 cd
    exact ev_retV dX9_keepMoves_49 rfl H
  · have H := H.2 cd
    refine ev_aload_n 23 rfl dX9_keepMoves_22 rfl rfl ?_
    refine ev_getR (ki := 1) (v := 138) 26 rfl dX9_keepMoves_23 lf_9_17 (s_28 hst) (by decide) rfl (pw_1 hsw0) ?_
    refine ev_iload_n 27 rfl dX9_keepMoves_26 rfl rfl ?_
    refine ev_aload_n 28 rfl dX9_keepMoves_27 rfl rfl ?_
    refine ev_getR (ki := 3) (v := 136) 31 rfl dX9_keepMoves_28 lf_9_25 (s_28 hst) (by decide) rfl (pw_3 hsw0) ?_
    refine ev_iload_n 32 rfl dX9_keepMoves_31 rfl rfl ?_
    obtain ⟨b1, H⟩ := H
    refine ev_baload 33 rfl dX9_keepMoves_32 (sw_136 hsw0) b1.1 b1.2 ?_
    refine ev_iconst 34 rfl dX9_keepMoves_33 (by decide) ?_
    obtain ⟨sd, H⟩ := H
    refine ev_isub 35 rfl dX9_keepMoves_34 sd ?_
    refine ev_i2b 36 rfl dX9_keepMoves_35 ?_
    obtain ⟨b2, H⟩ := H
    obtain ⟨sv3, H⟩ := H
    refine ev_bastore 37 rfl dX9_keepMoves_36 (sw_138 hsw0) b2.1 b2.2 sv3 ?_
    obtain ⟨h4, eh4⟩ : ∃ z : qM, z = qup h 138 v3 (qi2b ((h 136 v2) - 1)) := ⟨_, rfl⟩
    rw [← eh4]
    have H := H h4 eh4
    refine ev_aload_n 38 rfl dX9_keepMoves_37 rfl rfl ?_
    refine ev_iload_n 39 rfl dX9_keepMoves_38 rfl rfl ?_
    refine ev_cVI (As := [(0, v2)]) (rest := []) 42 rfl dX9_keepMoves_39 lm_9_103 mm_X9_stateAhead (s_28 hst) rfl rfl (Nat.le_of_ble_eq_true rfl) (Nat.le_of_ble_eq_true rfl) (Nat.le_refl _) H ?_
    intro r6 h5 H
    refine ev_istore_n (L1 := [(2, 28), (8, -1), (0, r6), (0, v3)]) 43 rfl dX9_keepMoves_42 rfl (Nat.le_of_ble_eq_true rfl) rfl ?_
    obtain ⟨sd, H⟩ := H
    refine ev_iinc (L1 := [(2, 28), (8, -1), (0, r6), (0, (v3 + (-1)))]) 46 rfl dX9_keepMoves_43 rfl sd (Nat.le_of_ble_eq_true rfl) rfl ?_
    refine ev_goto (tgt := 18) dX9_keepMoves_46 (by decide) ?_
    exact H

set_option maxRecDepth 20000 in
theorem b_X9_countMoves {X : qX} {d : Nat} {sh : qS} {pt h : qM} {K : Int → qM → Prop} {v1 : Int} (hst : St sh pt)
    (H : EvI X (d + 1) mX9_countMoves 4 [(2, 28), (8, -1), (0, v1), (0, 0)] [] sh pt h K) :
    RunI X (d + 1) mX9_countMoves [(2, 28), (0, v1)] sh pt h K := by
  show Ev X (d + 1) 0 0 mX9_countMoves 0 [(2, 28), (0, v1), (8, -1), (8, -1)] [] (sh, pt, h) (qRI sh pt K)
  refine ev_iload_n 1 rfl dX9_countMoves_0 rfl rfl ?_
  refine ev_istore_n (L1 := [(2, 28), (0, v1), (0, v1), (8, -1)]) 2 rfl dX9_countMoves_1 rfl (Nat.le_of_ble_eq_true rfl) rfl ?_
  refine ev_iconst 3 rfl dX9_countMoves_2 (by decide) ?_
  refine ev_istore_n (L1 := [(2, 28), (0, v1), (0, v1), (0, 0)]) 4 rfl dX9_countMoves_3 rfl (Nat.le_of_ble_eq_true rfl) rfl ?_
  refine Ev.drop [1] rfl ?_
  exact H

set_option maxRecDepth 20000 in
theorem b_X9_countMoves_4 {X : qX} {d : Nat} {sh : qS} {pt h : qM} {K : Int → qM → Prop} {v2 v3 : Int} (hst : St sh pt) (hsw0 : Sw sh pt)
    (H : ((19200 ≤ v3 → K 0 h) ∧ (v3 < 19200 → (0 ≤ v2 ∧ v2 < 19200) ∧ ((¬ (h 136 v2) = 4 → RunI X d mX9_stateAhead [(2, 28), (0, v2)] sh pt h (fun r3 h2 => (qI (v3 + 1)) ∧ EvI X (d + 1) mX9_countMoves 4 [(2, 28), (8, -1), (0, r3), (0, (v3 + 1))] [] sh pt h2 K)) ∧ ((h 136 v2) = 4 → K v3 h))))) :
    EvI X (d + 1) mX9_countMoves 4 [(2, 28), (8, -1), (0, v2), (0, v3)] [] sh pt h K := by
  show Ev X (d + 1) 0 0 mX9_countMoves 4 [(2, 28), (8, -1), (0, v2), (0, v3)] [] (sh, pt, h) (qRI sh pt K)
  refine ev_iload_n 5 rfl dX9_countMoves_4 rfl rfl ?_
  refine ev_sipush 8 rfl dX9_countMoves_5 (by decide) (by decide) ?_
  refine ev_icmp_ge (tgt := 35) 11 rfl dX9_countMoves_8 (by decide) (fun cd => ?_) (fun cd => ?_)
  · have H := H.1 cd
    refine ev_iconst 36 rfl dX9_countMoves_35 (by decide) ?_
    exact ev_retI dX9_countMoves_36 rfl H
  · have H := H.2 cd
    refine ev_aload_n 12 rfl dX9_countMoves_11 rfl rfl ?_
    refine ev_getR (ki := 3) (v := 136) 15 rfl dX9_countMoves_12 lf_9_25 (s_28 hst) (by decide) rfl (pw_3 hsw0) ?_
    refine ev_iload_n 16 rfl dX9_countMoves_15 rfl rfl ?_
    obtain ⟨b1, H⟩ := H
    refine ev_baload 17 rfl dX9_countMoves_16 (sw_136 hsw0) b1.1 b1.2 ?_
    refine ev_iconst 18 rfl dX9_countMoves_17 (by decide) ?_
    refine ev_icmp_ne (tgt := 23) 21 rfl dX9_countMoves_18 (by decide) (fun cd => ?_) (fun cd => ?_)
    · have H := H.1 cd
      refine ev_aload_n 24 rfl dX9_countMoves_23 rfl rfl ?_
      refine ev_iload_n 25 rfl dX9_countMoves_24 rfl rfl ?_
      refine ev_cVI (As := [(0, v2)]) (rest := []) 28 rfl dX9_countMoves_25 lm_9_103 mm_X9_stateAhead (s_28 hst) rfl rfl (Nat.le_of_ble_eq_true rfl) (Nat.le_of_ble_eq_true rfl) (Nat.le_refl _) H ?_
      intro r3 h2 H
      refine ev_istore_n (L1 := [(2, 28), (8, -1), (0, r3), (0, v3)]) 29 rfl dX9_countMoves_28 rfl (Nat.le_of_ble_eq_true rfl) rfl ?_
      obtain ⟨sd, H⟩ := H
      refine ev_iinc (L1 := [(2, 28), (8, -1), (0, r3), (0, (v3 + 1))]) 32 rfl dX9_countMoves_29 rfl sd (Nat.le_of_ble_eq_true rfl) rfl ?_
      refine ev_goto (tgt := 4) dX9_countMoves_32 (by decide) ?_
      exact H
    · have H := H.2 cd
      refine ev_iload_n 22 rfl dX9_countMoves_21 rfl rfl ?_
      exact ev_retI dX9_countMoves_22 rfl H

set_option maxRecDepth 20000 in
theorem b_X9_stateAhead {X : qX} {d : Nat} {sh : qS} {pt h : qM} {K : Int → qM → Prop} {v1 : Int} (hst : St sh pt) (hsw0 : Sw sh pt)
    (H : (0 ≤ v1 ∧ v1 < 19200) ∧ (qI ((h 136 v1) - 1)) ∧ ((((h 136 v1) - 1) = 0 → RunI X d mX2_eastStep [(0, v1)] sh pt h (fun r3 h2 => RunI X d mX2_northStep [(0, v1)] sh pt h2 (fun r5 h4 => RunI X d mX2_spot [(0, r3), (0, r5)] sh pt h4 (fun r7 h6 => (qI (v1 - (qishl r7 3))) ∧ K (v1 - (qishl r7 3)) h6)))) ∧ (((h 136 v1) - 1) = 1 → RunI X d mX9_turned [(0, v1), (0, (-1))] sh pt h (fun r9 h8 => K r9 h8)) ∧ ((((h 136 v1) - 1) < 0 ∨ 1 < ((h 136 v1) - 1)) → RunI X d mX9_turned [(0, v1), (0, 1)] sh pt h (fun r11 h10 => K r11 h10)))) :
    RunI X (d + 1) mX9_stateAhead [(2, 28), (0, v1)] sh pt h K := by
  show Ev X (d + 1) 0 0 mX9_stateAhead 0 [(2, 28), (0, v1)] [] (sh, pt, h) (qRI sh pt K)
  refine ev_aload_n 1 rfl dX9_stateAhead_0 rfl rfl ?_
  refine ev_getR (ki := 3) (v := 136) 4 rfl dX9_stateAhead_1 lf_9_25 (s_28 hst) (by decide) rfl (pw_3 hsw0) ?_
  refine ev_iload_n 5 rfl dX9_stateAhead_4 rfl rfl ?_
  obtain ⟨b1, H⟩ := H
  refine ev_baload 6 rfl dX9_stateAhead_5 (sw_136 hsw0) b1.1 b1.2 ?_
  refine ev_iconst 7 rfl dX9_stateAhead_6 (by decide) ?_
  obtain ⟨sd, H⟩ := H
  refine ev_isub 8 rfl dX9_stateAhead_7 sd ?_
  have hsw : ((h 136 v1) - 1) = 0 ∨ ((h 136 v1) - 1) = 1 ∨ (((h 136 v1) - 1) < 0 ∨ 1 < ((h 136 v1) - 1)) := by omega
  rcases hsw with cd | cd | cd
  · have H := H.1 cd
    refine ev_lookup (off := 28) (tgt := 36) dX9_stateAhead_8 (by decide) (by rw [cd]; decide) (by decide) ?_
    refine ev_iload_n 37 rfl dX9_stateAhead_36 rfl rfl ?_
    refine ev_iload_n 38 rfl dX9_stateAhead_37 rfl rfl ?_
    refine ev_cSI (As := [(0, v1)]) (rest := [(0, v1)]) 41 rfl dX9_stateAhead_38 lm_9_89 mm_X2_eastStep rfl rfl (Nat.le_of_ble_eq_true rfl) (Nat.le_of_ble_eq_true rfl) (Nat.le_refl _) H ?_
    intro r3 h2 H
    refine ev_iload_n 42 rfl dX9_stateAhead_41 rfl rfl ?_
    refine ev_cSI (As := [(0, v1)]) (rest := [(0, r3), (0, v1)]) 45 rfl dX9_stateAhead_42 lm_9_93 mm_X2_northStep rfl rfl (Nat.le_of_ble_eq_true rfl) (Nat.le_of_ble_eq_true rfl) (Nat.le_refl _) H ?_
    intro r5 h4 H
    refine ev_cSI (As := [(0, r3), (0, r5)]) (rest := [(0, v1)]) 48 rfl dX9_stateAhead_45 lm_9_54 mm_X2_spot rfl rfl (Nat.le_of_ble_eq_true rfl) (Nat.le_of_ble_eq_true rfl) (Nat.le_refl _) H ?_
    intro r7 h6 H
    refine ev_iconst 49 rfl dX9_stateAhead_48 (by decide) ?_
    refine ev_ishl 50 rfl dX9_stateAhead_49 ?_
    obtain ⟨sd, H⟩ := H
    refine ev_isub 51 rfl dX9_stateAhead_50 sd ?_
    exact ev_retI dX9_stateAhead_51 rfl H
  · have H := H.2.1 cd
    refine ev_lookup (off := 44) (tgt := 52) dX9_stateAhead_8 (by decide) (by rw [cd]; decide) (by decide) ?_
    refine ev_iload_n 53 rfl dX9_stateAhead_52 rfl rfl ?_
    refine ev_iconst 54 rfl dX9_stateAhead_53 (by decide) ?_
    refine ev_cSI (As := [(0, v1), (0, (-1))]) (rest := []) 57 rfl dX9_stateAhead_54 lm_9_72 mm_X9_turned rfl rfl (Nat.le_of_ble_eq_true rfl) (Nat.le_of_ble_eq_true rfl) (Nat.le_refl _) H ?_
    intro r9 h8 H
    exact ev_retI dX9_stateAhead_57 rfl H
  · have H := H.2.2 cd
    refine ev_lookup (off := 50) (tgt := 58) dX9_stateAhead_8 (by decide) (by show Op.lookupswitch.offset [(0, 28), (1, 44)] 50 _ = _; rw [Op.lookupswitch.offset_cons, if_neg (by omega), Op.lookupswitch.offset_cons, if_neg (by omega), Op.lookupswitch.offset_nil]) (by decide) ?_
    refine ev_iload_n 59 rfl dX9_stateAhead_58 rfl rfl ?_
    refine ev_iconst 60 rfl dX9_stateAhead_59 (by decide) ?_
    refine ev_cSI (As := [(0, v1), (0, 1)]) (rest := []) 63 rfl dX9_stateAhead_60 lm_9_72 mm_X9_turned rfl rfl (Nat.le_of_ble_eq_true rfl) (Nat.le_of_ble_eq_true rfl) (Nat.le_refl _) H ?_
    intro r11 h10 H
    exact ev_retI dX9_stateAhead_63 rfl H

set_option maxRecDepth 20000 in
theorem b_X5_addPerson {X : qX} {d : Nat} {sh : qS} {pt h : qM} {K : Int → qM → Prop} {v1 : Int} (hst : St sh pt)
    (H : (0 ≤ (h 30 0) ∧ (h 30 0) < 16) ∧ ∀ h2 : qM, h2 = qup h 32 (h 30 0) v1 → (qI ((h2 30 0) + 1)) ∧ ∀ h3 : qM, h3 = qup h2 30 0 ((h2 30 0) + 1) → (qI ((h3 30 0) - 1)) ∧ K ((h3 30 0) - 1) h3) :
    RunI X d mX5_addPerson [(2, 30), (0, v1)] sh pt h K := by
  show Ev X d 0 0 mX5_addPerson 0 [(2, 30), (0, v1)] [] (sh, pt, h) (qRI sh pt K)
  refine ev_aload_n 1 rfl dX5_addPerson_0 rfl rfl ?_
  refine ev_getR (ki := 4) (v := 32) 4 rfl dX5_addPerson_1 lf_5_27 (s_30 hst) (by decide) rfl (p_30_4 hst) ?_
  refine ev_aload_n 5 rfl dX5_addPerson_4 rfl rfl ?_
  refine ev_getI (ki := 0) 8 rfl dX5_addPerson_5 lf_5_9 (Or.inl rfl) (s_30 hst) (by decide) rfl ?_
  refine ev_iload_n 9 rfl dX5_addPerson_8 rfl rfl ?_
  obtain ⟨b1, H⟩ := H
  refine ev_iastore 10 rfl dX5_addPerson_9 (s_32 hst) b1.1 b1.2 ?_
  obtain ⟨h2, eh2⟩ : ∃ z : qM, z = qup h 32 (h 30 0) v1 := ⟨_, rfl⟩
  rw [← eh2]
  have H := H h2 eh2
  refine ev_aload_n 11 rfl dX5_addPerson_10 rfl rfl ?_
  refine ev_dup 12 rfl dX5_addPerson_11 q21 ?_
  refine ev_getI (ki := 0) 15 rfl dX5_addPerson_12 lf_5_9 (Or.inl rfl) (s_30 hst) (by decide) rfl ?_
  refine ev_iconst 16 rfl dX5_addPerson_15 (by decide) ?_
  obtain ⟨sd, H⟩ := H
  refine ev_iadd 17 rfl dX5_addPerson_16 sd ?_
  refine ev_putI (ki := 0) 20 rfl dX5_addPerson_17 lf_5_9 (Or.inl rfl) (s_30 hst) (by decide) rfl ?_
  obtain ⟨h3, eh3⟩ : ∃ z : qM, z = qup h2 30 0 ((h2 30 0) + 1) := ⟨_, rfl⟩
  rw [← eh3]
  have H := H h3 eh3
  refine ev_aload_n 21 rfl dX5_addPerson_20 rfl rfl ?_
  refine ev_getI (ki := 0) 24 rfl dX5_addPerson_21 lf_5_9 (Or.inl rfl) (s_30 hst) (by decide) rfl ?_
  refine ev_iconst 25 rfl dX5_addPerson_24 (by decide) ?_
  obtain ⟨sd, H⟩ := H
  refine ev_isub 26 rfl dX5_addPerson_25 sd ?_
  exact ev_retI dX5_addPerson_26 rfl H

set_option maxRecDepth 20000 in
theorem b_X5_addAway {X : qX} {d : Nat} {sh : qS} {pt h : qM} {K : qM → Prop} {v1 v2 v3 v4 : Int} (hst : St sh pt)
    (H : (0 ≤ (h 30 1) ∧ (h 30 1) < 60) ∧ ∀ h2 : qM, h2 = qup h 33 (h 30 1) v1 → (0 ≤ (h2 30 1) ∧ (h2 30 1) < 60) ∧ ∀ h4 : qM, h4 = qup h2 34 (h2 30 1) v2 → (0 ≤ (h4 30 1) ∧ (h4 30 1) < 60) ∧ ∀ h6 : qM, h6 = qup h4 35 (h4 30 1) v3 → (0 ≤ (h6 30 1) ∧ (h6 30 1) < 60) ∧ ∀ h8 : qM, h8 = qup h6 36 (h6 30 1) v4 → (qI ((h8 30 1) + 1)) ∧ ∀ h9 : qM, h9 = qup h8 30 1 ((h8 30 1) + 1) → ∀ h10 : qM, h10 = qup h9 30 2 v4 → K h10) :
    RunV X d mX5_addAway [(2, 30), (0, v1), (0, v2), (0, v3), (0, v4)] sh pt h K := by
  show Ev X d 0 0 mX5_addAway 0 [(2, 30), (0, v1), (0, v2), (0, v3), (0, v4)] [] (sh, pt, h) (qRV sh pt K)
  refine ev_aload_n 1 rfl dX5_addAway_0 rfl rfl ?_
  refine ev_getR (ki := 5) (v := 33) 4 rfl dX5_addAway_1 lf_5_30 (s_30 hst) (by decide) rfl (p_30_5 hst) ?_
  refine ev_aload_n 5 rfl dX5_addAway_4 rfl rfl ?_
  refine ev_getI (ki := 1) 8 rfl dX5_addAway_5 lf_5_15 (Or.inl rfl) (s_30 hst) (by decide) rfl ?_
  refine ev_iload_n 9 rfl dX5_addAway_8 rfl rfl ?_
  obtain ⟨b1, H⟩ := H
  refine ev_iastore 10 rfl dX5_addAway_9 (s_33 hst) b1.1 b1.2 ?_
  obtain ⟨h2, eh2⟩ : ∃ z : qM, z = qup h 33 (h 30 1) v1 := ⟨_, rfl⟩
  rw [← eh2]
  have H := H h2 eh2
  refine ev_aload_n 11 rfl dX5_addAway_10 rfl rfl ?_
  refine ev_getR (ki := 6) (v := 34) 14 rfl dX5_addAway_11 lf_5_33 (s_30 hst) (by decide) rfl (p_30_6 hst) ?_
  refine ev_aload_n 15 rfl dX5_addAway_14 rfl rfl ?_
  refine ev_getI (ki := 1) 18 rfl dX5_addAway_15 lf_5_15 (Or.inl rfl) (s_30 hst) (by decide) rfl ?_
  refine ev_iload_n 19 rfl dX5_addAway_18 rfl rfl ?_
  obtain ⟨b3, H⟩ := H
  refine ev_iastore 20 rfl dX5_addAway_19 (s_34 hst) b3.1 b3.2 ?_
  obtain ⟨h4, eh4⟩ : ∃ z : qM, z = qup h2 34 (h2 30 1) v2 := ⟨_, rfl⟩
  rw [← eh4]
  have H := H h4 eh4
  refine ev_aload_n 21 rfl dX5_addAway_20 rfl rfl ?_
  refine ev_getR (ki := 7) (v := 35) 24 rfl dX5_addAway_21 lf_5_36 (s_30 hst) (by decide) rfl (p_30_7 hst) ?_
  refine ev_aload_n 25 rfl dX5_addAway_24 rfl rfl ?_
  refine ev_getI (ki := 1) 28 rfl dX5_addAway_25 lf_5_15 (Or.inl rfl) (s_30 hst) (by decide) rfl ?_
  refine ev_iload_n 29 rfl dX5_addAway_28 rfl rfl ?_
  obtain ⟨b5, H⟩ := H
  refine ev_iastore 30 rfl dX5_addAway_29 (s_35 hst) b5.1 b5.2 ?_
  obtain ⟨h6, eh6⟩ : ∃ z : qM, z = qup h4 35 (h4 30 1) v3 := ⟨_, rfl⟩
  rw [← eh6]
  have H := H h6 eh6
  refine ev_aload_n 31 rfl dX5_addAway_30 rfl rfl ?_
  refine ev_getR (ki := 8) (v := 36) 34 rfl dX5_addAway_31 lf_5_39 (s_30 hst) (by decide) rfl (p_30_8 hst) ?_
  refine ev_aload_n 35 rfl dX5_addAway_34 rfl rfl ?_
  refine ev_getI (ki := 1) 38 rfl dX5_addAway_35 lf_5_15 (Or.inl rfl) (s_30 hst) (by decide) rfl ?_
  refine ev_iload 40 rfl dX5_addAway_38 rfl ?_
  obtain ⟨b7, H⟩ := H
  refine ev_iastore 41 rfl dX5_addAway_40 (s_36 hst) b7.1 b7.2 ?_
  obtain ⟨h8, eh8⟩ : ∃ z : qM, z = qup h6 36 (h6 30 1) v4 := ⟨_, rfl⟩
  rw [← eh8]
  have H := H h8 eh8
  refine ev_aload_n 42 rfl dX5_addAway_41 rfl rfl ?_
  refine ev_dup 43 rfl dX5_addAway_42 q21 ?_
  refine ev_getI (ki := 1) 46 rfl dX5_addAway_43 lf_5_15 (Or.inl rfl) (s_30 hst) (by decide) rfl ?_
  refine ev_iconst 47 rfl dX5_addAway_46 (by decide) ?_
  obtain ⟨sd, H⟩ := H
  refine ev_iadd 48 rfl dX5_addAway_47 sd ?_
  refine ev_putI (ki := 1) 51 rfl dX5_addAway_48 lf_5_15 (Or.inl rfl) (s_30 hst) (by decide) rfl ?_
  obtain ⟨h9, eh9⟩ : ∃ z : qM, z = qup h8 30 1 ((h8 30 1) + 1) := ⟨_, rfl⟩
  rw [← eh9]
  have H := H h9 eh9
  refine ev_aload_n 52 rfl dX5_addAway_51 rfl rfl ?_
  refine ev_iload 54 rfl dX5_addAway_52 rfl ?_
  refine ev_putI (ki := 2) 57 rfl dX5_addAway_54 lf_5_18 (Or.inl rfl) (s_30 hst) (by decide) rfl ?_
  obtain ⟨h10, eh10⟩ : ∃ z : qM, z = qup h9 30 2 v4 := ⟨_, rfl⟩
  rw [← eh10]
  have H := H h10 eh10
  exact ev_retV dX5_addAway_57 rfl H

set_option maxRecDepth 20000 in
theorem b_X5_fill {X : qX} {d : Nat} {sh : qS} {pt h : qM} {K : Int → qM → Prop} {v1 v2 v3 : Int} (hst : St sh pt)
    (H : ∀ h1 : qM, h1 = qup h 30 13 v1 → RunI X d mX5_gone [(2, 30), (0, v2), (0, v3)] sh pt h1 (fun r3 h2 => RunV X d mX5_layCan [(2, 30), (0, r3)] sh pt h2 (fun h4 => RunV X d mJ7_fill_53178 [(2, 31), (0, (-1))] sh pt h4 (fun h5 => RunV X d mJ7_fill_53178 [(2, 38), (0, (-1))] sh pt h5 (fun h6 => EvI X (d + 1) mX5_fill 37 [(2, 30), (8, -1), (8, -1), (8, -1), (0, 0), (0, 0), (8, -1)] [] sh pt h6 K))))) :
    RunI X (d + 1) mX5_fill [(2, 30), (0, v1), (0, v2), (0, v3)] sh pt h K := by
  show Ev X (d + 1) 0 0 mX5_fill 0 [(2, 30), (0, v1), (0, v2), (0, v3), (8, -1), (8, -1), (8, -1)] [] (sh, pt, h) (qRI sh pt K)
  refine ev_aload_n 1 rfl dX5_fill_0 rfl rfl ?_
  refine ev_iload_n 2 rfl dX5_fill_1 rfl rfl ?_
  refine ev_putI (ki := 13) 5 rfl dX5_fill_2 lf_5_54 (Or.inl rfl) (s_30 hst) (by decide) rfl ?_
  obtain ⟨h1, eh1⟩ : ∃ z : qM, z = qup h 30 13 v1 := ⟨_, rfl⟩
  rw [← eh1]
  have H := H h1 eh1
  refine ev_aload_n 6 rfl dX5_fill_5 rfl rfl ?_
  refine ev_aload_n 7 rfl dX5_fill_6 rfl rfl ?_
  refine ev_iload_n 8 rfl dX5_fill_7 rfl rfl ?_
  refine ev_iload_n 9 rfl dX5_fill_8 rfl rfl ?_
  refine ev_cVI (As := [(0, v2), (0, v3)]) (rest := [(2, 30)]) 12 rfl dX5_fill_9 lm_5_57 mm_X5_gone (s_30 hst) rfl rfl (Nat.le_of_ble_eq_true rfl) (Nat.le_of_ble_eq_true rfl) (Nat.le_refl _) H ?_
  intro r3 h2 H
  refine ev_cVV (As := [(0, r3)]) (rest := []) 15 rfl dX5_fill_12 lm_5_61 mm_X5_layCan (s_30 hst) rfl rfl (Nat.le_of_ble_eq_true rfl) (Nat.le_of_ble_eq_true rfl) (Nat.le_refl _) H ?_
  intro h4 H
  refine ev_aload_n 16 rfl dX5_fill_15 rfl rfl ?_
  refine ev_getR (ki := 3) (v := 31) 19 rfl dX5_fill_16 lf_5_23 (s_30 hst) (by decide) rfl (p_30_3 hst) ?_
  refine ev_iconst 20 rfl dX5_fill_19 (by decide) ?_
  refine ev_cSV (As := [(2, 31), (0, (-1))]) (rest := []) 23 rfl dX5_fill_20 lm_5_65 mm_J7_fill_53178 rfl rfl (Nat.le_of_ble_eq_true rfl) (Nat.le_of_ble_eq_true rfl) (Nat.le_refl _) H ?_
  intro h5 H
  refine ev_aload_n 24 rfl dX5_fill_23 rfl rfl ?_
  refine ev_getR (ki := 10) (v := 38) 27 rfl dX5_fill_24 lf_5_45 (s_30 hst) (by decide) rfl (p_30_10 hst) ?_
  refine ev_iconst 28 rfl dX5_fill_27 (by decide) ?_
  refine ev_cSV (As := [(2, 38), (0, (-1))]) (rest := []) 31 rfl dX5_fill_28 lm_5_65 mm_J7_fill_53178 rfl rfl (Nat.le_of_ble_eq_true rfl) (Nat.le_of_ble_eq_true rfl) (Nat.le_refl _) H ?_
  intro h6 H
  refine ev_iconst 32 rfl dX5_fill_31 (by decide) ?_
  refine ev_istore (L1 := [(2, 30), (0, v1), (0, v2), (0, v3), (0, 0), (8, -1), (8, -1)]) 34 rfl dX5_fill_32 (Nat.le_of_ble_eq_true rfl) rfl ?_
  refine ev_iconst 35 rfl dX5_fill_34 (by decide) ?_
  refine ev_istore (L1 := [(2, 30), (0, v1), (0, v2), (0, v3), (0, 0), (0, 0), (8, -1)]) 37 rfl dX5_fill_35 (Nat.le_of_ble_eq_true rfl) rfl ?_
  refine Ev.drop [1, 2, 3] rfl ?_
  exact H

set_option maxRecDepth 20000 in
theorem b_X5_fill_37 {X : qX} {d : Nat} {sh : qS} {pt h : qM} {K : Int → qM → Prop} {v4 v5 : Int} (hst : St sh pt)
    (H : (((h 30 13) ≤ v5 → EvI X (d + 1) mX5_fill 70 [(2, 30), (8, -1), (8, -1), (8, -1), (0, v4), (0, 0), (0, 0)] [] sh pt h K) ∧ (v5 < (h 30 13) → RunI X d mX5_fillOneMore [(2, 30), (0, 0), (0, 0)] sh pt h (fun r2 h1 => ((r2 = 0 → EvI X (d + 1) mX5_fill 70 [(2, 30), (8, -1), (8, -1), (8, -1), (0, v4), (0, 0), (0, 0)] [] sh pt h1 K) ∧ (¬ r2 = 0 → (qI (v4 + 1)) ∧ (qI (v5 + 1)) ∧ EvI X (d + 1) mX5_fill 37 [(2, 30), (8, -1), (8, -1), (8, -1), (0, (v4 + 1)), (0, (v5 + 1)), (8, -1)] [] sh pt h1 K)))))) :
    EvI X (d + 1) mX5_fill 37 [(2, 30), (8, -1), (8, -1), (8, -1), (0, v4), (0, v5), (8, -1)] [] sh pt h K := by
  show Ev X (d + 1) 0 0 mX5_fill 37 [(2, 30), (8, -1), (8, -1), (8, -1), (0, v4), (0, v5), (8, -1)] [] (sh, pt, h) (qRI sh pt K)
  refine ev_iload 39 rfl dX5_fill_37 rfl ?_
  refine ev_aload_n 40 rfl dX5_fill_39 rfl rfl ?_
  refine ev_getI (ki := 13) 43 rfl dX5_fill_40 lf_5_54 (Or.inl rfl) (s_30 hst) (by decide) rfl ?_
  refine ev_icmp_ge (tgt := 64) 46 rfl dX5_fill_43 (by decide) (fun cd => ?_) (fun cd => ?_)
  · have H := H.1 cd
    refine ev_iconst 65 rfl dX5_fill_64 (by decide) ?_
    refine ev_istore (L1 := [(2, 30), (8, -1), (8, -1), (8, -1), (0, v4), (0, 0), (8, -1)]) 67 rfl dX5_fill_65 (Nat.le_of_ble_eq_true rfl) rfl ?_
    refine ev_iconst 68 rfl dX5_fill_67 (by decide) ?_
    refine ev_istore (L1 := [(2, 30), (8, -1), (8, -1), (8, -1), (0, v4), (0, 0), (0, 0)]) 70 rfl dX5_fill_68 (Nat.le_of_ble_eq_true rfl) rfl ?_
    exact H
  · have H := H.2 cd
    refine ev_aload_n 47 rfl dX5_fill_46 rfl rfl ?_
    refine ev_iconst 48 rfl dX5_fill_47 (by decide) ?_
    refine ev_iconst 49 rfl dX5_fill_48 (by decide) ?_
    refine ev_cVI (As := [(0, 0), (0, 0)]) (rest := []) 52 rfl dX5_fill_49 lm_5_71 mm_X5_fillOneMore (s_30 hst) rfl rfl (Nat.le_of_ble_eq_true rfl) (Nat.le_of_ble_eq_true rfl) (Nat.le_refl _) H ?_
    intro r2 h1 H
    refine ev_if_eq (tgt := 64) 55 rfl dX5_fill_52 (by decide) (fun cd => ?_) (fun cd => ?_)
    · have H := H.1 cd
      refine ev_iconst 65 rfl dX5_fill_64 (by decide) ?_
      refine ev_istore (L1 := [(2, 30), (8, -1), (8, -1), (8, -1), (0, v4), (0, 0), (8, -1)]) 67 rfl dX5_fill_65 (Nat.le_of_ble_eq_true rfl) rfl ?_
      refine ev_iconst 68 rfl dX5_fill_67 (by decide) ?_
      refine ev_istore (L1 := [(2, 30), (8, -1), (8, -1), (8, -1), (0, v4), (0, 0), (0, 0)]) 70 rfl dX5_fill_68 (Nat.le_of_ble_eq_true rfl) rfl ?_
      exact H
    · have H := H.2 cd
      obtain ⟨sd, H⟩ := H
      refine ev_iinc (L1 := [(2, 30), (8, -1), (8, -1), (8, -1), (0, (v4 + 1)), (0, v5), (8, -1)]) 58 rfl dX5_fill_55 rfl sd (Nat.le_of_ble_eq_true rfl) rfl ?_
      obtain ⟨sd, H⟩ := H
      refine ev_iinc (L1 := [(2, 30), (8, -1), (8, -1), (8, -1), (0, (v4 + 1)), (0, (v5 + 1)), (8, -1)]) 61 rfl dX5_fill_58 rfl sd (Nat.le_of_ble_eq_true rfl) rfl ?_
      refine ev_goto (tgt := 37) dX5_fill_61 (by decide) ?_
      exact H

set_option maxRecDepth 20000 in
theorem b_X5_fill_70 {X : qX} {d : Nat} {sh : qS} {pt h : qM} {K : Int → qM → Prop} {v4 v5 v6 : Int} (hst : St sh pt)
    (H : (((h 30 13) ≤ v6 → K v4 h) ∧ (v6 < (h 30 13) → RunI X d mX5_settle [(2, 30), (0, v6), (0, v5)] sh pt h (fun r2 h1 => (qI (v6 + 1)) ∧ EvI X (d + 1) mX5_fill 70 [(2, 30), (8, -1), (8, -1), (8, -1), (0, v4), (0, r2), (0, (v6 + 1))] [] sh pt h1 K)))) :
    EvI X (d + 1) mX5_fill 70 [(2, 30), (8, -1), (8, -1), (8, -1), (0, v4), (0, v5), (0, v6)] [] sh pt h K := by
  show Ev X (d + 1) 0 0 mX5_fill 70 [(2, 30), (8, -1), (8, -1), (8, -1), (0, v4), (0, v5), (0, v6)] [] (sh, pt, h) (qRI sh pt K)
  refine ev_iload 72 rfl dX5_fill_70 rfl ?_
  refine ev_aload_n 73 rfl dX5_fill_72 rfl rfl ?_
  refine ev_getI (ki := 13) 76 rfl dX5_fill_73 lf_5_54 (Or.inl rfl) (s_30 hst) (by decide) rfl ?_
  refine ev_icmp_ge (tgt := 95) 79 rfl dX5_fill_76 (by decide) (fun cd => ?_) (fun cd => ?_)
  · have H := H.1 cd
    refine ev_iload 97 rfl dX5_fill_95 rfl ?_
    exact ev_retI dX5_fill_97 rfl H
  · have H := H.2 cd
    refine ev_aload_n 80 rfl dX5_fill_79 rfl rfl ?_
    refine ev_iload 82 rfl dX5_fill_80 rfl ?_
    refine ev_iload 84 rfl dX5_fill_82 rfl ?_
    refine ev_cVI (As := [(0, v6), (0, v5)]) (rest := []) 87 rfl dX5_fill_84 lm_5_75 mm_X5_settle (s_30 hst) rfl rfl (Nat.le_of_ble_eq_true rfl) (Nat.le_of_ble_eq_true rfl) (Nat.le_refl _) H ?_
    intro r2 h1 H
    refine ev_istore (L1 := [(2, 30), (8, -1), (8, -1), (8, -1), (0, v4), (0, r2), (0, v6)]) 89 rfl dX5_fill_87 (Nat.le_of_ble_eq_true rfl) rfl ?_
    obtain ⟨sd, H⟩ := H
    refine ev_iinc (L1 := [(2, 30), (8, -1), (8, -1), (8, -1), (0, v4), (0, r2), (0, (v6 + 1))]) 92 rfl dX5_fill_89 rfl sd (Nat.le_of_ble_eq_true rfl) rfl ?_
    refine ev_goto (tgt := 70) dX5_fill_92 (by decide) ?_
    exact H

set_option maxRecDepth 20000 in
theorem b_X5_gone {X : qX} {d : Nat} {sh : qS} {pt h : qM} {K : Int → qM → Prop} {v1 v2 : Int} (hst : St sh pt)
    (H : EvI X d mX5_gone 5 [(2, 30), (0, v1), (0, v2), (0, 0), (0, 0)] [] sh pt h K) :
    RunI X d mX5_gone [(2, 30), (0, v1), (0, v2)] sh pt h K := by
  show Ev X d 0 0 mX5_gone 0 [(2, 30), (0, v1), (0, v2), (8, -1), (8, -1)] [] (sh, pt, h) (qRI sh pt K)
  refine ev_iconst 1 rfl dX5_gone_0 (by decide) ?_
  refine ev_istore_n (L1 := [(2, 30), (0, v1), (0, v2), (0, 0), (8, -1)]) 2 rfl dX5_gone_1 rfl (Nat.le_of_ble_eq_true rfl) rfl ?_
  refine ev_iconst 3 rfl dX5_gone_2 (by decide) ?_
  refine ev_istore (L1 := [(2, 30), (0, v1), (0, v2), (0, 0), (0, 0)]) 5 rfl dX5_gone_3 (Nat.le_of_ble_eq_true rfl) rfl ?_
  exact H

set_option maxRecDepth 20000 in
theorem b_X5_gone_5 {X : qX} {d : Nat} {sh : qS} {pt h : qM} {K : Int → qM → Prop} {v1 v2 v3 v4 : Int} (hst : St sh pt)
    (H : (((h 30 1) ≤ v4 → K v3 h) ∧ (v4 < (h 30 1) → (0 ≤ v4 ∧ v4 < 60) ∧ ((v2 < (h 36 v4) → (qI (v4 + 1)) ∧ EvI X d mX5_gone 5 [(2, 30), (0, v1), (0, v2), (0, v3), (0, (v4 + 1))] [] sh pt h K) ∧ ((h 36 v4) ≤ v2 → (0 ≤ v4 ∧ v4 < 60) ∧ ((v1 < (h 34 v4) → (qI (v4 + 1)) ∧ EvI X d mX5_gone 5 [(2, 30), (0, v1), (0, v2), (0, v3), (0, (v4 + 1))] [] sh pt h K) ∧ ((h 34 v4) ≤ v1 → (0 ≤ v4 ∧ v4 < 60) ∧ (((h 35 v4) < v1 → (qI (v4 + 1)) ∧ EvI X d mX5_gone 5 [(2, 30), (0, v1), (0, v2), (0, v3), (0, (v4 + 1))] [] sh pt h K) ∧ (v1 ≤ (h 35 v4) → (0 ≤ v4 ∧ v4 < 60) ∧ ∀ x5 : Int, x5 = (qior v3 (qishl 1 (h 33 v4))) → (qI (v4 + 1)) ∧ EvI X d mX5_gone 5 [(2, 30), (0, v1), (0, v2), (0, x5), (0, (v4 + 1))] [] sh pt h K))))))))) :
    EvI X d mX5_gone 5 [(2, 30), (0, v1), (0, v2), (0, v3), (0, v4)] [] sh pt h K := by
  show Ev X d 0 0 mX5_gone 5 [(2, 30), (0, v1), (0, v2), (0, v3), (0, v4)] [] (sh, pt, h) (qRI sh pt K)
  refine ev_iload 7 rfl dX5_gone_5 rfl ?_
  refine ev_aload_n 8 rfl dX5_gone_7 rfl rfl ?_
  refine ev_getI (ki := 1) 11 rfl dX5_gone_8 lf_5_15 (Or.inl rfl) (s_30 hst) (by decide) rfl ?_
  refine ev_icmp_ge (tgt := 65) 14 rfl dX5_gone_11 (by decide) (fun cd => ?_) (fun cd => ?_)
  · have H := H.1 cd
    refine ev_iload_n 66 rfl dX5_gone_65 rfl rfl ?_
    exact ev_retI dX5_gone_66 rfl H
  · have H := H.2 cd
    refine ev_aload_n 15 rfl dX5_gone_14 rfl rfl ?_
    refine ev_getR (ki := 8) (v := 36) 18 rfl dX5_gone_15 lf_5_39 (s_30 hst) (by decide) rfl (p_30_8 hst) ?_
    refine ev_iload 20 rfl dX5_gone_18 rfl ?_
    obtain ⟨b1, H⟩ := H
    refine ev_iaload 21 rfl dX5_gone_20 (s_36 hst) b1.1 b1.2 ?_
    refine ev_iload_n 22 rfl dX5_gone_21 rfl rfl ?_
    refine ev_icmp_gt (tgt := 59) 25 rfl dX5_gone_22 (by decide) (fun cd => ?_) (fun cd => ?_)
    · have H := H.1 cd
      obtain ⟨sd, H⟩ := H
      refine ev_iinc (L1 := [(2, 30), (0, v1), (0, v2), (0, v3), (0, (v4 + 1))]) 62 rfl dX5_gone_59 rfl sd (Nat.le_of_ble_eq_true rfl) rfl ?_
      refine ev_goto (tgt := 5) dX5_gone_62 (by decide) ?_
      exact H
    · have H := H.2 cd
      refine ev_aload_n 26 rfl dX5_gone_25 rfl rfl ?_
      refine ev_getR (ki := 6) (v := 34) 29 rfl dX5_gone_26 lf_5_33 (s_30 hst) (by decide) rfl (p_30_6 hst) ?_
      refine ev_iload 31 rfl dX5_gone_29 rfl ?_
      obtain ⟨b2, H⟩ := H
      refine ev_iaload 32 rfl dX5_gone_31 (s_34 hst) b2.1 b2.2 ?_
      refine ev_iload_n 33 rfl dX5_gone_32 rfl rfl ?_
      refine ev_icmp_gt (tgt := 59) 36 rfl dX5_gone_33 (by decide) (fun cd => ?_) (fun cd => ?_)
      · have H := H.1 cd
        obtain ⟨sd, H⟩ := H
        refine ev_iinc (L1 := [(2, 30), (0, v1), (0, v2), (0, v3), (0, (v4 + 1))]) 62 rfl dX5_gone_59 rfl sd (Nat.le_of_ble_eq_true rfl) rfl ?_
        refine ev_goto (tgt := 5) dX5_gone_62 (by decide) ?_
        exact H
      · have H := H.2 cd
        refine ev_iload_n 37 rfl dX5_gone_36 rfl rfl ?_
        refine ev_aload_n 38 rfl dX5_gone_37 rfl rfl ?_
        refine ev_getR (ki := 7) (v := 35) 41 rfl dX5_gone_38 lf_5_36 (s_30 hst) (by decide) rfl (p_30_7 hst) ?_
        refine ev_iload 43 rfl dX5_gone_41 rfl ?_
        obtain ⟨b3, H⟩ := H
        refine ev_iaload 44 rfl dX5_gone_43 (s_35 hst) b3.1 b3.2 ?_
        refine ev_icmp_gt (tgt := 59) 47 rfl dX5_gone_44 (by decide) (fun cd => ?_) (fun cd => ?_)
        · have H := H.1 cd
          obtain ⟨sd, H⟩ := H
          refine ev_iinc (L1 := [(2, 30), (0, v1), (0, v2), (0, v3), (0, (v4 + 1))]) 62 rfl dX5_gone_59 rfl sd (Nat.le_of_ble_eq_true rfl) rfl ?_
          refine ev_goto (tgt := 5) dX5_gone_62 (by decide) ?_
          exact H
        · have H := H.2 cd
          refine ev_iload_n 48 rfl dX5_gone_47 rfl rfl ?_
          refine ev_iconst 49 rfl dX5_gone_48 (by decide) ?_
          refine ev_aload_n 50 rfl dX5_gone_49 rfl rfl ?_
          refine ev_getR (ki := 5) (v := 33) 53 rfl dX5_gone_50 lf_5_30 (s_30 hst) (by decide) rfl (p_30_5 hst) ?_
          refine ev_iload 55 rfl dX5_gone_53 rfl ?_
          obtain ⟨b4, H⟩ := H
          refine ev_iaload 56 rfl dX5_gone_55 (s_33 hst) b4.1 b4.2 ?_
          refine ev_ishl 57 rfl dX5_gone_56 ?_
          refine ev_ior 58 rfl dX5_gone_57 ?_
          obtain ⟨x5, ex5⟩ : ∃ z : Int, z = (qior v3 (qishl 1 (h 33 v4))) := ⟨_, rfl⟩
          rw [← ex5]
          have H := H x5 ex5
          refine ev_istore_n (L1 := [(2, 30), (0, v1), (0, v2), (0, x5), (0, v4)]) 59 rfl dX5_gone_58 rfl (Nat.le_of_ble_eq_true rfl) rfl ?_
          obtain ⟨sd, H⟩ := H
          refine ev_iinc (L1 := [(2, 30), (0, v1), (0, v2), (0, x5), (0, (v4 + 1))]) 62 rfl dX5_gone_59 rfl sd (Nat.le_of_ble_eq_true rfl) rfl ?_
          refine ev_goto (tgt := 5) dX5_gone_62 (by decide) ?_
          exact H

set_option maxRecDepth 20000 in
theorem b_X5_layCan {X : qX} {d : Nat} {sh : qS} {pt h : qM} {K : qM → Prop} {v1 : Int} (hst : St sh pt)
    (H : EvV X d mX5_layCan 2 [(2, 30), (0, v1), (0, 0), (8, -1)] [] sh pt h K) :
    RunV X d mX5_layCan [(2, 30), (0, v1)] sh pt h K := by
  show Ev X d 0 0 mX5_layCan 0 [(2, 30), (0, v1), (8, -1), (8, -1)] [] (sh, pt, h) (qRV sh pt K)
  refine ev_iconst 1 rfl dX5_layCan_0 (by decide) ?_
  refine ev_istore_n (L1 := [(2, 30), (0, v1), (0, 0), (8, -1)]) 2 rfl dX5_layCan_1 rfl (Nat.le_of_ble_eq_true rfl) rfl ?_
  exact H

set_option maxRecDepth 20000 in
theorem b_X5_layCan_2 {X : qX} {d : Nat} {sh : qS} {pt h : qM} {K : qM → Prop} {v1 v2 : Int} (hst : St sh pt)
    (H : (((h 30 13) ≤ v2 → K h) ∧ (v2 < (h 30 13) → (0 ≤ v2 ∧ v2 < 20) ∧ ∀ h2 : qM, h2 = qup h 37 v2 0 → EvV X d mX5_layCan 19 [(2, 30), (0, v1), (0, v2), (0, 0)] [] sh pt h2 K))) :
    EvV X d mX5_layCan 2 [(2, 30), (0, v1), (0, v2), (8, -1)] [] sh pt h K := by
  show Ev X d 0 0 mX5_layCan 2 [(2, 30), (0, v1), (0, v2), (8, -1)] [] (sh, pt, h) (qRV sh pt K)
  refine ev_iload_n 3 rfl dX5_layCan_2 rfl rfl ?_
  refine ev_aload_n 4 rfl dX5_layCan_3 rfl rfl ?_
  refine ev_getI (ki := 13) 7 rfl dX5_layCan_4 lf_5_54 (Or.inl rfl) (s_30 hst) (by decide) rfl ?_
  refine ev_icmp_ge (tgt := 72) 10 rfl dX5_layCan_7 (by decide) (fun cd => ?_) (fun cd => ?_)
  · have H := H.1 cd
    exact ev_retV dX5_layCan_72 rfl H
  · have H := H.2 cd
    refine ev_aload_n 11 rfl dX5_layCan_10 rfl rfl ?_
    refine ev_getR (ki := 9) (v := 37) 14 rfl dX5_layCan_11 lf_5_42 (s_30 hst) (by decide) rfl (p_30_9 hst) ?_
    refine ev_iload_n 15 rfl dX5_layCan_14 rfl rfl ?_
    refine ev_iconst 16 rfl dX5_layCan_15 (by decide) ?_
    obtain ⟨b1, H⟩ := H
    refine ev_iastore 17 rfl dX5_layCan_16 (s_37 hst) b1.1 b1.2 ?_
    obtain ⟨h2, eh2⟩ : ∃ z : qM, z = qup h 37 v2 0 := ⟨_, rfl⟩
    rw [← eh2]
    have H := H h2 eh2
    refine ev_iconst 18 rfl dX5_layCan_17 (by decide) ?_
    refine ev_istore_n (L1 := [(2, 30), (0, v1), (0, v2), (0, 0)]) 19 rfl dX5_layCan_18 rfl (Nat.le_of_ble_eq_true rfl) rfl ?_
    exact H

set_option maxRecDepth 20000 in
theorem b_X5_layCan_19 {X : qX} {d : Nat} {sh : qS} {pt h : qM} {K : qM → Prop} {v1 v2 v3 : Int} (hst : St sh pt)
    (H : (((h 30 0) ≤ v3 → (qI (v2 + 1)) ∧ EvV X d mX5_layCan 2 [(2, 30), (0, v1), (0, (v2 + 1)), (8, -1)] [] sh pt h K) ∧ (v3 < (h 30 0) → ((¬ (qiand (qiushr v1 v3) 1) = 0 → (qI (v3 + 1)) ∧ EvV X d mX5_layCan 19 [(2, 30), (0, v1), (0, v2), (0, (v3 + 1))] [] sh pt h K) ∧ ((qiand (qiushr v1 v3) 1) = 0 → (0 ≤ v3 ∧ v3 < 16) ∧ (((qiand (qiushr (h 32 v3) v2) 1) = 0 → (qI (v3 + 1)) ∧ EvV X d mX5_layCan 19 [(2, 30), (0, v1), (0, v2), (0, (v3 + 1))] [] sh pt h K) ∧ (¬ (qiand (qiushr (h 32 v3) v2) 1) = 0 → (0 ≤ v2 ∧ v2 < 20) ∧ (0 ≤ v2 ∧ v2 < 20) ∧ ∀ h4 : qM, h4 = qup h 37 v2 (qior (h 37 v2) (qishl 1 v3)) → (qI (v3 + 1)) ∧ EvV X d mX5_layCan 19 [(2, 30), (0, v1), (0, v2), (0, (v3 + 1))] [] sh pt h4 K))))))) :
    EvV X d mX5_layCan 19 [(2, 30), (0, v1), (0, v2), (0, v3)] [] sh pt h K := by
  show Ev X d 0 0 mX5_layCan 19 [(2, 30), (0, v1), (0, v2), (0, v3)] [] (sh, pt, h) (qRV sh pt K)
  refine ev_iload_n 20 rfl dX5_layCan_19 rfl rfl ?_
  refine ev_aload_n 21 rfl dX5_layCan_20 rfl rfl ?_
  refine ev_getI (ki := 0) 24 rfl dX5_layCan_21 lf_5_9 (Or.inl rfl) (s_30 hst) (by decide) rfl ?_
  refine ev_icmp_ge (tgt := 66) 27 rfl dX5_layCan_24 (by decide) (fun cd => ?_) (fun cd => ?_)
  · have H := H.1 cd
    obtain ⟨sd, H⟩ := H
    refine ev_iinc (L1 := [(2, 30), (0, v1), (0, (v2 + 1)), (0, v3)]) 69 rfl dX5_layCan_66 rfl sd (Nat.le_of_ble_eq_true rfl) rfl ?_
    refine ev_goto (tgt := 2) dX5_layCan_69 (by decide) ?_
    refine Ev.drop [3] rfl ?_
    exact H
  · have H := H.2 cd
    refine ev_iload_n 28 rfl dX5_layCan_27 rfl rfl ?_
    refine ev_iload_n 29 rfl dX5_layCan_28 rfl rfl ?_
    refine ev_iushr 30 rfl dX5_layCan_29 ?_
    refine ev_iconst 31 rfl dX5_layCan_30 (by decide) ?_
    refine ev_iand 32 rfl dX5_layCan_31 ?_
    refine ev_if_ne (tgt := 60) 35 rfl dX5_layCan_32 (by decide) (fun cd => ?_) (fun cd => ?_)
    · have H := H.1 cd
      obtain ⟨sd, H⟩ := H
      refine ev_iinc (L1 := [(2, 30), (0, v1), (0, v2), (0, (v3 + 1))]) 63 rfl dX5_layCan_60 rfl sd (Nat.le_of_ble_eq_true rfl) rfl ?_
      refine ev_goto (tgt := 19) dX5_layCan_63 (by decide) ?_
      exact H
    · have H := H.2 cd
      refine ev_aload_n 36 rfl dX5_layCan_35 rfl rfl ?_
      refine ev_getR (ki := 4) (v := 32) 39 rfl dX5_layCan_36 lf_5_27 (s_30 hst) (by decide) rfl (p_30_4 hst) ?_
      refine ev_iload_n 40 rfl dX5_layCan_39 rfl rfl ?_
      obtain ⟨b1, H⟩ := H
      refine ev_iaload 41 rfl dX5_layCan_40 (s_32 hst) b1.1 b1.2 ?_
      refine ev_iload_n 42 rfl dX5_layCan_41 rfl rfl ?_
      refine ev_iushr 43 rfl dX5_layCan_42 ?_
      refine ev_iconst 44 rfl dX5_layCan_43 (by decide) ?_
      refine ev_iand 45 rfl dX5_layCan_44 ?_
      refine ev_if_eq (tgt := 60) 48 rfl dX5_layCan_45 (by decide) (fun cd => ?_) (fun cd => ?_)
      · have H := H.1 cd
        obtain ⟨sd, H⟩ := H
        refine ev_iinc (L1 := [(2, 30), (0, v1), (0, v2), (0, (v3 + 1))]) 63 rfl dX5_layCan_60 rfl sd (Nat.le_of_ble_eq_true rfl) rfl ?_
        refine ev_goto (tgt := 19) dX5_layCan_63 (by decide) ?_
        exact H
      · have H := H.2 cd
        refine ev_aload_n 49 rfl dX5_layCan_48 rfl rfl ?_
        refine ev_getR (ki := 9) (v := 37) 52 rfl dX5_layCan_49 lf_5_42 (s_30 hst) (by decide) rfl (p_30_9 hst) ?_
        refine ev_iload_n 53 rfl dX5_layCan_52 rfl rfl ?_
        refine ev_dup2 54 rfl dX5_layCan_53 q01 q21 ?_
        obtain ⟨b2, H⟩ := H
        refine ev_iaload 55 rfl dX5_layCan_54 (s_37 hst) b2.1 b2.2 ?_
        refine ev_iconst 56 rfl dX5_layCan_55 (by decide) ?_
        refine ev_iload_n 57 rfl dX5_layCan_56 rfl rfl ?_
        refine ev_ishl 58 rfl dX5_layCan_57 ?_
        refine ev_ior 59 rfl dX5_layCan_58 ?_
        obtain ⟨b3, H⟩ := H
        refine ev_iastore 60 rfl dX5_layCan_59 (s_37 hst) b3.1 b3.2 ?_
        obtain ⟨h4, eh4⟩ : ∃ z : qM, z = qup h 37 v2 (qior (h 37 v2) (qishl 1 v3)) := ⟨_, rfl⟩
        rw [← eh4]
        have H := H h4 eh4
        obtain ⟨sd, H⟩ := H
        refine ev_iinc (L1 := [(2, 30), (0, v1), (0, v2), (0, (v3 + 1))]) 63 rfl dX5_layCan_60 rfl sd (Nat.le_of_ble_eq_true rfl) rfl ?_
        refine ev_goto (tgt := 19) dX5_layCan_63 (by decide) ?_
        exact H

set_option maxRecDepth 20000 in
theorem b_X5_settle {X : qX} {d : Nat} {sh : qS} {pt h : qM} {K : Int → qM → Prop} {v1 v2 : Int} (hst : St sh pt)
    (H : (0 ≤ v1 ∧ v1 < 20) ∧ ∀ x2 : Int, x2 = (qiand (h 37 v1) (qixor v2 (-1))) → EvI X (d + 1) mX5_settle 14 [(2, 30), (0, v1), (0, v2), (0, x2), (0, 0)] [] sh pt h K) :
    RunI X (d + 1) mX5_settle [(2, 30), (0, v1), (0, v2)] sh pt h K := by
  show Ev X (d + 1) 0 0 mX5_settle 0 [(2, 30), (0, v1), (0, v2), (8, -1), (8, -1)] [] (sh, pt, h) (qRI sh pt K)
  refine ev_aload_n 1 rfl dX5_settle_0 rfl rfl ?_
  refine ev_getR (ki := 9) (v := 37) 4 rfl dX5_settle_1 lf_5_42 (s_30 hst) (by decide) rfl (p_30_9 hst) ?_
  refine ev_iload_n 5 rfl dX5_settle_4 rfl rfl ?_
  obtain ⟨b1, H⟩ := H
  refine ev_iaload 6 rfl dX5_settle_5 (s_37 hst) b1.1 b1.2 ?_
  refine ev_iload_n 7 rfl dX5_settle_6 rfl rfl ?_
  refine ev_iconst 8 rfl dX5_settle_7 (by decide) ?_
  refine ev_ixor 9 rfl dX5_settle_8 ?_
  refine ev_iand 10 rfl dX5_settle_9 ?_
  obtain ⟨x2, ex2⟩ : ∃ z : Int, z = (qiand (h 37 v1) (qixor v2 (-1))) := ⟨_, rfl⟩
  rw [← ex2]
  have H := H x2 ex2
  refine ev_istore_n (L1 := [(2, 30), (0, v1), (0, v2), (0, x2), (8, -1)]) 11 rfl dX5_settle_10 rfl (Nat.le_of_ble_eq_true rfl) rfl ?_
  refine ev_iconst 12 rfl dX5_settle_11 (by decide) ?_
  refine ev_istore (L1 := [(2, 30), (0, v1), (0, v2), (0, x2), (0, 0)]) 14 rfl dX5_settle_12 (Nat.le_of_ble_eq_true rfl) rfl ?_
  exact H

set_option maxRecDepth 20000 in
theorem b_X5_settle_14 {X : qX} {d : Nat} {sh : qS} {pt h : qM} {K : Int → qM → Prop} {v1 v2 v3 v4 : Int} (hst : St sh pt)
    (H : (((h 30 0) ≤ v4 → K v2 h) ∧ (v4 < (h 30 0) → (((qiand (qiushr v3 v4) 1) = 0 → (qI (v4 + 1)) ∧ EvI X (d + 1) mX5_settle 14 [(2, 30), (0, v1), (0, v2), (0, v3), (0, (v4 + 1))] [] sh pt h K) ∧ (¬ (qiand (qiushr v3 v4) 1) = 0 → RunI X d mX5_tryPerson [(2, 30), (0, v1), (0, v4), (0, v2)] sh pt h (fun r2 h1 => ((r2 = 0 → (qI (v4 + 1)) ∧ EvI X (d + 1) mX5_settle 14 [(2, 30), (0, v1), (0, v2), (0, v3), (0, (v4 + 1))] [] sh pt h1 K) ∧ (¬ r2 = 0 → K (qior v2 (qishl 1 v4)) h1)))))))) :
    EvI X (d + 1) mX5_settle 14 [(2, 30), (0, v1), (0, v2), (0, v3), (0, v4)] [] sh pt h K := by
  show Ev X (d + 1) 0 0 mX5_settle 14 [(2, 30), (0, v1), (0, v2), (0, v3), (0, v4)] [] (sh, pt, h) (qRI sh pt K)
  refine ev_iload 16 rfl dX5_settle_14 rfl ?_
  refine ev_aload_n 17 rfl dX5_settle_16 rfl rfl ?_
  refine ev_getI (ki := 0) 20 rfl dX5_settle_17 lf_5_9 (Or.inl rfl) (s_30 hst) (by decide) rfl ?_
  refine ev_icmp_ge (tgt := 56) 23 rfl dX5_settle_20 (by decide) (fun cd => ?_) (fun cd => ?_)
  · have H := H.1 cd
    refine ev_iload_n 57 rfl dX5_settle_56 rfl rfl ?_
    exact ev_retI dX5_settle_57 rfl H
  · have H := H.2 cd
    refine ev_iload_n 24 rfl dX5_settle_23 rfl rfl ?_
    refine ev_iload 26 rfl dX5_settle_24 rfl ?_
    refine ev_iushr 27 rfl dX5_settle_26 ?_
    refine ev_iconst 28 rfl dX5_settle_27 (by decide) ?_
    refine ev_iand 29 rfl dX5_settle_28 ?_
    refine ev_if_eq (tgt := 50) 32 rfl dX5_settle_29 (by decide) (fun cd => ?_) (fun cd => ?_)
    · have H := H.1 cd
      obtain ⟨sd, H⟩ := H
      refine ev_iinc (L1 := [(2, 30), (0, v1), (0, v2), (0, v3), (0, (v4 + 1))]) 53 rfl dX5_settle_50 rfl sd (Nat.le_of_ble_eq_true rfl) rfl ?_
      refine ev_goto (tgt := 14) dX5_settle_53 (by decide) ?_
      exact H
    · have H := H.2 cd
      refine ev_aload_n 33 rfl dX5_settle_32 rfl rfl ?_
      refine ev_iload_n 34 rfl dX5_settle_33 rfl rfl ?_
      refine ev_iload 36 rfl dX5_settle_34 rfl ?_
      refine ev_iload_n 37 rfl dX5_settle_36 rfl rfl ?_
      refine ev_cVI (As := [(0, v1), (0, v4), (0, v2)]) (rest := []) 40 rfl dX5_settle_37 lm_5_78 mm_X5_tryPerson (s_30 hst) rfl rfl (Nat.le_of_ble_eq_true rfl) (Nat.le_of_ble_eq_true rfl) (Nat.le_refl _) H ?_
      intro r2 h1 H
      refine ev_if_eq (tgt := 50) 43 rfl dX5_settle_40 (by decide) (fun cd => ?_) (fun cd => ?_)
      · have H := H.1 cd
        obtain ⟨sd, H⟩ := H
        refine ev_iinc (L1 := [(2, 30), (0, v1), (0, v2), (0, v3), (0, (v4 + 1))]) 53 rfl dX5_settle_50 rfl sd (Nat.le_of_ble_eq_true rfl) rfl ?_
        refine ev_goto (tgt := 14) dX5_settle_53 (by decide) ?_
        exact H
      · have H := H.2 cd
        refine ev_iload_n 44 rfl dX5_settle_43 rfl rfl ?_
        refine ev_iconst 45 rfl dX5_settle_44 (by decide) ?_
        refine ev_iload 47 rfl dX5_settle_45 rfl ?_
        refine ev_ishl 48 rfl dX5_settle_47 ?_
        refine ev_ior 49 rfl dX5_settle_48 ?_
        exact ev_retI dX5_settle_49 rfl H

set_option maxRecDepth 20000 in
theorem b_X5_tryPerson {X : qX} {d : Nat} {sh : qS} {pt h : qM} {K : Int → qM → Prop} {v1 v2 v3 : Int} (hst : St sh pt)
    (H : (0 ≤ v1 ∧ v1 < 20) ∧ (0 ≤ v2 ∧ v2 < 16) ∧ ((¬ (h 38 v2) = v1 → (((h 38 v2) = (-1) → (((h 31 v1) = (-1) → EvI X (d + 1) mX5_tryPerson 52 [(2, 30), (0, v1), (0, v2), (0, v3), (0, (h 31 v1)), (0, (h 38 v2))] [] sh pt h K) ∧ (¬ (h 31 v1) = (-1) → (0 ≤ (h 31 v1) ∧ (h 31 v1) < 16) ∧ ∀ h4 : qM, h4 = qup h 38 (h 31 v1) (-1) → EvI X (d + 1) mX5_tryPerson 52 [(2, 30), (0, v1), (0, v2), (0, v3), (0, (h 31 v1)), (0, (h 38 v2))] [] sh pt h4 K))) ∧ (¬ (h 38 v2) = (-1) → (0 ≤ (h 38 v2) ∧ (h 38 v2) < 20) ∧ ∀ h6 : qM, h6 = qup h 31 (h 38 v2) (-1) → (((h 31 v1) = (-1) → EvI X (d + 1) mX5_tryPerson 52 [(2, 30), (0, v1), (0, v2), (0, v3), (0, (h 31 v1)), (0, (h 38 v2))] [] sh pt h6 K) ∧ (¬ (h 31 v1) = (-1) → (0 ≤ (h 31 v1) ∧ (h 31 v1) < 16) ∧ ∀ h8 : qM, h8 = qup h6 38 (h 31 v1) (-1) → EvI X (d + 1) mX5_tryPerson 52 [(2, 30), (0, v1), (0, v2), (0, v3), (0, (h 31 v1)), (0, (h 38 v2))] [] sh pt h8 K))))) ∧ ((h 38 v2) = v1 → K 1 h))) :
    RunI X (d + 1) mX5_tryPerson [(2, 30), (0, v1), (0, v2), (0, v3)] sh pt h K := by
  show Ev X (d + 1) 0 0 mX5_tryPerson 0 [(2, 30), (0, v1), (0, v2), (0, v3), (8, -1), (8, -1)] [] (sh, pt, h) (qRI sh pt K)
  refine ev_aload_n 1 rfl dX5_tryPerson_0 rfl rfl ?_
  refine ev_getR (ki := 3) (v := 31) 4 rfl dX5_tryPerson_1 lf_5_23 (s_30 hst) (by decide) rfl (p_30_3 hst) ?_
  refine ev_iload_n 5 rfl dX5_tryPerson_4 rfl rfl ?_
  obtain ⟨b1, H⟩ := H
  refine ev_iaload 6 rfl dX5_tryPerson_5 (s_31 hst) b1.1 b1.2 ?_
  refine ev_istore (L1 := [(2, 30), (0, v1), (0, v2), (0, v3), (0, (h 31 v1)), (8, -1)]) 8 rfl dX5_tryPerson_6 (Nat.le_of_ble_eq_true rfl) rfl ?_
  refine ev_aload_n 9 rfl dX5_tryPerson_8 rfl rfl ?_
  refine ev_getR (ki := 10) (v := 38) 12 rfl dX5_tryPerson_9 lf_5_45 (s_30 hst) (by decide) rfl (p_30_10 hst) ?_
  refine ev_iload_n 13 rfl dX5_tryPerson_12 rfl rfl ?_
  obtain ⟨b2, H⟩ := H
  refine ev_iaload 14 rfl dX5_tryPerson_13 (s_38 hst) b2.1 b2.2 ?_
  refine ev_istore (L1 := [(2, 30), (0, v1), (0, v2), (0, v3), (0, (h 31 v1)), (0, (h 38 v2))]) 16 rfl dX5_tryPerson_14 (Nat.le_of_ble_eq_true rfl) rfl ?_
  refine ev_iload 18 rfl dX5_tryPerson_16 rfl ?_
  refine ev_iload_n 19 rfl dX5_tryPerson_18 rfl rfl ?_
  refine ev_icmp_ne (tgt := 24) 22 rfl dX5_tryPerson_19 (by decide) (fun cd => ?_) (fun cd => ?_)
  · have H := H.1 cd
    refine ev_iload 26 rfl dX5_tryPerson_24 rfl ?_
    refine ev_iconst 27 rfl dX5_tryPerson_26 (by decide) ?_
    refine ev_icmp_eq (tgt := 38) 30 rfl dX5_tryPerson_27 (by decide) (fun cd => ?_) (fun cd => ?_)
    · have H := H.1 cd
      refine ev_iload 40 rfl dX5_tryPerson_38 rfl ?_
      refine ev_iconst 41 rfl dX5_tryPerson_40 (by decide) ?_
      refine ev_icmp_eq (tgt := 52) 44 rfl dX5_tryPerson_41 (by decide) (fun cd => ?_) (fun cd => ?_)
      · have H := H.1 cd
        exact H
      · have H := H.2 cd
        refine ev_aload_n 45 rfl dX5_tryPerson_44 rfl rfl ?_
        refine ev_getR (ki := 10) (v := 38) 48 rfl dX5_tryPerson_45 lf_5_45 (s_30 hst) (by decide) rfl (p_30_10 hst) ?_
        refine ev_iload 50 rfl dX5_tryPerson_48 rfl ?_
        refine ev_iconst 51 rfl dX5_tryPerson_50 (by decide) ?_
        obtain ⟨b3, H⟩ := H
        refine ev_iastore 52 rfl dX5_tryPerson_51 (s_38 hst) b3.1 b3.2 ?_
        obtain ⟨h4, eh4⟩ : ∃ z : qM, z = qup h 38 (h 31 v1) (-1) := ⟨_, rfl⟩
        rw [← eh4]
        have H := H h4 eh4
        exact H
    · have H := H.2 cd
      refine ev_aload_n 31 rfl dX5_tryPerson_30 rfl rfl ?_
      refine ev_getR (ki := 3) (v := 31) 34 rfl dX5_tryPerson_31 lf_5_23 (s_30 hst) (by decide) rfl (p_30_3 hst) ?_
      refine ev_iload 36 rfl dX5_tryPerson_34 rfl ?_
      refine ev_iconst 37 rfl dX5_tryPerson_36 (by decide) ?_
      obtain ⟨b5, H⟩ := H
      refine ev_iastore 38 rfl dX5_tryPerson_37 (s_31 hst) b5.1 b5.2 ?_
      obtain ⟨h6, eh6⟩ : ∃ z : qM, z = qup h 31 (h 38 v2) (-1) := ⟨_, rfl⟩
      rw [← eh6]
      have H := H h6 eh6
      refine ev_iload 40 rfl dX5_tryPerson_38 rfl ?_
      refine ev_iconst 41 rfl dX5_tryPerson_40 (by decide) ?_
      refine ev_icmp_eq (tgt := 52) 44 rfl dX5_tryPerson_41 (by decide) (fun cd => ?_) (fun cd => ?_)
      · have H := H.1 cd
        exact H
      · have H := H.2 cd
        refine ev_aload_n 45 rfl dX5_tryPerson_44 rfl rfl ?_
        refine ev_getR (ki := 10) (v := 38) 48 rfl dX5_tryPerson_45 lf_5_45 (s_30 hst) (by decide) rfl (p_30_10 hst) ?_
        refine ev_iload 50 rfl dX5_tryPerson_48 rfl ?_
        refine ev_iconst 51 rfl dX5_tryPerson_50 (by decide) ?_
        obtain ⟨b7, H⟩ := H
        refine ev_iastore 52 rfl dX5_tryPerson_51 (s_38 hst) b7.1 b7.2 ?_
        obtain ⟨h8, eh8⟩ : ∃ z : qM, z = qup h6 38 (h 31 v1) (-1) := ⟨_, rfl⟩
        rw [← eh8]
        have H := H h8 eh8
        exact H
  · have H := H.2 cd
    refine ev_iconst 23 rfl dX5_tryPerson_22 (by decide) ?_
    exact ev_retZ dX5_tryPerson_23 rfl (by decide) H

set_option maxRecDepth 20000 in
theorem b_X5_tryPerson_52 {X : qX} {d : Nat} {sh : qS} {pt h : qM} {K : Int → qM → Prop} {v1 v2 v3 v4 v5 : Int} (hst : St sh pt)
    (H : RunV X d mX5_pair [(2, 30), (0, v1), (0, v2)] sh pt h (fun h1 => ((v5 = (-1) → K 1 h1) ∧ (¬ v5 = (-1) → ((v4 = (-1) → K 1 h1) ∧ (¬ v4 = (-1) → (qI (v1 + 1)) ∧ RunI X d mX5_fillOneMore [(2, 30), (0, (v1 + 1)), (0, (qior v3 (qishl 1 v2)))] sh pt h1 (fun r3 h2 => ((r3 = 0 → RunV X d mX5_pair [(2, 30), (0, v1), (0, v4)] sh pt h2 (fun h4 => RunV X d mX5_pair [(2, 30), (0, v5), (0, v2)] sh pt h4 (fun h5 => K 0 h5))) ∧ (¬ r3 = 0 → K 1 h2))))))))) :
    EvI X (d + 1) mX5_tryPerson 52 [(2, 30), (0, v1), (0, v2), (0, v3), (0, v4), (0, v5)] [] sh pt h K := by
  show Ev X (d + 1) 0 0 mX5_tryPerson 52 [(2, 30), (0, v1), (0, v2), (0, v3), (0, v4), (0, v5)] [] (sh, pt, h) (qRI sh pt K)
  refine ev_aload_n 53 rfl dX5_tryPerson_52 rfl rfl ?_
  refine ev_iload_n 54 rfl dX5_tryPerson_53 rfl rfl ?_
  refine ev_iload_n 55 rfl dX5_tryPerson_54 rfl rfl ?_
  refine ev_cVV (As := [(0, v1), (0, v2)]) (rest := []) 58 rfl dX5_tryPerson_55 lm_5_82 mm_X5_pair (s_30 hst) rfl rfl (Nat.le_of_ble_eq_true rfl) (Nat.le_of_ble_eq_true rfl) (Nat.le_refl _) H ?_
  intro h1 H
  refine ev_iload 60 rfl dX5_tryPerson_58 rfl ?_
  refine ev_iconst 61 rfl dX5_tryPerson_60 (by decide) ?_
  refine ev_icmp_eq (tgt := 85) 64 rfl dX5_tryPerson_61 (by decide) (fun cd => ?_) (fun cd => ?_)
  · have H := H.1 cd
    refine ev_iconst 86 rfl dX5_tryPerson_85 (by decide) ?_
    exact ev_retZ dX5_tryPerson_86 rfl (by decide) H
  · have H := H.2 cd
    refine ev_iload 66 rfl dX5_tryPerson_64 rfl ?_
    refine ev_iconst 67 rfl dX5_tryPerson_66 (by decide) ?_
    refine ev_icmp_eq (tgt := 85) 70 rfl dX5_tryPerson_67 (by decide) (fun cd => ?_) (fun cd => ?_)
    · have H := H.1 cd
      refine ev_iconst 86 rfl dX5_tryPerson_85 (by decide) ?_
      exact ev_retZ dX5_tryPerson_86 rfl (by decide) H
    · have H := H.2 cd
      refine ev_aload_n 71 rfl dX5_tryPerson_70 rfl rfl ?_
      refine ev_iload_n 72 rfl dX5_tryPerson_71 rfl rfl ?_
      refine ev_iconst 73 rfl dX5_tryPerson_72 (by decide) ?_
      obtain ⟨sd, H⟩ := H
      refine ev_iadd 74 rfl dX5_tryPerson_73 sd ?_
      refine ev_iload_n 75 rfl dX5_tryPerson_74 rfl rfl ?_
      refine ev_iconst 76 rfl dX5_tryPerson_75 (by decide) ?_
      refine ev_iload_n 77 rfl dX5_tryPerson_76 rfl rfl ?_
      refine ev_ishl 78 rfl dX5_tryPerson_77 ?_
      refine ev_ior 79 rfl dX5_tryPerson_78 ?_
      refine ev_cVI (As := [(0, (v1 + 1)), (0, (qior v3 (qishl 1 v2)))]) (rest := []) 82 rfl dX5_tryPerson_79 lm_5_71 mm_X5_fillOneMore (s_30 hst) rfl rfl (Nat.le_of_ble_eq_true rfl) (Nat.le_of_ble_eq_true rfl) (Nat.le_refl _) H ?_
      intro r3 h2 H
      refine ev_if_eq (tgt := 87) 85 rfl dX5_tryPerson_82 (by decide) (fun cd => ?_) (fun cd => ?_)
      · have H := H.1 cd
        refine ev_aload_n 88 rfl dX5_tryPerson_87 rfl rfl ?_
        refine ev_iload_n 89 rfl dX5_tryPerson_88 rfl rfl ?_
        refine ev_iload 91 rfl dX5_tryPerson_89 rfl ?_
        refine ev_cVV (As := [(0, v1), (0, v4)]) (rest := []) 94 rfl dX5_tryPerson_91 lm_5_82 mm_X5_pair (s_30 hst) rfl rfl (Nat.le_of_ble_eq_true rfl) (Nat.le_of_ble_eq_true rfl) (Nat.le_refl _) H ?_
        intro h4 H
        refine ev_aload_n 95 rfl dX5_tryPerson_94 rfl rfl ?_
        refine ev_iload 97 rfl dX5_tryPerson_95 rfl ?_
        refine ev_iload_n 98 rfl dX5_tryPerson_97 rfl rfl ?_
        refine ev_cVV (As := [(0, v5), (0, v2)]) (rest := []) 101 rfl dX5_tryPerson_98 lm_5_82 mm_X5_pair (s_30 hst) rfl rfl (Nat.le_of_ble_eq_true rfl) (Nat.le_of_ble_eq_true rfl) (Nat.le_refl _) H ?_
        intro h5 H
        refine ev_iconst 102 rfl dX5_tryPerson_101 (by decide) ?_
        exact ev_retZ dX5_tryPerson_102 rfl (by decide) H
      · have H := H.2 cd
        refine ev_iconst 86 rfl dX5_tryPerson_85 (by decide) ?_
        exact ev_retZ dX5_tryPerson_86 rfl (by decide) H

set_option maxRecDepth 20000 in
theorem b_X5_pair {X : qX} {d : Nat} {sh : qS} {pt h : qM} {K : qM → Prop} {v1 v2 : Int} (hst : St sh pt)
    (H : (0 ≤ v1 ∧ v1 < 20) ∧ ∀ h2 : qM, h2 = qup h 31 v1 v2 → (0 ≤ v2 ∧ v2 < 16) ∧ ∀ h4 : qM, h4 = qup h2 38 v2 v1 → K h4) :
    RunV X d mX5_pair [(2, 30), (0, v1), (0, v2)] sh pt h K := by
  show Ev X d 0 0 mX5_pair 0 [(2, 30), (0, v1), (0, v2)] [] (sh, pt, h) (qRV sh pt K)
  refine ev_aload_n 1 rfl dX5_pair_0 rfl rfl ?_
  refine ev_getR (ki := 3) (v := 31) 4 rfl dX5_pair_1 lf_5_23 (s_30 hst) (by decide) rfl (p_30_3 hst) ?_
  refine ev_iload_n 5 rfl dX5_pair_4 rfl rfl ?_
  refine ev_iload_n 6 rfl dX5_pair_5 rfl rfl ?_
  obtain ⟨b1, H⟩ := H
  refine ev_iastore 7 rfl dX5_pair_6 (s_31 hst) b1.1 b1.2 ?_
  obtain ⟨h2, eh2⟩ : ∃ z : qM, z = qup h 31 v1 v2 := ⟨_, rfl⟩
  rw [← eh2]
  have H := H h2 eh2
  refine ev_aload_n 8 rfl dX5_pair_7 rfl rfl ?_
  refine ev_getR (ki := 10) (v := 38) 11 rfl dX5_pair_8 lf_5_45 (s_30 hst) (by decide) rfl (p_30_10 hst) ?_
  refine ev_iload_n 12 rfl dX5_pair_11 rfl rfl ?_
  refine ev_iload_n 13 rfl dX5_pair_12 rfl rfl ?_
  obtain ⟨b3, H⟩ := H
  refine ev_iastore 14 rfl dX5_pair_13 (s_38 hst) b3.1 b3.2 ?_
  obtain ⟨h4, eh4⟩ : ∃ z : qM, z = qup h2 38 v2 v1 := ⟨_, rfl⟩
  rw [← eh4]
  have H := H h4 eh4
  exact ev_retV dX5_pair_14 rfl H

set_option maxRecDepth 20000 in
theorem b_X5_fillOneMore {X : qX} {d : Nat} {sh : qS} {pt h : qM} {K : Int → qM → Prop} {v1 v2 : Int} (hst : St sh pt)
    (H : EvI X (d + 1) mX5_fillOneMore 5 [(2, 30), (8, -1), (0, v2), (0, 0), (0, v1), (8, -1), (8, -1), (8, -1), (8, -1)] [] sh pt h K) :
    RunI X (d + 1) mX5_fillOneMore [(2, 30), (0, v1), (0, v2)] sh pt h K := by
  show Ev X (d + 1) 0 0 mX5_fillOneMore 0 [(2, 30), (0, v1), (0, v2), (8, -1), (8, -1), (8, -1), (8, -1), (8, -1), (8, -1)] [] (sh, pt, h) (qRI sh pt K)
  refine ev_iconst 1 rfl dX5_fillOneMore_0 (by decide) ?_
  refine ev_istore_n (L1 := [(2, 30), (0, v1), (0, v2), (0, 0), (8, -1), (8, -1), (8, -1), (8, -1), (8, -1)]) 2 rfl dX5_fillOneMore_1 rfl (Nat.le_of_ble_eq_true rfl) rfl ?_
  refine ev_iload_n 3 rfl dX5_fillOneMore_2 rfl rfl ?_
  refine ev_istore (L1 := [(2, 30), (0, v1), (0, v2), (0, 0), (0, v1), (8, -1), (8, -1), (8, -1), (8, -1)]) 5 rfl dX5_fillOneMore_3 (Nat.le_of_ble_eq_true rfl) rfl ?_
  refine Ev.drop [1] rfl ?_
  exact H

set_option maxRecDepth 20000 in
theorem b_X5_fillOneMore_5 {X : qX} {d : Nat} {sh : qS} {pt h : qM} {K : Int → qM → Prop} {v2 v3 v4 : Int} (hst : St sh pt)
    (H : (((h 30 13) ≤ v4 → EvI X (d + 1) mX5_fillOneMore 48 [(2, 30), (8, -1), (8, -1), (0, v3), (0, v2), (0, 0), (8, -1), (8, -1), (8, -1)] [] sh pt h K) ∧ (v4 < (h 30 13) → (0 ≤ v4 ∧ v4 < 20) ∧ ((¬ (h 31 v4) = (-1) → (qI (v4 + 1)) ∧ EvI X (d + 1) mX5_fillOneMore 5 [(2, 30), (8, -1), (0, v2), (0, v3), (0, (v4 + 1)), (8, -1), (8, -1), (8, -1), (8, -1)] [] sh pt h K) ∧ ((h 31 v4) = (-1) → (0 ≤ v3 ∧ v3 < 20) ∧ ∀ h3 : qM, h3 = qup h 39 v3 v4 → (qI (v3 + 1)) ∧ (qI (v4 + 1)) ∧ EvI X (d + 1) mX5_fillOneMore 5 [(2, 30), (8, -1), (0, v2), (0, (v3 + 1)), (0, (v4 + 1)), (8, -1), (8, -1), (8, -1), (8, -1)] [] sh pt h3 K))))) :
    EvI X (d + 1) mX5_fillOneMore 5 [(2, 30), (8, -1), (0, v2), (0, v3), (0, v4), (8, -1), (8, -1), (8, -1), (8, -1)] [] sh pt h K := by
  show Ev X (d + 1) 0 0 mX5_fillOneMore 5 [(2, 30), (8, -1), (0, v2), (0, v3), (0, v4), (8, -1), (8, -1), (8, -1), (8, -1)] [] (sh, pt, h) (qRI sh pt K)
  refine ev_iload 7 rfl dX5_fillOneMore_5 rfl ?_
  refine ev_aload_n 8 rfl dX5_fillOneMore_7 rfl rfl ?_
  refine ev_getI (ki := 13) 11 rfl dX5_fillOneMore_8 lf_5_54 (Or.inl rfl) (s_30 hst) (by decide) rfl ?_
  refine ev_icmp_ge (tgt := 42) 14 rfl dX5_fillOneMore_11 (by decide) (fun cd => ?_) (fun cd => ?_)
  · have H := H.1 cd
    refine ev_iload_n 43 rfl dX5_fillOneMore_42 rfl rfl ?_
    refine ev_istore (L1 := [(2, 30), (8, -1), (0, v2), (0, v3), (0, v2), (8, -1), (8, -1), (8, -1), (8, -1)]) 45 rfl dX5_fillOneMore_43 (Nat.le_of_ble_eq_true rfl) rfl ?_
    refine ev_iconst 46 rfl dX5_fillOneMore_45 (by decide) ?_
    refine ev_istore (L1 := [(2, 30), (8, -1), (0, v2), (0, v3), (0, v2), (0, 0), (8, -1), (8, -1), (8, -1)]) 48 rfl dX5_fillOneMore_46 (Nat.le_of_ble_eq_true rfl) rfl ?_
    refine Ev.drop [2] rfl ?_
    exact H
  · have H := H.2 cd
    refine ev_aload_n 15 rfl dX5_fillOneMore_14 rfl rfl ?_
    refine ev_getR (ki := 3) (v := 31) 18 rfl dX5_fillOneMore_15 lf_5_23 (s_30 hst) (by decide) rfl (p_30_3 hst) ?_
    refine ev_iload 20 rfl dX5_fillOneMore_18 rfl ?_
    obtain ⟨b1, H⟩ := H
    refine ev_iaload 21 rfl dX5_fillOneMore_20 (s_31 hst) b1.1 b1.2 ?_
    refine ev_iconst 22 rfl dX5_fillOneMore_21 (by decide) ?_
    refine ev_icmp_ne (tgt := 36) 25 rfl dX5_fillOneMore_22 (by decide) (fun cd => ?_) (fun cd => ?_)
    · have H := H.1 cd
      obtain ⟨sd, H⟩ := H
      refine ev_iinc (L1 := [(2, 30), (8, -1), (0, v2), (0, v3), (0, (v4 + 1)), (8, -1), (8, -1), (8, -1), (8, -1)]) 39 rfl dX5_fillOneMore_36 rfl sd (Nat.le_of_ble_eq_true rfl) rfl ?_
      refine ev_goto (tgt := 5) dX5_fillOneMore_39 (by decide) ?_
      exact H
    · have H := H.2 cd
      refine ev_aload_n 26 rfl dX5_fillOneMore_25 rfl rfl ?_
      refine ev_getR (ki := 11) (v := 39) 29 rfl dX5_fillOneMore_26 lf_5_48 (s_30 hst) (by decide) rfl (p_30_11 hst) ?_
      refine ev_iload_n 30 rfl dX5_fillOneMore_29 rfl rfl ?_
      refine ev_iload 32 rfl dX5_fillOneMore_30 rfl ?_
      obtain ⟨b2, H⟩ := H
      refine ev_iastore 33 rfl dX5_fillOneMore_32 (s_39 hst) b2.1 b2.2 ?_
      obtain ⟨h3, eh3⟩ : ∃ z : qM, z = qup h 39 v3 v4 := ⟨_, rfl⟩
      rw [← eh3]
      have H := H h3 eh3
      obtain ⟨sd, H⟩ := H
      refine ev_iinc (L1 := [(2, 30), (8, -1), (0, v2), (0, (v3 + 1)), (0, v4), (8, -1), (8, -1), (8, -1), (8, -1)]) 36 rfl dX5_fillOneMore_33 rfl sd (Nat.le_of_ble_eq_true rfl) rfl ?_
      obtain ⟨sd, H⟩ := H
      refine ev_iinc (L1 := [(2, 30), (8, -1), (0, v2), (0, (v3 + 1)), (0, (v4 + 1)), (8, -1), (8, -1), (8, -1), (8, -1)]) 39 rfl dX5_fillOneMore_36 rfl sd (Nat.le_of_ble_eq_true rfl) rfl ?_
      refine ev_goto (tgt := 5) dX5_fillOneMore_39 (by decide) ?_
      exact H

set_option maxRecDepth 20000 in
theorem b_X5_fillOneMore_48 {X : qX} {d : Nat} {sh : qS} {pt h : qM} {K : Int → qM → Prop} {v3 v4 v5 : Int} (hst : St sh pt)
    (H : ((v3 ≤ v5 → K 0 h) ∧ (v5 < v3 → (0 ≤ v5 ∧ v5 < 20) ∧ (0 ≤ (h 39 v5) ∧ (h 39 v5) < 20) ∧ ∀ x3 : Int, x3 = (qiand (h 37 (h 39 v5)) (qixor v4 (-1))) → EvI X (d + 1) mX5_fillOneMore 87 [(2, 30), (8, -1), (8, -1), (0, v3), (0, (qior v4 x3)), (0, v5), (0, (h 39 v5)), (0, x3), (0, 0)] [] sh pt h K))) :
    EvI X (d + 1) mX5_fillOneMore 48 [(2, 30), (8, -1), (8, -1), (0, v3), (0, v4), (0, v5), (8, -1), (8, -1), (8, -1)] [] sh pt h K := by
  show Ev X (d + 1) 0 0 mX5_fillOneMore 48 [(2, 30), (8, -1), (8, -1), (0, v3), (0, v4), (0, v5), (8, -1), (8, -1), (8, -1)] [] (sh, pt, h) (qRI sh pt K)
  refine ev_iload 50 rfl dX5_fillOneMore_48 rfl ?_
  refine ev_iload_n 51 rfl dX5_fillOneMore_50 rfl rfl ?_
  refine ev_icmp_ge (tgt := 171) 54 rfl dX5_fillOneMore_51 (by decide) (fun cd => ?_) (fun cd => ?_)
  · have H := H.1 cd
    refine ev_iconst 172 rfl dX5_fillOneMore_171 (by decide) ?_
    exact ev_retZ dX5_fillOneMore_172 rfl (by decide) H
  · have H := H.2 cd
    refine ev_aload_n 55 rfl dX5_fillOneMore_54 rfl rfl ?_
    refine ev_getR (ki := 11) (v := 39) 58 rfl dX5_fillOneMore_55 lf_5_48 (s_30 hst) (by decide) rfl (p_30_11 hst) ?_
    refine ev_iload 60 rfl dX5_fillOneMore_58 rfl ?_
    obtain ⟨b1, H⟩ := H
    refine ev_iaload 61 rfl dX5_fillOneMore_60 (s_39 hst) b1.1 b1.2 ?_
    refine ev_istore (L1 := [(2, 30), (8, -1), (8, -1), (0, v3), (0, v4), (0, v5), (0, (h 39 v5)), (8, -1), (8, -1)]) 63 rfl dX5_fillOneMore_61 (Nat.le_of_ble_eq_true rfl) rfl ?_
    refine ev_aload_n 64 rfl dX5_fillOneMore_63 rfl rfl ?_
    refine ev_getR (ki := 9) (v := 37) 67 rfl dX5_fillOneMore_64 lf_5_42 (s_30 hst) (by decide) rfl (p_30_9 hst) ?_
    refine ev_iload 69 rfl dX5_fillOneMore_67 rfl ?_
    obtain ⟨b2, H⟩ := H
    refine ev_iaload 70 rfl dX5_fillOneMore_69 (s_37 hst) b2.1 b2.2 ?_
    refine ev_iload 72 rfl dX5_fillOneMore_70 rfl ?_
    refine ev_iconst 73 rfl dX5_fillOneMore_72 (by decide) ?_
    refine ev_ixor 74 rfl dX5_fillOneMore_73 ?_
    refine ev_iand 75 rfl dX5_fillOneMore_74 ?_
    obtain ⟨x3, ex3⟩ : ∃ z : Int, z = (qiand (h 37 (h 39 v5)) (qixor v4 (-1))) := ⟨_, rfl⟩
    rw [← ex3]
    have H := H x3 ex3
    refine ev_istore (L1 := [(2, 30), (8, -1), (8, -1), (0, v3), (0, v4), (0, v5), (0, (h 39 v5)), (0, x3), (8, -1)]) 77 rfl dX5_fillOneMore_75 (Nat.le_of_ble_eq_true rfl) rfl ?_
    refine ev_iload 79 rfl dX5_fillOneMore_77 rfl ?_
    refine ev_iload 81 rfl dX5_fillOneMore_79 rfl ?_
    refine ev_ior 82 rfl dX5_fillOneMore_81 ?_
    refine ev_istore (L1 := [(2, 30), (8, -1), (8, -1), (0, v3), (0, (qior v4 x3)), (0, v5), (0, (h 39 v5)), (0, x3), (8, -1)]) 84 rfl dX5_fillOneMore_82 (Nat.le_of_ble_eq_true rfl) rfl ?_
    refine ev_iconst 85 rfl dX5_fillOneMore_84 (by decide) ?_
    refine ev_istore (L1 := [(2, 30), (8, -1), (8, -1), (0, v3), (0, (qior v4 x3)), (0, v5), (0, (h 39 v5)), (0, x3), (0, 0)]) 87 rfl dX5_fillOneMore_85 (Nat.le_of_ble_eq_true rfl) rfl ?_
    exact H

set_option maxRecDepth 20000 in
theorem b_X5_fillOneMore_87 {X : qX} {d : Nat} {sh : qS} {pt h : qM} {K : Int → qM → Prop} {v3 v4 v5 v6 v7 v8 : Int} (hst : St sh pt)
    (H : (((h 30 0) ≤ v8 → (qI (v5 + 1)) ∧ EvI X (d + 1) mX5_fillOneMore 48 [(2, 30), (8, -1), (8, -1), (0, v3), (0, v4), (0, (v5 + 1)), (8, -1), (8, -1), (8, -1)] [] sh pt h K) ∧ (v8 < (h 30 0) → (((qiand (qiushr v7 v8) 1) = 0 → (qI (v8 + 1)) ∧ EvI X (d + 1) mX5_fillOneMore 87 [(2, 30), (8, -1), (8, -1), (0, v3), (0, v4), (0, v5), (0, v6), (0, v7), (0, (v8 + 1))] [] sh pt h K) ∧ (¬ (qiand (qiushr v7 v8) 1) = 0 → (0 ≤ v8 ∧ v8 < 16) ∧ ∀ h2 : qM, h2 = qup h 40 v8 v6 → (0 ≤ v8 ∧ v8 < 16) ∧ ((¬ (h2 38 v8) = (-1) → ((20 ≤ v3 → (qI (v8 + 1)) ∧ EvI X (d + 1) mX5_fillOneMore 87 [(2, 30), (8, -1), (8, -1), (0, v3), (0, v4), (0, v5), (0, v6), (0, v7), (0, (v8 + 1))] [] sh pt h2 K) ∧ (v3 < 20 → (0 ≤ v8 ∧ v8 < 16) ∧ (0 ≤ v3 ∧ v3 < 20) ∧ ∀ h6 : qM, h6 = qup h2 39 v3 (h2 38 v8) → (qI (v3 + 1)) ∧ (qI (v8 + 1)) ∧ EvI X (d + 1) mX5_fillOneMore 87 [(2, 30), (8, -1), (8, -1), (0, (v3 + 1)), (0, v4), (0, v5), (0, v6), (0, v7), (0, (v8 + 1))] [] sh pt h6 K))) ∧ ((h2 38 v8) = (-1) → RunV X d mX5_handOn [(2, 30), (0, v8)] sh pt h2 (fun h7 => K 1 h7)))))))) :
    EvI X (d + 1) mX5_fillOneMore 87 [(2, 30), (8, -1), (8, -1), (0, v3), (0, v4), (0, v5), (0, v6), (0, v7), (0, v8)] [] sh pt h K := by
  show Ev X (d + 1) 0 0 mX5_fillOneMore 87 [(2, 30), (8, -1), (8, -1), (0, v3), (0, v4), (0, v5), (0, v6), (0, v7), (0, v8)] [] (sh, pt, h) (qRI sh pt K)
  refine ev_iload 89 rfl dX5_fillOneMore_87 rfl ?_
  refine ev_aload_n 90 rfl dX5_fillOneMore_89 rfl rfl ?_
  refine ev_getI (ki := 0) 93 rfl dX5_fillOneMore_90 lf_5_9 (Or.inl rfl) (s_30 hst) (by decide) rfl ?_
  refine ev_icmp_ge (tgt := 165) 96 rfl dX5_fillOneMore_93 (by decide) (fun cd => ?_) (fun cd => ?_)
  · have H := H.1 cd
    obtain ⟨sd, H⟩ := H
    refine ev_iinc (L1 := [(2, 30), (8, -1), (8, -1), (0, v3), (0, v4), (0, (v5 + 1)), (0, v6), (0, v7), (0, v8)]) 168 rfl dX5_fillOneMore_165 rfl sd (Nat.le_of_ble_eq_true rfl) rfl ?_
    refine ev_goto (tgt := 48) dX5_fillOneMore_168 (by decide) ?_
    refine Ev.drop [6, 7, 8] rfl ?_
    exact H
  · have H := H.2 cd
    refine ev_iload 98 rfl dX5_fillOneMore_96 rfl ?_
    refine ev_iload 100 rfl dX5_fillOneMore_98 rfl ?_
    refine ev_iushr 101 rfl dX5_fillOneMore_100 ?_
    refine ev_iconst 102 rfl dX5_fillOneMore_101 (by decide) ?_
    refine ev_iand 103 rfl dX5_fillOneMore_102 ?_
    refine ev_if_eq (tgt := 159) 106 rfl dX5_fillOneMore_103 (by decide) (fun cd => ?_) (fun cd => ?_)
    · have H := H.1 cd
      obtain ⟨sd, H⟩ := H
      refine ev_iinc (L1 := [(2, 30), (8, -1), (8, -1), (0, v3), (0, v4), (0, v5), (0, v6), (0, v7), (0, (v8 + 1))]) 162 rfl dX5_fillOneMore_159 rfl sd (Nat.le_of_ble_eq_true rfl) rfl ?_
      refine ev_goto (tgt := 87) dX5_fillOneMore_162 (by decide) ?_
      exact H
    · have H := H.2 cd
      refine ev_aload_n 107 rfl dX5_fillOneMore_106 rfl rfl ?_
      refine ev_getR (ki := 12) (v := 40) 110 rfl dX5_fillOneMore_107 lf_5_51 (s_30 hst) (by decide) rfl (p_30_12 hst) ?_
      refine ev_iload 112 rfl dX5_fillOneMore_110 rfl ?_
      refine ev_iload 114 rfl dX5_fillOneMore_112 rfl ?_
      obtain ⟨b1, H⟩ := H
      refine ev_iastore 115 rfl dX5_fillOneMore_114 (s_40 hst) b1.1 b1.2 ?_
      obtain ⟨h2, eh2⟩ : ∃ z : qM, z = qup h 40 v8 v6 := ⟨_, rfl⟩
      rw [← eh2]
      have H := H h2 eh2
      refine ev_aload_n 116 rfl dX5_fillOneMore_115 rfl rfl ?_
      refine ev_getR (ki := 10) (v := 38) 119 rfl dX5_fillOneMore_116 lf_5_45 (s_30 hst) (by decide) rfl (p_30_10 hst) ?_
      refine ev_iload 121 rfl dX5_fillOneMore_119 rfl ?_
      obtain ⟨b3, H⟩ := H
      refine ev_iaload 122 rfl dX5_fillOneMore_121 (s_38 hst) b3.1 b3.2 ?_
      refine ev_iconst 123 rfl dX5_fillOneMore_122 (by decide) ?_
      refine ev_icmp_ne (tgt := 134) 126 rfl dX5_fillOneMore_123 (by decide) (fun cd => ?_) (fun cd => ?_)
      · have H := H.1 cd
        refine ev_iload_n 135 rfl dX5_fillOneMore_134 rfl rfl ?_
        refine ev_aload_n 136 rfl dX5_fillOneMore_135 rfl rfl ?_
        refine ev_getR (ki := 11) (v := 39) 139 rfl dX5_fillOneMore_136 lf_5_48 (s_30 hst) (by decide) rfl (p_30_11 hst) ?_
        refine ev_alen 140 rfl dX5_fillOneMore_139 (s_39 hst) (by decide) ?_
        refine ev_icmp_ge (tgt := 159) 143 rfl dX5_fillOneMore_140 (by decide) (fun cd => ?_) (fun cd => ?_)
        · have H := H.1 cd
          obtain ⟨sd, H⟩ := H
          refine ev_iinc (L1 := [(2, 30), (8, -1), (8, -1), (0, v3), (0, v4), (0, v5), (0, v6), (0, v7), (0, (v8 + 1))]) 162 rfl dX5_fillOneMore_159 rfl sd (Nat.le_of_ble_eq_true rfl) rfl ?_
          refine ev_goto (tgt := 87) dX5_fillOneMore_162 (by decide) ?_
          exact H
        · have H := H.2 cd
          refine ev_aload_n 144 rfl dX5_fillOneMore_143 rfl rfl ?_
          refine ev_getR (ki := 11) (v := 39) 147 rfl dX5_fillOneMore_144 lf_5_48 (s_30 hst) (by decide) rfl (p_30_11 hst) ?_
          refine ev_iload_n 148 rfl dX5_fillOneMore_147 rfl rfl ?_
          refine ev_aload_n 149 rfl dX5_fillOneMore_148 rfl rfl ?_
          refine ev_getR (ki := 10) (v := 38) 152 rfl dX5_fillOneMore_149 lf_5_45 (s_30 hst) (by decide) rfl (p_30_10 hst) ?_
          refine ev_iload 154 rfl dX5_fillOneMore_152 rfl ?_
          obtain ⟨b4, H⟩ := H
          refine ev_iaload 155 rfl dX5_fillOneMore_154 (s_38 hst) b4.1 b4.2 ?_
          obtain ⟨b5, H⟩ := H
          refine ev_iastore 156 rfl dX5_fillOneMore_155 (s_39 hst) b5.1 b5.2 ?_
          obtain ⟨h6, eh6⟩ : ∃ z : qM, z = qup h2 39 v3 (h2 38 v8) := ⟨_, rfl⟩
          rw [← eh6]
          have H := H h6 eh6
          obtain ⟨sd, H⟩ := H
          refine ev_iinc (L1 := [(2, 30), (8, -1), (8, -1), (0, (v3 + 1)), (0, v4), (0, v5), (0, v6), (0, v7), (0, v8)]) 159 rfl dX5_fillOneMore_156 rfl sd (Nat.le_of_ble_eq_true rfl) rfl ?_
          obtain ⟨sd, H⟩ := H
          refine ev_iinc (L1 := [(2, 30), (8, -1), (8, -1), (0, (v3 + 1)), (0, v4), (0, v5), (0, v6), (0, v7), (0, (v8 + 1))]) 162 rfl dX5_fillOneMore_159 rfl sd (Nat.le_of_ble_eq_true rfl) rfl ?_
          refine ev_goto (tgt := 87) dX5_fillOneMore_162 (by decide) ?_
          exact H
      · have H := H.2 cd
        refine ev_aload_n 127 rfl dX5_fillOneMore_126 rfl rfl ?_
        refine ev_iload 129 rfl dX5_fillOneMore_127 rfl ?_
        refine ev_cVV (As := [(0, v8)]) (rest := []) 132 rfl dX5_fillOneMore_129 lm_5_86 mm_X5_handOn (s_30 hst) rfl rfl (Nat.le_of_ble_eq_true rfl) (Nat.le_of_ble_eq_true rfl) (Nat.le_refl _) H ?_
        intro h7 H
        refine ev_iconst 133 rfl dX5_fillOneMore_132 (by decide) ?_
        exact ev_retZ dX5_fillOneMore_133 rfl (by decide) H

set_option maxRecDepth 20000 in
theorem b_X5_handOn {X : qX} {d : Nat} {sh : qS} {pt h : qM} {K : qM → Prop} {v1 : Int} (hst : St sh pt)
    (H : EvV X (d + 1) mX5_handOn 4 [(2, 30), (8, -1), (0, v1), (0, 0), (8, -1), (8, -1)] [] sh pt h K) :
    RunV X (d + 1) mX5_handOn [(2, 30), (0, v1)] sh pt h K := by
  show Ev X (d + 1) 0 0 mX5_handOn 0 [(2, 30), (0, v1), (8, -1), (8, -1), (8, -1), (8, -1)] [] (sh, pt, h) (qRV sh pt K)
  refine ev_iload_n 1 rfl dX5_handOn_0 rfl rfl ?_
  refine ev_istore_n (L1 := [(2, 30), (0, v1), (0, v1), (8, -1), (8, -1), (8, -1)]) 2 rfl dX5_handOn_1 rfl (Nat.le_of_ble_eq_true rfl) rfl ?_
  refine ev_iconst 3 rfl dX5_handOn_2 (by decide) ?_
  refine ev_istore_n (L1 := [(2, 30), (0, v1), (0, v1), (0, 0), (8, -1), (8, -1)]) 4 rfl dX5_handOn_3 rfl (Nat.le_of_ble_eq_true rfl) rfl ?_
  refine Ev.drop [1] rfl ?_
  exact H

set_option maxRecDepth 20000 in
theorem b_X5_handOn_4 {X : qX} {d : Nat} {sh : qS} {pt h : qM} {K : qM → Prop} {v2 v3 : Int} (hst : St sh pt)
    (H : ((20 ≤ v3 → K h) ∧ (v3 < 20 → ((v2 = (-1) → K h) ∧ (¬ v2 = (-1) → (0 ≤ v2 ∧ v2 < 16) ∧ (0 ≤ (h 40 v2) ∧ (h 40 v2) < 20) ∧ RunV X d mX5_pair [(2, 30), (0, (h 40 v2)), (0, v2)] sh pt h (fun h3 => (qI (v3 + 1)) ∧ EvV X (d + 1) mX5_handOn 4 [(2, 30), (8, -1), (0, (h 31 (h 40 v2))), (0, (v3 + 1)), (8, -1), (8, -1)] [] sh pt h3 K)))))) :
    EvV X (d + 1) mX5_handOn 4 [(2, 30), (8, -1), (0, v2), (0, v3), (8, -1), (8, -1)] [] sh pt h K := by
  show Ev X (d + 1) 0 0 mX5_handOn 4 [(2, 30), (8, -1), (0, v2), (0, v3), (8, -1), (8, -1)] [] (sh, pt, h) (qRV sh pt K)
  refine ev_iload_n 5 rfl dX5_handOn_4 rfl rfl ?_
  refine ev_bipush 7 rfl dX5_handOn_5 (by decide) (by decide) ?_
  refine ev_icmp_ge (tgt := 48) 10 rfl dX5_handOn_7 (by decide) (fun cd => ?_) (fun cd => ?_)
  · have H := H.1 cd
    exact ev_retV dX5_handOn_48 rfl H
  · have H := H.2 cd
    refine ev_iload_n 11 rfl dX5_handOn_10 rfl rfl ?_
    refine ev_iconst 12 rfl dX5_handOn_11 (by decide) ?_
    refine ev_icmp_eq (tgt := 48) 15 rfl dX5_handOn_12 (by decide) (fun cd => ?_) (fun cd => ?_)
    · have H := H.1 cd
      exact ev_retV dX5_handOn_48 rfl H
    · have H := H.2 cd
      refine ev_aload_n 16 rfl dX5_handOn_15 rfl rfl ?_
      refine ev_getR (ki := 12) (v := 40) 19 rfl dX5_handOn_16 lf_5_51 (s_30 hst) (by decide) rfl (p_30_12 hst) ?_
      refine ev_iload_n 20 rfl dX5_handOn_19 rfl rfl ?_
      obtain ⟨b1, H⟩ := H
      refine ev_iaload 21 rfl dX5_handOn_20 (s_40 hst) b1.1 b1.2 ?_
      refine ev_istore (L1 := [(2, 30), (8, -1), (0, v2), (0, v3), (0, (h 40 v2)), (8, -1)]) 23 rfl dX5_handOn_21 (Nat.le_of_ble_eq_true rfl) rfl ?_
      refine ev_aload_n 24 rfl dX5_handOn_23 rfl rfl ?_
      refine ev_getR (ki := 3) (v := 31) 27 rfl dX5_handOn_24 lf_5_23 (s_30 hst) (by decide) rfl (p_30_3 hst) ?_
      refine ev_iload 29 rfl dX5_handOn_27 rfl ?_
      obtain ⟨b2, H⟩ := H
      refine ev_iaload 30 rfl dX5_handOn_29 (s_31 hst) b2.1 b2.2 ?_
      refine ev_istore (L1 := [(2, 30), (8, -1), (0, v2), (0, v3), (0, (h 40 v2)), (0, (h 31 (h 40 v2)))]) 32 rfl dX5_handOn_30 (Nat.le_of_ble_eq_true rfl) rfl ?_
      refine ev_aload_n 33 rfl dX5_handOn_32 rfl rfl ?_
      refine ev_iload 35 rfl dX5_handOn_33 rfl ?_
      refine ev_iload_n 36 rfl dX5_handOn_35 rfl rfl ?_
      refine ev_cVV (As := [(0, (h 40 v2)), (0, v2)]) (rest := []) 39 rfl dX5_handOn_36 lm_5_82 mm_X5_pair (s_30 hst) rfl rfl (Nat.le_of_ble_eq_true rfl) (Nat.le_of_ble_eq_true rfl) (Nat.le_refl _) H ?_
      intro h3 H
      refine ev_iload 41 rfl dX5_handOn_39 rfl ?_
      refine ev_istore_n (L1 := [(2, 30), (8, -1), (0, (h 31 (h 40 v2))), (0, v3), (0, (h 40 v2)), (0, (h 31 (h 40 v2)))]) 42 rfl dX5_handOn_41 rfl (Nat.le_of_ble_eq_true rfl) rfl ?_
      obtain ⟨sd, H⟩ := H
      refine ev_iinc (L1 := [(2, 30), (8, -1), (0, (h 31 (h 40 v2))), (0, (v3 + 1)), (0, (h 40 v2)), (0, (h 31 (h 40 v2)))]) 45 rfl dX5_handOn_42 rfl sd (Nat.le_of_ble_eq_true rfl) rfl ?_
      refine ev_goto (tgt := 4) dX5_handOn_45 (by decide) ?_
      refine Ev.drop [4, 5] rfl ?_
      exact H

set_option maxRecDepth 20000 in
theorem b_X6_isShow {X : qX} {d : Nat} {sh : qS} {pt h : qM} {K : Int → qM → Prop} {v0 : Int} (hst : St sh pt)
    (H : ((v0 < 0 → K 0 h) ∧ (0 ≤ v0 → ((6 ≤ v0 → K 0 h) ∧ (v0 < 6 → K 1 h))))) :
    RunI X d mX6_isShow [(0, v0)] sh pt h K := by
  show Ev X d 0 0 mX6_isShow 0 [(0, v0)] [] (sh, pt, h) (qRI sh pt K)
  refine ev_iload_n 1 rfl dX6_isShow_0 rfl rfl ?_
  refine ev_if_lt (tgt := 14) 4 rfl dX6_isShow_1 (by decide) (fun cd => ?_) (fun cd => ?_)
  · have H := H.1 cd
    refine ev_iconst 15 rfl dX6_isShow_14 (by decide) ?_
    exact ev_retZ dX6_isShow_15 rfl (by decide) H
  · have H := H.2 cd
    refine ev_iload_n 5 rfl dX6_isShow_4 rfl rfl ?_
    refine ev_bipush 7 rfl dX6_isShow_5 (by decide) (by decide) ?_
    refine ev_icmp_ge (tgt := 14) 10 rfl dX6_isShow_7 (by decide) (fun cd => ?_) (fun cd => ?_)
    · have H := H.1 cd
      refine ev_iconst 15 rfl dX6_isShow_14 (by decide) ?_
      exact ev_retZ dX6_isShow_15 rfl (by decide) H
    · have H := H.2 cd
      refine ev_iconst 11 rfl dX6_isShow_10 (by decide) ?_
      refine ev_goto (tgt := 15) dX6_isShow_11 (by decide) ?_
      exact ev_retZ dX6_isShow_15 rfl (by decide) H

set_option maxRecDepth 20000 in
theorem b_X6_isJudge {X : qX} {d : Nat} {sh : qS} {pt h : qM} {K : Int → qM → Prop} {v0 : Int} (hst : St sh pt)
    (H : ((v0 < 0 → K 0 h) ∧ (0 ≤ v0 → ((9 ≤ v0 → K 0 h) ∧ (v0 < 9 → K 1 h))))) :
    RunI X d mX6_isJudge [(0, v0)] sh pt h K := by
  show Ev X d 0 0 mX6_isJudge 0 [(0, v0)] [] (sh, pt, h) (qRI sh pt K)
  refine ev_iload_n 1 rfl dX6_isJudge_0 rfl rfl ?_
  refine ev_if_lt (tgt := 14) 4 rfl dX6_isJudge_1 (by decide) (fun cd => ?_) (fun cd => ?_)
  · have H := H.1 cd
    refine ev_iconst 15 rfl dX6_isJudge_14 (by decide) ?_
    exact ev_retZ dX6_isJudge_15 rfl (by decide) H
  · have H := H.2 cd
    refine ev_iload_n 5 rfl dX6_isJudge_4 rfl rfl ?_
    refine ev_bipush 7 rfl dX6_isJudge_5 (by decide) (by decide) ?_
    refine ev_icmp_ge (tgt := 14) 10 rfl dX6_isJudge_7 (by decide) (fun cd => ?_) (fun cd => ?_)
    · have H := H.1 cd
      refine ev_iconst 15 rfl dX6_isJudge_14 (by decide) ?_
      exact ev_retZ dX6_isJudge_15 rfl (by decide) H
    · have H := H.2 cd
      refine ev_iconst 11 rfl dX6_isJudge_10 (by decide) ?_
      refine ev_goto (tgt := 15) dX6_isJudge_11 (by decide) ?_
      exact ev_retZ dX6_isJudge_15 rfl (by decide) H

set_option maxRecDepth 20000 in
theorem b_X6_isTrait {X : qX} {d : Nat} {sh : qS} {pt h : qM} {K : Int → qM → Prop} {v0 : Int} (hst : St sh pt)
    (H : ((v0 < 0 → K 0 h) ∧ (0 ≤ v0 → ((3 ≤ v0 → K 0 h) ∧ (v0 < 3 → K 1 h))))) :
    RunI X d mX6_isTrait [(0, v0)] sh pt h K := by
  show Ev X d 0 0 mX6_isTrait 0 [(0, v0)] [] (sh, pt, h) (qRI sh pt K)
  refine ev_iload_n 1 rfl dX6_isTrait_0 rfl rfl ?_
  refine ev_if_lt (tgt := 13) 4 rfl dX6_isTrait_1 (by decide) (fun cd => ?_) (fun cd => ?_)
  · have H := H.1 cd
    refine ev_iconst 14 rfl dX6_isTrait_13 (by decide) ?_
    exact ev_retZ dX6_isTrait_14 rfl (by decide) H
  · have H := H.2 cd
    refine ev_iload_n 5 rfl dX6_isTrait_4 rfl rfl ?_
    refine ev_iconst 6 rfl dX6_isTrait_5 (by decide) ?_
    refine ev_icmp_ge (tgt := 13) 9 rfl dX6_isTrait_6 (by decide) (fun cd => ?_) (fun cd => ?_)
    · have H := H.1 cd
      refine ev_iconst 14 rfl dX6_isTrait_13 (by decide) ?_
      exact ev_retZ dX6_isTrait_14 rfl (by decide) H
    · have H := H.2 cd
      refine ev_iconst 10 rfl dX6_isTrait_9 (by decide) ?_
      refine ev_goto (tgt := 14) dX6_isTrait_10 (by decide) ?_
      exact ev_retZ dX6_isTrait_14 rfl (by decide) H

set_option maxRecDepth 20000 in
theorem b_X6_give {X : qX} {d : Nat} {sh : qS} {pt h : qM} {K : qM → Prop} {v1 v2 v3 v4 : Int} (hst : St sh pt)
    (H : (qI (v1 * 3)) ∧ (qI ((v1 * 3) + v3)) ∧ (qI (((v1 * 3) + v3) * 9)) ∧ (qI ((((v1 * 3) + v3) * 9) + v2)) ∧ (0 ≤ ((((v1 * 3) + v3) * 9) + v2) ∧ ((((v1 * 3) + v3) * 9) + v2) < 162) ∧ ∀ h2 : qM, h2 = qup h 43 ((((v1 * 3) + v3) * 9) + v2) v4 → K h2) :
    RunV X d mX6_give [(2, 41), (0, v1), (0, v2), (0, v3), (0, v4)] sh pt h K := by
  show Ev X d 0 0 mX6_give 0 [(2, 41), (0, v1), (0, v2), (0, v3), (0, v4)] [] (sh, pt, h) (qRV sh pt K)
  refine ev_aload_n 1 rfl dX6_give_0 rfl rfl ?_
  refine ev_getR (ki := 3) (v := 43) 4 rfl dX6_give_1 lf_6_22 (s_41 hst) (by decide) rfl (p_41_3 hst) ?_
  refine ev_iload_n 5 rfl dX6_give_4 rfl rfl ?_
  refine ev_iconst 6 rfl dX6_give_5 (by decide) ?_
  obtain ⟨sd, H⟩ := H
  refine ev_imul 7 rfl dX6_give_6 sd ?_
  refine ev_iload_n 8 rfl dX6_give_7 rfl rfl ?_
  obtain ⟨sd, H⟩ := H
  refine ev_iadd 9 rfl dX6_give_8 sd ?_
  refine ev_bipush 11 rfl dX6_give_9 (by decide) (by decide) ?_
  obtain ⟨sd, H⟩ := H
  refine ev_imul 12 rfl dX6_give_11 sd ?_
  refine ev_iload_n 13 rfl dX6_give_12 rfl rfl ?_
  obtain ⟨sd, H⟩ := H
  refine ev_iadd 14 rfl dX6_give_13 sd ?_
  refine ev_iload 16 rfl dX6_give_14 rfl ?_
  obtain ⟨b1, H⟩ := H
  refine ev_iastore 17 rfl dX6_give_16 (s_43 hst) b1.1 b1.2 ?_
  obtain ⟨h2, eh2⟩ : ∃ z : qM, z = qup h 43 ((((v1 * 3) + v3) * 9) + v2) v4 := ⟨_, rfl⟩
  rw [← eh2]
  have H := H h2 eh2
  exact ev_retV dX6_give_17 rfl H

set_option maxRecDepth 20000 in
theorem b_X6_reckon {X : qX} {d : Nat} {sh : qS} {pt h : qM} {K : Int → qM → Prop} {v1 : Int} (hst : St sh pt)
    (H : ∀ h1 : qM, h1 = qup h 41 4 0 → ∀ h2 : qM, h2 = qup h1 41 5 1 → EvI X (d + 1) mX6_reckon 12 [(2, 41), (0, v1), (0, 0)] [] sh pt h2 K) :
    RunI X (d + 1) mX6_reckon [(2, 41), (0, v1)] sh pt h K := by
  show Ev X (d + 1) 0 0 mX6_reckon 0 [(2, 41), (0, v1), (8, -1)] [] (sh, pt, h) (qRI sh pt K)
  refine ev_aload_n 1 rfl dX6_reckon_0 rfl rfl ?_
  refine ev_lconst (v := 0) 2 rfl dX6_reckon_1 (by decide) (by decide) ?_
  refine ev_putL (ki := 4) 5 rfl dX6_reckon_2 lf_6_25 (s_41 hst) (by decide) rfl ?_
  obtain ⟨h1, eh1⟩ : ∃ z : qM, z = qup h 41 4 0 := ⟨_, rfl⟩
  rw [← eh1]
  have H := H h1 eh1
  refine ev_aload_n 6 rfl dX6_reckon_5 rfl rfl ?_
  refine ev_lconst (v := 1) 7 rfl dX6_reckon_6 (by decide) (by decide) ?_
  refine ev_putL (ki := 5) 10 rfl dX6_reckon_7 lf_6_28 (s_41 hst) (by decide) rfl ?_
  obtain ⟨h2, eh2⟩ : ∃ z : qM, z = qup h1 41 5 1 := ⟨_, rfl⟩
  rw [← eh2]
  have H := H h2 eh2
  refine ev_iconst 11 rfl dX6_reckon_10 (by decide) ?_
  refine ev_istore_n (L1 := [(2, 41), (0, v1), (0, 0)]) 12 rfl dX6_reckon_11 rfl (Nat.le_of_ble_eq_true rfl) rfl ?_
  exact H

set_option maxRecDepth 20000 in
theorem b_X6_reckon_12 {X : qX} {d : Nat} {sh : qS} {pt h : qM} {K : Int → qM → Prop} {v1 v2 : Int} (hst : St sh pt)
    (H : ((3 ≤ v2 → K 1 h) ∧ (v2 < 3 → RunI X d mX6_addTrait [(2, 41), (0, v1), (0, v2)] sh pt h (fun r2 h1 => ((¬ r2 = 0 → (qI (v2 + 1)) ∧ EvI X (d + 1) mX6_reckon 12 [(2, 41), (0, v1), (0, (v2 + 1))] [] sh pt h1 K) ∧ (r2 = 0 → K 0 h1)))))) :
    EvI X (d + 1) mX6_reckon 12 [(2, 41), (0, v1), (0, v2)] [] sh pt h K := by
  show Ev X (d + 1) 0 0 mX6_reckon 12 [(2, 41), (0, v1), (0, v2)] [] (sh, pt, h) (qRI sh pt K)
  refine ev_iload_n 13 rfl dX6_reckon_12 rfl rfl ?_
  refine ev_iconst 14 rfl dX6_reckon_13 (by decide) ?_
  refine ev_icmp_ge (tgt := 34) 17 rfl dX6_reckon_14 (by decide) (fun cd => ?_) (fun cd => ?_)
  · have H := H.1 cd
    refine ev_iconst 35 rfl dX6_reckon_34 (by decide) ?_
    exact ev_retZ dX6_reckon_35 rfl (by decide) H
  · have H := H.2 cd
    refine ev_aload_n 18 rfl dX6_reckon_17 rfl rfl ?_
    refine ev_iload_n 19 rfl dX6_reckon_18 rfl rfl ?_
    refine ev_iload_n 20 rfl dX6_reckon_19 rfl rfl ?_
    refine ev_cVI (As := [(0, v1), (0, v2)]) (rest := []) 23 rfl dX6_reckon_20 lm_6_37 mm_X6_addTrait (s_41 hst) rfl rfl (Nat.le_of_ble_eq_true rfl) (Nat.le_of_ble_eq_true rfl) (Nat.le_refl _) H ?_
    intro r2 h1 H
    refine ev_if_ne (tgt := 28) 26 rfl dX6_reckon_23 (by decide) (fun cd => ?_) (fun cd => ?_)
    · have H := H.1 cd
      obtain ⟨sd, H⟩ := H
      refine ev_iinc (L1 := [(2, 41), (0, v1), (0, (v2 + 1))]) 31 rfl dX6_reckon_28 rfl sd (Nat.le_of_ble_eq_true rfl) rfl ?_
      refine ev_goto (tgt := 12) dX6_reckon_31 (by decide) ?_
      exact H
    · have H := H.2 cd
      refine ev_iconst 27 rfl dX6_reckon_26 (by decide) ?_
      exact ev_retZ dX6_reckon_27 rfl (by decide) H

set_option maxRecDepth 20000 in
theorem b_X6_addTrait {X : qX} {d : Nat} {sh : qS} {pt h : qM} {K : Int → qM → Prop} {v1 v2 : Int} (hst : St sh pt)
    (H : EvI X (d + 1) mX6_addTrait 15 [(2, 41), (0, v1), (0, v2), (0, 0), (0, 0), (0, 100), (0, 0), (0, 0), (8, -1)] [] sh pt h K) :
    RunI X (d + 1) mX6_addTrait [(2, 41), (0, v1), (0, v2)] sh pt h K := by
  show Ev X (d + 1) 0 0 mX6_addTrait 0 [(2, 41), (0, v1), (0, v2), (8, -1), (8, -1), (8, -1), (8, -1), (8, -1), (8, -1)] [] (sh, pt, h) (qRI sh pt K)
  refine ev_iconst 1 rfl dX6_addTrait_0 (by decide) ?_
  refine ev_istore_n (L1 := [(2, 41), (0, v1), (0, v2), (0, 0), (8, -1), (8, -1), (8, -1), (8, -1), (8, -1)]) 2 rfl dX6_addTrait_1 rfl (Nat.le_of_ble_eq_true rfl) rfl ?_
  refine ev_iconst 3 rfl dX6_addTrait_2 (by decide) ?_
  refine ev_istore (L1 := [(2, 41), (0, v1), (0, v2), (0, 0), (0, 0), (8, -1), (8, -1), (8, -1), (8, -1)]) 5 rfl dX6_addTrait_3 (Nat.le_of_ble_eq_true rfl) rfl ?_
  refine ev_bipush 7 rfl dX6_addTrait_5 (by decide) (by decide) ?_
  refine ev_istore (L1 := [(2, 41), (0, v1), (0, v2), (0, 0), (0, 0), (0, 100), (8, -1), (8, -1), (8, -1)]) 9 rfl dX6_addTrait_7 (Nat.le_of_ble_eq_true rfl) rfl ?_
  refine ev_iconst 10 rfl dX6_addTrait_9 (by decide) ?_
  refine ev_istore (L1 := [(2, 41), (0, v1), (0, v2), (0, 0), (0, 0), (0, 100), (0, 0), (8, -1), (8, -1)]) 12 rfl dX6_addTrait_10 (Nat.le_of_ble_eq_true rfl) rfl ?_
  refine ev_iconst 13 rfl dX6_addTrait_12 (by decide) ?_
  refine ev_istore (L1 := [(2, 41), (0, v1), (0, v2), (0, 0), (0, 0), (0, 100), (0, 0), (0, 0), (8, -1)]) 15 rfl dX6_addTrait_13 (Nat.le_of_ble_eq_true rfl) rfl ?_
  exact H

set_option maxRecDepth 20000 in
theorem b_X6_addTrait_15 {X : qX} {d : Nat} {sh : qS} {pt h : qM} {K : Int → qM → Prop} {v1 v2 v3 v4 v5 v6 v7 : Int} (hst : St sh pt)
    (H : ((9 ≤ v7 → ((v3 < 3 → EvI X (d + 1) mX6_addTrait 98 [(2, 41), (8, -1), (0, v2), (0, v3), (0, v4), (8, -1), (8, -1), (8, -1), (8, -1)] [] sh pt h K) ∧ (3 ≤ v3 → (qI (v3 + (-2))) ∧ (qI (v5 + v6)) ∧ (qI (v4 - (v5 + v6))) ∧ EvI X (d + 1) mX6_addTrait 98 [(2, 41), (8, -1), (0, v2), (0, (v3 + (-2))), (0, (v4 - (v5 + v6))), (8, -1), (8, -1), (8, -1), (8, -1)] [] sh pt h K))) ∧ (v7 < 9 → (qI (v1 * 3)) ∧ (qI ((v1 * 3) + v2)) ∧ (qI (((v1 * 3) + v2) * 9)) ∧ (qI ((((v1 * 3) + v2) * 9) + v7)) ∧ (0 ≤ ((((v1 * 3) + v2) * 9) + v7) ∧ ((((v1 * 3) + v2) * 9) + v7) < 162) ∧ ∀ x2 : Int, x2 = (h 43 ((((v1 * 3) + v2) * 9) + v7)) → ((x2 = (-1) → (qI (v7 + 1)) ∧ EvI X (d + 1) mX6_addTrait 15 [(2, 41), (0, v1), (0, v2), (0, v3), (0, v4), (0, v5), (0, v6), (0, (v7 + 1)), (8, -1)] [] sh pt h K) ∧ (¬ x2 = (-1) → (qI (v3 + 1)) ∧ (qI (v4 + x2)) ∧ RunI X d mJ9_min_7cf53 [(0, v5), (0, x2)] sh pt h (fun r4 h3 => RunI X d mJ9_max_7cf53 [(0, v6), (0, x2)] sh pt h3 (fun r6 h5 => (qI (v7 + 1)) ∧ EvI X (d + 1) mX6_addTrait 15 [(2, 41), (0, v1), (0, v2), (0, (v3 + 1)), (0, (v4 + x2)), (0, r4), (0, r6), (0, (v7 + 1)), (8, -1)] [] sh pt h5 K))))))) :
    EvI X (d + 1) mX6_addTrait 15 [(2, 41), (0, v1), (0, v2), (0, v3), (0, v4), (0, v5), (0, v6), (0, v7), (8, -1)] [] sh pt h K := by
  show Ev X (d + 1) 0 0 mX6_addTrait 15 [(2, 41), (0, v1), (0, v2), (0, v3), (0, v4), (0, v5), (0, v6), (0, v7), (8, -1)] [] (sh, pt, h) (qRI sh pt K)
  refine ev_iload 17 rfl dX6_addTrait_15 rfl ?_
  refine ev_bipush 19 rfl dX6_addTrait_17 (by decide) (by decide) ?_
  refine ev_icmp_ge (tgt := 80) 22 rfl dX6_addTrait_19 (by decide) (fun cd => ?_) (fun cd => ?_)
  · have H := H.1 cd
    refine ev_iload_n 81 rfl dX6_addTrait_80 rfl rfl ?_
    refine ev_iconst 82 rfl dX6_addTrait_81 (by decide) ?_
    refine ev_icmp_lt (tgt := 98) 85 rfl dX6_addTrait_82 (by decide) (fun cd => ?_) (fun cd => ?_)
    · have H := H.1 cd
      refine Ev.drop [1, 5, 6, 7] rfl ?_
      exact H
    · have H := H.2 cd
      obtain ⟨sd, H⟩ := H
      refine ev_iinc (L1 := [(2, 41), (0, v1), (0, v2), (0, (v3 + (-2))), (0, v4), (0, v5), (0, v6), (0, v7), (8, -1)]) 88 rfl dX6_addTrait_85 rfl sd (Nat.le_of_ble_eq_true rfl) rfl ?_
      refine ev_iload 90 rfl dX6_addTrait_88 rfl ?_
      refine ev_iload 92 rfl dX6_addTrait_90 rfl ?_
      refine ev_iload 94 rfl dX6_addTrait_92 rfl ?_
      obtain ⟨sd, H⟩ := H
      refine ev_iadd 95 rfl dX6_addTrait_94 sd ?_
      obtain ⟨sd, H⟩ := H
      refine ev_isub 96 rfl dX6_addTrait_95 sd ?_
      refine ev_istore (L1 := [(2, 41), (0, v1), (0, v2), (0, (v3 + (-2))), (0, (v4 - (v5 + v6))), (0, v5), (0, v6), (0, v7), (8, -1)]) 98 rfl dX6_addTrait_96 (Nat.le_of_ble_eq_true rfl) rfl ?_
      refine Ev.drop [1, 5, 6, 7] rfl ?_
      exact H
  · have H := H.2 cd
    refine ev_aload_n 23 rfl dX6_addTrait_22 rfl rfl ?_
    refine ev_getR (ki := 3) (v := 43) 26 rfl dX6_addTrait_23 lf_6_22 (s_41 hst) (by decide) rfl (p_41_3 hst) ?_
    refine ev_iload_n 27 rfl dX6_addTrait_26 rfl rfl ?_
    refine ev_iconst 28 rfl dX6_addTrait_27 (by decide) ?_
    obtain ⟨sd, H⟩ := H
    refine ev_imul 29 rfl dX6_addTrait_28 sd ?_
    refine ev_iload_n 30 rfl dX6_addTrait_29 rfl rfl ?_
    obtain ⟨sd, H⟩ := H
    refine ev_iadd 31 rfl dX6_addTrait_30 sd ?_
    refine ev_bipush 33 rfl dX6_addTrait_31 (by decide) (by decide) ?_
    obtain ⟨sd, H⟩ := H
    refine ev_imul 34 rfl dX6_addTrait_33 sd ?_
    refine ev_iload 36 rfl dX6_addTrait_34 rfl ?_
    obtain ⟨sd, H⟩ := H
    refine ev_iadd 37 rfl dX6_addTrait_36 sd ?_
    obtain ⟨b1, H⟩ := H
    refine ev_iaload 38 rfl dX6_addTrait_37 (s_43 hst) b1.1 b1.2 ?_
    obtain ⟨x2, ex2⟩ : ∃ z : Int, z = (h 43 ((((v1 * 3) + v2) * 9) + v7)) := ⟨_, rfl⟩
    rw [← ex2]
    have H := H x2 ex2
    refine ev_istore (L1 := [(2, 41), (0, v1), (0, v2), (0, v3), (0, v4), (0, v5), (0, v6), (0, v7), (0, x2)]) 40 rfl dX6_addTrait_38 (Nat.le_of_ble_eq_true rfl) rfl ?_
    refine ev_iload 42 rfl dX6_addTrait_40 rfl ?_
    refine ev_iconst 43 rfl dX6_addTrait_42 (by decide) ?_
    refine ev_icmp_eq (tgt := 74) 46 rfl dX6_addTrait_43 (by decide) (fun cd => ?_) (fun cd => ?_)
    · have H := H.1 cd
      obtain ⟨sd, H⟩ := H
      refine ev_iinc (L1 := [(2, 41), (0, v1), (0, v2), (0, v3), (0, v4), (0, v5), (0, v6), (0, (v7 + 1)), (0, x2)]) 77 rfl dX6_addTrait_74 rfl sd (Nat.le_of_ble_eq_true rfl) rfl ?_
      refine ev_goto (tgt := 15) dX6_addTrait_77 (by decide) ?_
      refine Ev.drop [8] rfl ?_
      exact H
    · have H := H.2 cd
      obtain ⟨sd, H⟩ := H
      refine ev_iinc (L1 := [(2, 41), (0, v1), (0, v2), (0, (v3 + 1)), (0, v4), (0, v5), (0, v6), (0, v7), (0, x2)]) 49 rfl dX6_addTrait_46 rfl sd (Nat.le_of_ble_eq_true rfl) rfl ?_
      refine ev_iload 51 rfl dX6_addTrait_49 rfl ?_
      refine ev_iload 53 rfl dX6_addTrait_51 rfl ?_
      obtain ⟨sd, H⟩ := H
      refine ev_iadd 54 rfl dX6_addTrait_53 sd ?_
      refine ev_istore (L1 := [(2, 41), (0, v1), (0, v2), (0, (v3 + 1)), (0, (v4 + x2)), (0, v5), (0, v6), (0, v7), (0, x2)]) 56 rfl dX6_addTrait_54 (Nat.le_of_ble_eq_true rfl) rfl ?_
      refine ev_iload 58 rfl dX6_addTrait_56 rfl ?_
      refine ev_iload 60 rfl dX6_addTrait_58 rfl ?_
      refine ev_cSI (As := [(0, v5), (0, x2)]) (rest := []) 63 rfl dX6_addTrait_60 lm_6_41 mm_J9_min_7cf53 rfl rfl (Nat.le_of_ble_eq_true rfl) (Nat.le_of_ble_eq_true rfl) (Nat.le_refl _) H ?_
      intro r4 h3 H
      refine ev_istore (L1 := [(2, 41), (0, v1), (0, v2), (0, (v3 + 1)), (0, (v4 + x2)), (0, r4), (0, v6), (0, v7), (0, x2)]) 65 rfl dX6_addTrait_63 (Nat.le_of_ble_eq_true rfl) rfl ?_
      refine ev_iload 67 rfl dX6_addTrait_65 rfl ?_
      refine ev_iload 69 rfl dX6_addTrait_67 rfl ?_
      refine ev_cSI (As := [(0, v6), (0, x2)]) (rest := []) 72 rfl dX6_addTrait_69 lm_6_47 mm_J9_max_7cf53 rfl rfl (Nat.le_of_ble_eq_true rfl) (Nat.le_of_ble_eq_true rfl) (Nat.le_refl _) H ?_
      intro r6 h5 H
      refine ev_istore (L1 := [(2, 41), (0, v1), (0, v2), (0, (v3 + 1)), (0, (v4 + x2)), (0, r4), (0, r6), (0, v7), (0, x2)]) 74 rfl dX6_addTrait_72 (Nat.le_of_ble_eq_true rfl) rfl ?_
      obtain ⟨sd, H⟩ := H
      refine ev_iinc (L1 := [(2, 41), (0, v1), (0, v2), (0, (v3 + 1)), (0, (v4 + x2)), (0, r4), (0, r6), (0, (v7 + 1)), (0, x2)]) 77 rfl dX6_addTrait_74 rfl sd (Nat.le_of_ble_eq_true rfl) rfl ?_
      refine ev_goto (tgt := 15) dX6_addTrait_77 (by decide) ?_
      refine Ev.drop [8] rfl ?_
      exact H

set_option maxRecDepth 20000 in
theorem b_X6_addTrait_98 {X : qX} {d : Nat} {sh : qS} {pt h : qM} {K : Int → qM → Prop} {v2 v3 v4 : Int} (hst : St sh pt)
    (H : (qL ((h 41 4) * v3)) ∧ (qL ((h 41 5) * v4)) ∧ (0 ≤ v2 ∧ v2 < 3) ∧ (qL (((h 41 5) * v4) * (h 42 v2))) ∧ (qL (((h 41 4) * v3) + (((h 41 5) * v4) * (h 42 v2)))) ∧ ∀ h2 : qM, h2 = qup h 41 4 (((h 41 4) * v3) + (((h 41 5) * v4) * (h 42 v2))) → (qL ((h2 41 5) * v3)) ∧ ∀ h3 : qM, h3 = qup h2 41 5 ((h2 41 5) * v3) → ((v3 ≤ 0 → K 0 h3) ∧ (0 < v3 → K 1 h3))) :
    EvI X (d + 1) mX6_addTrait 98 [(2, 41), (8, -1), (0, v2), (0, v3), (0, v4), (8, -1), (8, -1), (8, -1), (8, -1)] [] sh pt h K := by
  show Ev X (d + 1) 0 0 mX6_addTrait 98 [(2, 41), (8, -1), (0, v2), (0, v3), (0, v4), (8, -1), (8, -1), (8, -1), (8, -1)] [] (sh, pt, h) (qRI sh pt K)
  refine ev_aload_n 99 rfl dX6_addTrait_98 rfl rfl ?_
  refine ev_aload_n 100 rfl dX6_addTrait_99 rfl rfl ?_
  refine ev_getL (ki := 4) 103 rfl dX6_addTrait_100 lf_6_25 (s_41 hst) (by decide) rfl ?_
  refine ev_iload_n 104 rfl dX6_addTrait_103 rfl rfl ?_
  refine ev_i2l 105 rfl dX6_addTrait_104 ?_
  obtain ⟨sd, H⟩ := H
  refine ev_lmul 106 rfl dX6_addTrait_105 sd ?_
  refine ev_aload_n 107 rfl dX6_addTrait_106 rfl rfl ?_
  refine ev_getL (ki := 5) 110 rfl dX6_addTrait_107 lf_6_28 (s_41 hst) (by decide) rfl ?_
  refine ev_iload 112 rfl dX6_addTrait_110 rfl ?_
  refine ev_i2l 113 rfl dX6_addTrait_112 ?_
  obtain ⟨sd, H⟩ := H
  refine ev_lmul 114 rfl dX6_addTrait_113 sd ?_
  refine ev_aload_n 115 rfl dX6_addTrait_114 rfl rfl ?_
  refine ev_getR (ki := 0) (v := 42) 118 rfl dX6_addTrait_115 lf_6_11 (s_41 hst) (by decide) rfl (p_41_0 hst) ?_
  refine ev_iload_n 119 rfl dX6_addTrait_118 rfl rfl ?_
  obtain ⟨b1, H⟩ := H
  refine ev_iaload 120 rfl dX6_addTrait_119 (s_42 hst) b1.1 b1.2 ?_
  refine ev_i2l 121 rfl dX6_addTrait_120 ?_
  obtain ⟨sd, H⟩ := H
  refine ev_lmul 122 rfl dX6_addTrait_121 sd ?_
  obtain ⟨sd, H⟩ := H
  refine ev_ladd 123 rfl dX6_addTrait_122 sd ?_
  refine ev_putL (ki := 4) 126 rfl dX6_addTrait_123 lf_6_25 (s_41 hst) (by decide) rfl ?_
  obtain ⟨h2, eh2⟩ : ∃ z : qM, z = qup h 41 4 (((h 41 4) * v3) + (((h 41 5) * v4) * (h 42 v2))) := ⟨_, rfl⟩
  rw [← eh2]
  have H := H h2 eh2
  refine ev_aload_n 127 rfl dX6_addTrait_126 rfl rfl ?_
  refine ev_dup 128 rfl dX6_addTrait_127 q21 ?_
  refine ev_getL (ki := 5) 131 rfl dX6_addTrait_128 lf_6_28 (s_41 hst) (by decide) rfl ?_
  refine ev_iload_n 132 rfl dX6_addTrait_131 rfl rfl ?_
  refine ev_i2l 133 rfl dX6_addTrait_132 ?_
  obtain ⟨sd, H⟩ := H
  refine ev_lmul 134 rfl dX6_addTrait_133 sd ?_
  refine ev_putL (ki := 5) 137 rfl dX6_addTrait_134 lf_6_28 (s_41 hst) (by decide) rfl ?_
  obtain ⟨h3, eh3⟩ : ∃ z : qM, z = qup h2 41 5 ((h2 41 5) * v3) := ⟨_, rfl⟩
  rw [← eh3]
  have H := H h3 eh3
  refine ev_iload_n 138 rfl dX6_addTrait_137 rfl rfl ?_
  refine ev_if_le (tgt := 145) 141 rfl dX6_addTrait_138 (by decide) (fun cd => ?_) (fun cd => ?_)
  · have H := H.1 cd
    refine ev_iconst 146 rfl dX6_addTrait_145 (by decide) ?_
    exact ev_retZ dX6_addTrait_146 rfl (by decide) H
  · have H := H.2 cd
    refine ev_iconst 142 rfl dX6_addTrait_141 (by decide) ?_
    refine ev_goto (tgt := 146) dX6_addTrait_142 (by decide) ?_
    exact ev_retZ dX6_addTrait_146 rfl (by decide) H

set_option maxRecDepth 20000 in
theorem b_X6_tellFraction {X : qX} {d : Nat} {sh : qS} {pt h : qM} {K : qM → Prop} (hst : St sh pt)
    (H : RunL X d mX6_commonDivisor [(1, (h 41 4)), (1, (h 41 5))] sh pt h (fun r2 h1 => ((r2 ≤ 0 → K h1) ∧ (0 < r2 → (0 ≤ (h1 41 4) ∧ 0 < r2) ∧ ∀ h3 : qM, h3 = qup h1 41 1 ((h1 41 4) / r2) → (0 ≤ (h3 41 5) ∧ 0 < r2) ∧ ∀ h4 : qM, h4 = qup h3 41 2 ((h3 41 5) / r2) → K h4)))) :
    RunV X (d + 1) mX6_tellFraction [(2, 41)] sh pt h K := by
  show Ev X (d + 1) 0 0 mX6_tellFraction 0 [(2, 41), (8, -1), (8, -1)] [] (sh, pt, h) (qRV sh pt K)
  refine ev_aload_n 1 rfl dX6_tellFraction_0 rfl rfl ?_
  refine ev_getL (ki := 4) 4 rfl dX6_tellFraction_1 lf_6_25 (s_41 hst) (by decide) rfl ?_
  refine ev_aload_n 5 rfl dX6_tellFraction_4 rfl rfl ?_
  refine ev_getL (ki := 5) 8 rfl dX6_tellFraction_5 lf_6_28 (s_41 hst) (by decide) rfl ?_
  refine ev_cSL (As := [(1, (h 41 4)), (1, (h 41 5))]) (rest := []) 11 rfl dX6_tellFraction_8 lm_6_50 mm_X6_commonDivisor rfl rfl (Nat.le_of_ble_eq_true rfl) (Nat.le_of_ble_eq_true rfl) (Nat.le_refl _) H ?_
  intro r2 h1 H
  refine ev_lstore_n (L1 := [(2, 41), (1, r2), (8, -1)]) 12 rfl dX6_tellFraction_11 rfl (Nat.le_of_ble_eq_true rfl) rfl ?_
  refine ev_lload_n 13 rfl dX6_tellFraction_12 rfl rfl ?_
  refine ev_lconst (v := 0) 14 rfl dX6_tellFraction_13 (by decide) (by decide) ?_
  refine ev_lc_le (tgt := 38) 18 rfl dX6_tellFraction_14 dX6_tellFraction_15 (by decide) (fun cd => ?_) (fun cd => ?_)
  · have H := H.1 cd
    exact ev_retV dX6_tellFraction_38 rfl H
  · have H := H.2 cd
    refine ev_aload_n 19 rfl dX6_tellFraction_18 rfl rfl ?_
    refine ev_aload_n 20 rfl dX6_tellFraction_19 rfl rfl ?_
    refine ev_getL (ki := 4) 23 rfl dX6_tellFraction_20 lf_6_25 (s_41 hst) (by decide) rfl ?_
    refine ev_lload_n 24 rfl dX6_tellFraction_23 rfl rfl ?_
    obtain ⟨sd, H⟩ := H
    refine ev_ldivP 25 rfl dX6_tellFraction_24 sd ?_
    refine ev_putL (ki := 1) 28 rfl dX6_tellFraction_25 lf_6_15 (s_41 hst) (by decide) rfl ?_
    obtain ⟨h3, eh3⟩ : ∃ z : qM, z = qup h1 41 1 ((h1 41 4) / r2) := ⟨_, rfl⟩
    rw [← eh3]
    have H := H h3 eh3
    refine ev_aload_n 29 rfl dX6_tellFraction_28 rfl rfl ?_
    refine ev_aload_n 30 rfl dX6_tellFraction_29 rfl rfl ?_
    refine ev_getL (ki := 5) 33 rfl dX6_tellFraction_30 lf_6_28 (s_41 hst) (by decide) rfl ?_
    refine ev_lload_n 34 rfl dX6_tellFraction_33 rfl rfl ?_
    obtain ⟨sd, H⟩ := H
    refine ev_ldivP 35 rfl dX6_tellFraction_34 sd ?_
    refine ev_putL (ki := 2) 38 rfl dX6_tellFraction_35 lf_6_19 (s_41 hst) (by decide) rfl ?_
    obtain ⟨h4, eh4⟩ : ∃ z : qM, z = qup h3 41 2 ((h3 41 5) / r2) := ⟨_, rfl⟩
    rw [← eh4]
    have H := H h4 eh4
    exact ev_retV dX6_tellFraction_38 rfl H

set_option maxRecDepth 20000 in
theorem b_X6_commonDivisor {X : qX} {d : Nat} {sh : qS} {pt h : qM} {K : Int → qM → Prop} {v0 v2 : Int} (hst : St sh pt)
    (H : EvL X d mX6_commonDivisor 9 [(8, -1), (8, -1), (8, -1), (8, -1), (1, v0), (8, -1), (1, v2), (8, -1), (0, 0), (8, -1), (8, -1)] [] sh pt h K) :
    RunL X d mX6_commonDivisor [(1, v0), (1, v2)] sh pt h K := by
  show Ev X d 0 0 mX6_commonDivisor 0 [(1, v0), (8, -1), (1, v2), (8, -1), (8, -1), (8, -1), (8, -1), (8, -1), (8, -1), (8, -1), (8, -1)] [] (sh, pt, h) (qRL sh pt K)
  refine ev_lload_n 1 rfl dX6_commonDivisor_0 rfl rfl ?_
  refine ev_lstore (L1 := [(1, v0), (8, -1), (1, v2), (8, -1), (1, v0), (8, -1), (8, -1), (8, -1), (8, -1), (8, -1), (8, -1)]) 3 rfl dX6_commonDivisor_1 (Nat.le_of_ble_eq_true rfl) rfl ?_
  refine ev_lload_n 4 rfl dX6_commonDivisor_3 rfl rfl ?_
  refine ev_lstore (L1 := [(1, v0), (8, -1), (1, v2), (8, -1), (1, v0), (8, -1), (1, v2), (8, -1), (8, -1), (8, -1), (8, -1)]) 6 rfl dX6_commonDivisor_4 (Nat.le_of_ble_eq_true rfl) rfl ?_
  refine ev_iconst 7 rfl dX6_commonDivisor_6 (by decide) ?_
  refine ev_istore (L1 := [(1, v0), (8, -1), (1, v2), (8, -1), (1, v0), (8, -1), (1, v2), (8, -1), (0, 0), (8, -1), (8, -1)]) 9 rfl dX6_commonDivisor_7 (Nat.le_of_ble_eq_true rfl) rfl ?_
  refine Ev.drop [0, 2] rfl ?_
  exact H

set_option maxRecDepth 20000 in
theorem b_X6_commonDivisor_9 {X : qX} {d : Nat} {sh : qS} {pt h : qM} {K : Int → qM → Prop} {v4 v6 v8 : Int} (hst : St sh pt)
    (H : ((1000 ≤ v8 → K v4 h) ∧ (v8 < 1000 → ((v6 = 0 → K v4 h) ∧ (¬ v6 = 0 → (0 ≤ v4 ∧ 0 < v6) ∧ (qI (v8 + 1)) ∧ EvL X d mX6_commonDivisor 9 [(8, -1), (8, -1), (8, -1), (8, -1), (1, v6), (8, -1), (1, (v4 % v6)), (8, -1), (0, (v8 + 1)), (8, -1), (8, -1)] [] sh pt h K))))) :
    EvL X d mX6_commonDivisor 9 [(8, -1), (8, -1), (8, -1), (8, -1), (1, v4), (8, -1), (1, v6), (8, -1), (0, v8), (8, -1), (8, -1)] [] sh pt h K := by
  show Ev X d 0 0 mX6_commonDivisor 9 [(8, -1), (8, -1), (8, -1), (8, -1), (1, v4), (8, -1), (1, v6), (8, -1), (0, v8), (8, -1), (8, -1)] [] (sh, pt, h) (qRL sh pt K)
  refine ev_iload 11 rfl dX6_commonDivisor_9 rfl ?_
  refine ev_sipush 14 rfl dX6_commonDivisor_11 (by decide) (by decide) ?_
  refine ev_icmp_ge (tgt := 45) 17 rfl dX6_commonDivisor_14 (by decide) (fun cd => ?_) (fun cd => ?_)
  · have H := H.1 cd
    refine ev_lload 47 rfl dX6_commonDivisor_45 rfl ?_
    exact ev_retL dX6_commonDivisor_47 rfl H
  · have H := H.2 cd
    refine ev_lload 19 rfl dX6_commonDivisor_17 rfl ?_
    refine ev_lconst (v := 0) 20 rfl dX6_commonDivisor_19 (by decide) (by decide) ?_
    refine ev_lc_eq (tgt := 45) 24 rfl dX6_commonDivisor_20 dX6_commonDivisor_21 (by decide) (fun cd => ?_) (fun cd => ?_)
    · have H := H.1 cd
      refine ev_lload 47 rfl dX6_commonDivisor_45 rfl ?_
      exact ev_retL dX6_commonDivisor_47 rfl H
    · have H := H.2 cd
      refine ev_lload 26 rfl dX6_commonDivisor_24 rfl ?_
      refine ev_lload 28 rfl dX6_commonDivisor_26 rfl ?_
      obtain ⟨sd, H⟩ := H
      refine ev_lremP 29 rfl dX6_commonDivisor_28 sd ?_
      refine ev_lstore (L1 := [(8, -1), (8, -1), (8, -1), (8, -1), (1, v4), (8, -1), (1, v6), (8, -1), (0, v8), (1, (v4 % v6)), (8, -1)]) 31 rfl dX6_commonDivisor_29 (Nat.le_of_ble_eq_true rfl) rfl ?_
      refine ev_lload 33 rfl dX6_commonDivisor_31 rfl ?_
      refine ev_lstore (L1 := [(8, -1), (8, -1), (8, -1), (8, -1), (1, v6), (8, -1), (1, v6), (8, -1), (0, v8), (1, (v4 % v6)), (8, -1)]) 35 rfl dX6_commonDivisor_33 (Nat.le_of_ble_eq_true rfl) rfl ?_
      refine ev_lload 37 rfl dX6_commonDivisor_35 rfl ?_
      refine ev_lstore (L1 := [(8, -1), (8, -1), (8, -1), (8, -1), (1, v6), (8, -1), (1, (v4 % v6)), (8, -1), (0, v8), (1, (v4 % v6)), (8, -1)]) 39 rfl dX6_commonDivisor_37 (Nat.le_of_ble_eq_true rfl) rfl ?_
      obtain ⟨sd, H⟩ := H
      refine ev_iinc (L1 := [(8, -1), (8, -1), (8, -1), (8, -1), (1, v6), (8, -1), (1, (v4 % v6)), (8, -1), (0, (v8 + 1)), (1, (v4 % v6)), (8, -1)]) 42 rfl dX6_commonDivisor_39 rfl sd (Nat.le_of_ble_eq_true rfl) rfl ?_
      refine ev_goto (tgt := 9) dX6_commonDivisor_42 (by decide) ?_
      refine Ev.drop [9] rfl ?_
      exact H

set_option maxRecDepth 20000 in
theorem b_X6_placeOf {X : qX} {d : Nat} {sh : qS} {pt h : qM} {K : Int → qM → Prop} {v1 : Int} (hst : St sh pt)
    (H : RunI X d mX6_reckon [(2, 41), (0, v1)] sh pt h (fun r2 h1 => ((¬ r2 = 0 → EvI X (d + 1) mX6_placeOf 27 [(2, 41), (8, -1), (1, (h1 41 4)), (8, -1), (1, (h1 41 5)), (8, -1), (0, 1), (0, 0)] [] sh pt h1 K) ∧ (r2 = 0 → K (-1) h1)))) :
    RunI X (d + 1) mX6_placeOf [(2, 41), (0, v1)] sh pt h K := by
  show Ev X (d + 1) 0 0 mX6_placeOf 0 [(2, 41), (0, v1), (8, -1), (8, -1), (8, -1), (8, -1), (8, -1), (8, -1)] [] (sh, pt, h) (qRI sh pt K)
  refine ev_aload_n 1 rfl dX6_placeOf_0 rfl rfl ?_
  refine ev_iload_n 2 rfl dX6_placeOf_1 rfl rfl ?_
  refine ev_cVI (As := [(0, v1)]) (rest := []) 5 rfl dX6_placeOf_2 lm_6_54 mm_X6_reckon (s_41 hst) rfl rfl (Nat.le_of_ble_eq_true rfl) (Nat.le_of_ble_eq_true rfl) (Nat.le_refl _) H ?_
  intro r2 h1 H
  refine ev_if_ne (tgt := 10) 8 rfl dX6_placeOf_5 (by decide) (fun cd => ?_) (fun cd => ?_)
  · have H := H.1 cd
    refine ev_aload_n 11 rfl dX6_placeOf_10 rfl rfl ?_
    refine ev_getL (ki := 4) 14 rfl dX6_placeOf_11 lf_6_25 (s_41 hst) (by decide) rfl ?_
    refine ev_lstore_n (L1 := [(2, 41), (0, v1), (1, (h1 41 4)), (8, -1), (8, -1), (8, -1), (8, -1), (8, -1)]) 15 rfl dX6_placeOf_14 rfl (Nat.le_of_ble_eq_true rfl) rfl ?_
    refine ev_aload_n 16 rfl dX6_placeOf_15 rfl rfl ?_
    refine ev_getL (ki := 5) 19 rfl dX6_placeOf_16 lf_6_28 (s_41 hst) (by decide) rfl ?_
    refine ev_lstore (L1 := [(2, 41), (0, v1), (1, (h1 41 4)), (8, -1), (1, (h1 41 5)), (8, -1), (8, -1), (8, -1)]) 21 rfl dX6_placeOf_19 (Nat.le_of_ble_eq_true rfl) rfl ?_
    refine ev_iconst 22 rfl dX6_placeOf_21 (by decide) ?_
    refine ev_istore (L1 := [(2, 41), (0, v1), (1, (h1 41 4)), (8, -1), (1, (h1 41 5)), (8, -1), (0, 1), (8, -1)]) 24 rfl dX6_placeOf_22 (Nat.le_of_ble_eq_true rfl) rfl ?_
    refine ev_iconst 25 rfl dX6_placeOf_24 (by decide) ?_
    refine ev_istore (L1 := [(2, 41), (0, v1), (1, (h1 41 4)), (8, -1), (1, (h1 41 5)), (8, -1), (0, 1), (0, 0)]) 27 rfl dX6_placeOf_25 (Nat.le_of_ble_eq_true rfl) rfl ?_
    refine Ev.drop [1] rfl ?_
    exact H
  · have H := H.2 cd
    refine ev_iconst 9 rfl dX6_placeOf_8 (by decide) ?_
    exact ev_retI dX6_placeOf_9 rfl H

set_option maxRecDepth 20000 in
theorem b_X6_placeOf_27 {X : qX} {d : Nat} {sh : qS} {pt h : qM} {K : Int → qM → Prop} {v2 v4 v6 v7 : Int} (hst : St sh pt)
    (H : ((6 ≤ v7 → K v6 h) ∧ (v7 < 6 → RunI X d mX6_reckon [(2, 41), (0, v7)] sh pt h (fun r2 h1 => ((r2 = 0 → (qI (v7 + 1)) ∧ EvI X (d + 1) mX6_placeOf 27 [(2, 41), (8, -1), (1, v2), (8, -1), (1, v4), (8, -1), (0, v6), (0, (v7 + 1))] [] sh pt h1 K) ∧ (¬ r2 = 0 → (qL ((h1 41 4) * v4)) ∧ (qL (v2 * (h1 41 5))) ∧ ((((h1 41 4) * v4) ≤ (v2 * (h1 41 5)) → (qI (v7 + 1)) ∧ EvI X (d + 1) mX6_placeOf 27 [(2, 41), (8, -1), (1, v2), (8, -1), (1, v4), (8, -1), (0, v6), (0, (v7 + 1))] [] sh pt h1 K) ∧ ((v2 * (h1 41 5)) < ((h1 41 4) * v4) → (qI (v6 + 1)) ∧ (qI (v7 + 1)) ∧ EvI X (d + 1) mX6_placeOf 27 [(2, 41), (8, -1), (1, v2), (8, -1), (1, v4), (8, -1), (0, (v6 + 1)), (0, (v7 + 1))] [] sh pt h1 K)))))))) :
    EvI X (d + 1) mX6_placeOf 27 [(2, 41), (8, -1), (1, v2), (8, -1), (1, v4), (8, -1), (0, v6), (0, v7)] [] sh pt h K := by
  show Ev X (d + 1) 0 0 mX6_placeOf 27 [(2, 41), (8, -1), (1, v2), (8, -1), (1, v4), (8, -1), (0, v6), (0, v7)] [] (sh, pt, h) (qRI sh pt K)
  refine ev_iload 29 rfl dX6_placeOf_27 rfl ?_
  refine ev_bipush 31 rfl dX6_placeOf_29 (by decide) (by decide) ?_
  refine ev_icmp_ge (tgt := 69) 34 rfl dX6_placeOf_31 (by decide) (fun cd => ?_) (fun cd => ?_)
  · have H := H.1 cd
    refine ev_iload 71 rfl dX6_placeOf_69 rfl ?_
    exact ev_retI dX6_placeOf_71 rfl H
  · have H := H.2 cd
    refine ev_aload_n 35 rfl dX6_placeOf_34 rfl rfl ?_
    refine ev_iload 37 rfl dX6_placeOf_35 rfl ?_
    refine ev_cVI (As := [(0, v7)]) (rest := []) 40 rfl dX6_placeOf_37 lm_6_54 mm_X6_reckon (s_41 hst) rfl rfl (Nat.le_of_ble_eq_true rfl) (Nat.le_of_ble_eq_true rfl) (Nat.le_refl _) H ?_
    intro r2 h1 H
    refine ev_if_eq (tgt := 63) 43 rfl dX6_placeOf_40 (by decide) (fun cd => ?_) (fun cd => ?_)
    · have H := H.1 cd
      obtain ⟨sd, H⟩ := H
      refine ev_iinc (L1 := [(2, 41), (8, -1), (1, v2), (8, -1), (1, v4), (8, -1), (0, v6), (0, (v7 + 1))]) 66 rfl dX6_placeOf_63 rfl sd (Nat.le_of_ble_eq_true rfl) rfl ?_
      refine ev_goto (tgt := 27) dX6_placeOf_66 (by decide) ?_
      exact H
    · have H := H.2 cd
      refine ev_aload_n 44 rfl dX6_placeOf_43 rfl rfl ?_
      refine ev_getL (ki := 4) 47 rfl dX6_placeOf_44 lf_6_25 (s_41 hst) (by decide) rfl ?_
      refine ev_lload 49 rfl dX6_placeOf_47 rfl ?_
      obtain ⟨sd, H⟩ := H
      refine ev_lmul 50 rfl dX6_placeOf_49 sd ?_
      refine ev_lload_n 51 rfl dX6_placeOf_50 rfl rfl ?_
      refine ev_aload_n 52 rfl dX6_placeOf_51 rfl rfl ?_
      refine ev_getL (ki := 5) 55 rfl dX6_placeOf_52 lf_6_28 (s_41 hst) (by decide) rfl ?_
      obtain ⟨sd, H⟩ := H
      refine ev_lmul 56 rfl dX6_placeOf_55 sd ?_
      refine ev_lc_le (tgt := 63) 60 rfl dX6_placeOf_56 dX6_placeOf_57 (by decide) (fun cd => ?_) (fun cd => ?_)
      · have H := H.1 cd
        obtain ⟨sd, H⟩ := H
        refine ev_iinc (L1 := [(2, 41), (8, -1), (1, v2), (8, -1), (1, v4), (8, -1), (0, v6), (0, (v7 + 1))]) 66 rfl dX6_placeOf_63 rfl sd (Nat.le_of_ble_eq_true rfl) rfl ?_
        refine ev_goto (tgt := 27) dX6_placeOf_66 (by decide) ?_
        exact H
      · have H := H.2 cd
        obtain ⟨sd, H⟩ := H
        refine ev_iinc (L1 := [(2, 41), (8, -1), (1, v2), (8, -1), (1, v4), (8, -1), (0, (v6 + 1)), (0, v7)]) 63 rfl dX6_placeOf_60 rfl sd (Nat.le_of_ble_eq_true rfl) rfl ?_
        obtain ⟨sd, H⟩ := H
        refine ev_iinc (L1 := [(2, 41), (8, -1), (1, v2), (8, -1), (1, v4), (8, -1), (0, (v6 + 1)), (0, (v7 + 1))]) 66 rfl dX6_placeOf_63 rfl sd (Nat.le_of_ble_eq_true rfl) rfl ?_
        refine ev_goto (tgt := 27) dX6_placeOf_66 (by decide) ?_
        exact H

set_option maxRecDepth 20000 in
theorem b_X10_status {X : qX} {d : Nat} {sh : qS} {pt h : qM} {K : Int → qM → Prop} (hst : St sh pt)
    (H : K (h 0 12) h) :
    RunI X d mX10_status [(2, 0)] sh pt h K := by
  show Ev X d 0 0 mX10_status 0 [(2, 0)] [] (sh, pt, h) (qRI sh pt K)
  refine ev_aload_n 1 rfl dX10_status_0 rfl rfl ?_
  refine ev_getI (ki := 12) 4 rfl dX10_status_1 lf_10_84 (Or.inl rfl) (s_0 hst) (by decide) rfl ?_
  exact ev_retI dX10_status_4 rfl H

set_option maxRecDepth 20000 in
theorem b_X10_tray {X : qX} {d : Nat} {sh : qS} {pt h : qM} {K : Int → qM → Prop} {v1 v2 v3 : Int} (hst : St sh pt)
    (H : RunI X d mX10_isTray [(0, v1)] sh pt h (fun r2 h1 => ((r2 = 0 → RunI X d mX10_refuse [(2, 0), (0, 1)] sh pt h1 (fun r4 h3 => (0 ≤ r4 ∧ r4 ≤ 1) ∧ K r4 h3)) ∧ (¬ r2 = 0 → ((v2 < 0 → RunI X d mX10_refuse [(2, 0), (0, 1)] sh pt h1 (fun r6 h5 => (0 ≤ r6 ∧ r6 ≤ 1) ∧ K r6 h5)) ∧ (0 ≤ v2 → ((v2 ≤ 3 → ((v3 ≤ 40 → ((0 ≤ v3 → (0 ≤ v1 ∧ v1 < 4) ∧ RunV X d mX8_lay [(2, (70 + 2 * v1)), (0, v2), (0, v3)] sh pt h1 (fun h8 => RunI X d mX10_agree [(2, 0)] sh pt h8 (fun r10 h9 => (0 ≤ r10 ∧ r10 ≤ 1) ∧ K r10 h9))) ∧ (v3 < 0 → RunI X d mX10_refuse [(2, 0), (0, 6)] sh pt h1 (fun r12 h11 => (0 ≤ r12 ∧ r12 ≤ 1) ∧ K r12 h11)))) ∧ (40 < v3 → RunI X d mX10_refuse [(2, 0), (0, 5)] sh pt h1 (fun r14 h13 => (0 ≤ r14 ∧ r14 ≤ 1) ∧ K r14 h13)))) ∧ (3 < v2 → RunI X d mX10_refuse [(2, 0), (0, 1)] sh pt h1 (fun r16 h15 => (0 ≤ r16 ∧ r16 ≤ 1) ∧ K r16 h15))))))))) :
    RunI X (d + 1) mX10_tray [(2, 0), (0, v1), (0, v2), (0, v3)] sh pt h K := by
  show Ev X (d + 1) 0 0 mX10_tray 0 [(2, 0), (0, v1), (0, v2), (0, v3)] [] (sh, pt, h) (qRI sh pt K)
  refine ev_iload_n 1 rfl dX10_tray_0 rfl rfl ?_
  refine ev_cSI (As := [(0, v1)]) (rest := []) 4 rfl dX10_tray_1 lm_10_101 mm_X10_isTray rfl rfl (Nat.le_of_ble_eq_true rfl) (Nat.le_of_ble_eq_true rfl) (Nat.le_refl _) H ?_
  intro r2 h1 H
  refine ev_if_eq (tgt := 16) 7 rfl dX10_tray_4 (by decide) (fun cd => ?_) (fun cd => ?_)
  · have H := H.1 cd
    refine ev_aload_n 17 rfl dX10_tray_16 rfl rfl ?_
    refine ev_iconst 18 rfl dX10_tray_17 (by decide) ?_
    refine ev_cVI (As := [(0, 1)]) (rest := []) 21 rfl dX10_tray_18 lm_10_105 mm_X10_refuse (s_0 hst) rfl rfl (Nat.le_of_ble_eq_true rfl) (Nat.le_of_ble_eq_true rfl) (Nat.le_refl _) H ?_
    intro r4 h3 H
    obtain ⟨sd, H⟩ := H
    exact ev_retZ dX10_tray_21 rfl sd H
  · have H := H.2 cd
    refine ev_iload_n 8 rfl dX10_tray_7 rfl rfl ?_
    refine ev_if_lt (tgt := 16) 11 rfl dX10_tray_8 (by decide) (fun cd => ?_) (fun cd => ?_)
    · have H := H.1 cd
      refine ev_aload_n 17 rfl dX10_tray_16 rfl rfl ?_
      refine ev_iconst 18 rfl dX10_tray_17 (by decide) ?_
      refine ev_cVI (As := [(0, 1)]) (rest := []) 21 rfl dX10_tray_18 lm_10_105 mm_X10_refuse (s_0 hst) rfl rfl (Nat.le_of_ble_eq_true rfl) (Nat.le_of_ble_eq_true rfl) (Nat.le_refl _) H ?_
      intro r6 h5 H
      obtain ⟨sd, H⟩ := H
      exact ev_retZ dX10_tray_21 rfl sd H
    · have H := H.2 cd
      refine ev_iload_n 12 rfl dX10_tray_11 rfl rfl ?_
      refine ev_iconst 13 rfl dX10_tray_12 (by decide) ?_
      refine ev_icmp_le (tgt := 22) 16 rfl dX10_tray_13 (by decide) (fun cd => ?_) (fun cd => ?_)
      · have H := H.1 cd
        refine ev_iload_n 23 rfl dX10_tray_22 rfl rfl ?_
        refine ev_bipush 25 rfl dX10_tray_23 (by decide) (by decide) ?_
        refine ev_icmp_le (tgt := 34) 28 rfl dX10_tray_25 (by decide) (fun cd => ?_) (fun cd => ?_)
        · have H := H.1 cd
          refine ev_iload_n 35 rfl dX10_tray_34 rfl rfl ?_
          refine ev_if_ge (tgt := 45) 38 rfl dX10_tray_35 (by decide) (fun cd => ?_) (fun cd => ?_)
          · have H := H.1 cd
            refine ev_aload_n 46 rfl dX10_tray_45 rfl rfl ?_
            refine ev_getR (ki := 0) (v := 1) 49 rfl dX10_tray_46 lf_10_11 (s_0 hst) (by decide) rfl (p_0_0 hst) ?_
            refine ev_iload_n 50 rfl dX10_tray_49 rfl rfl ?_
            obtain ⟨b7, H⟩ := H
            refine ev_aaload 51 rfl dX10_tray_50 (s_1 hst) b7.1 b7.2 (pW_at hst b7.1 b7.2) ?_
            refine ev_iload_n 52 rfl dX10_tray_51 rfl rfl ?_
            refine ev_iload_n 53 rfl dX10_tray_52 rfl rfl ?_
            refine ev_cVV (As := [(0, v2), (0, v3)]) (rest := []) 56 rfl dX10_tray_53 lm_10_108 mm_X8_lay (sW hst (isW_of b7.1 b7.2)) rfl rfl (Nat.le_of_ble_eq_true rfl) (Nat.le_of_ble_eq_true rfl) (Nat.le_refl _) H ?_
            intro h8 H
            refine ev_aload_n 57 rfl dX10_tray_56 rfl rfl ?_
            refine ev_cVI (As := []) (rest := []) 60 rfl dX10_tray_57 lm_10_112 mm_X10_agree (s_0 hst) rfl rfl (Nat.le_of_ble_eq_true rfl) (Nat.le_of_ble_eq_true rfl) (Nat.le_refl _) H ?_
            intro r10 h9 H
            obtain ⟨sd, H⟩ := H
            exact ev_retZ dX10_tray_60 rfl sd H
          · have H := H.2 cd
            refine ev_aload_n 39 rfl dX10_tray_38 rfl rfl ?_
            refine ev_bipush 41 rfl dX10_tray_39 (by decide) (by decide) ?_
            refine ev_cVI (As := [(0, 6)]) (rest := []) 44 rfl dX10_tray_41 lm_10_105 mm_X10_refuse (s_0 hst) rfl rfl (Nat.le_of_ble_eq_true rfl) (Nat.le_of_ble_eq_true rfl) (Nat.le_refl _) H ?_
            intro r12 h11 H
            obtain ⟨sd, H⟩ := H
            exact ev_retZ dX10_tray_44 rfl sd H
        · have H := H.2 cd
          refine ev_aload_n 29 rfl dX10_tray_28 rfl rfl ?_
          refine ev_iconst 30 rfl dX10_tray_29 (by decide) ?_
          refine ev_cVI (As := [(0, 5)]) (rest := []) 33 rfl dX10_tray_30 lm_10_105 mm_X10_refuse (s_0 hst) rfl rfl (Nat.le_of_ble_eq_true rfl) (Nat.le_of_ble_eq_true rfl) (Nat.le_refl _) H ?_
          intro r14 h13 H
          obtain ⟨sd, H⟩ := H
          exact ev_retZ dX10_tray_33 rfl sd H
      · have H := H.2 cd
        refine ev_aload_n 17 rfl dX10_tray_16 rfl rfl ?_
        refine ev_iconst 18 rfl dX10_tray_17 (by decide) ?_
        refine ev_cVI (As := [(0, 1)]) (rest := []) 21 rfl dX10_tray_18 lm_10_105 mm_X10_refuse (s_0 hst) rfl rfl (Nat.le_of_ble_eq_true rfl) (Nat.le_of_ble_eq_true rfl) (Nat.le_refl _) H ?_
        intro r16 h15 H
        obtain ⟨sd, H⟩ := H
        exact ev_retZ dX10_tray_21 rfl sd H

set_option maxRecDepth 20000 in
theorem b_X10_write {X : qX} {d : Nat} {sh : qS} {pt h : qM} {K : Int → qM → Prop} {v1 v2 v3 : Int} (hst : St sh pt)
    (H : RunI X d mX10_placeStatus [(2, 0), (0, v1), (0, v2)] sh pt h (fun r2 h1 => ((r2 = 0 → (0 ≤ v1 ∧ v1 < 4) ∧ RunV X d mX8_put [(2, (70 + 2 * v1)), (0, v2), (1, v3)] sh pt h1 (fun h4 => RunI X d mX10_agree [(2, 0)] sh pt h4 (fun r6 h5 => (0 ≤ r6 ∧ r6 ≤ 1) ∧ K r6 h5))) ∧ (¬ r2 = 0 → RunI X d mX10_refuse [(2, 0), (0, r2)] sh pt h1 (fun r8 h7 => (0 ≤ r8 ∧ r8 ≤ 1) ∧ K r8 h7))))) :
    RunI X (d + 1) mX10_write [(2, 0), (0, v1), (0, v2), (1, v3)] sh pt h K := by
  show Ev X (d + 1) 0 0 mX10_write 0 [(2, 0), (0, v1), (0, v2), (1, v3), (8, -1), (8, -1)] [] (sh, pt, h) (qRI sh pt K)
  refine ev_aload_n 1 rfl dX10_write_0 rfl rfl ?_
  refine ev_iload_n 2 rfl dX10_write_1 rfl rfl ?_
  refine ev_iload_n 3 rfl dX10_write_2 rfl rfl ?_
  refine ev_cVI (As := [(0, v1), (0, v2)]) (rest := []) 6 rfl dX10_write_3 lm_10_116 mm_X10_placeStatus (s_0 hst) rfl rfl (Nat.le_of_ble_eq_true rfl) (Nat.le_of_ble_eq_true rfl) (Nat.le_refl _) H ?_
  intro r2 h1 H
  refine ev_istore (L1 := [(2, 0), (0, v1), (0, v2), (1, v3), (8, -1), (0, r2)]) 8 rfl dX10_write_6 (Nat.le_of_ble_eq_true rfl) rfl ?_
  refine ev_iload 10 rfl dX10_write_8 rfl ?_
  refine ev_if_eq (tgt := 20) 13 rfl dX10_write_10 (by decide) (fun cd => ?_) (fun cd => ?_)
  · have H := H.1 cd
    refine ev_aload_n 21 rfl dX10_write_20 rfl rfl ?_
    refine ev_getR (ki := 0) (v := 1) 24 rfl dX10_write_21 lf_10_11 (s_0 hst) (by decide) rfl (p_0_0 hst) ?_
    refine ev_iload_n 25 rfl dX10_write_24 rfl rfl ?_
    obtain ⟨b3, H⟩ := H
    refine ev_aaload 26 rfl dX10_write_25 (s_1 hst) b3.1 b3.2 (pW_at hst b3.1 b3.2) ?_
    refine ev_iload_n 27 rfl dX10_write_26 rfl rfl ?_
    refine ev_lload_n 28 rfl dX10_write_27 rfl rfl ?_
    refine ev_cVV (As := [(0, v2), (1, v3)]) (rest := []) 31 rfl dX10_write_28 lm_10_120 mm_X8_put (sW hst (isW_of b3.1 b3.2)) rfl rfl (Nat.le_of_ble_eq_true rfl) (Nat.le_of_ble_eq_true rfl) (Nat.le_refl _) H ?_
    intro h4 H
    refine ev_aload_n 32 rfl dX10_write_31 rfl rfl ?_
    refine ev_cVI (As := []) (rest := []) 35 rfl dX10_write_32 lm_10_112 mm_X10_agree (s_0 hst) rfl rfl (Nat.le_of_ble_eq_true rfl) (Nat.le_of_ble_eq_true rfl) (Nat.le_refl _) H ?_
    intro r6 h5 H
    obtain ⟨sd, H⟩ := H
    exact ev_retZ dX10_write_35 rfl sd H
  · have H := H.2 cd
    refine ev_aload_n 14 rfl dX10_write_13 rfl rfl ?_
    refine ev_iload 16 rfl dX10_write_14 rfl ?_
    refine ev_cVI (As := [(0, r2)]) (rest := []) 19 rfl dX10_write_16 lm_10_105 mm_X10_refuse (s_0 hst) rfl rfl (Nat.le_of_ble_eq_true rfl) (Nat.le_of_ble_eq_true rfl) (Nat.le_refl _) H ?_
    intro r8 h7 H
    obtain ⟨sd, H⟩ := H
    exact ev_retZ dX10_write_19 rfl sd H

set_option maxRecDepth 20000 in
theorem b_X10_read {X : qX} {d : Nat} {sh : qS} {pt h : qM} {K : Int → qM → Prop} {v1 v2 : Int} (hst : St sh pt)
    (H : RunI X d mX10_placeStatus [(2, 0), (0, v1), (0, v2)] sh pt h (fun r2 h1 => ((r2 = 0 → ∀ h3 : qM, h3 = qup h1 0 12 0 → (0 ≤ v1 ∧ v1 < 4) ∧ (0 ≤ v2 ∧ v2 < 40) ∧ K (h3 ((70 + 2 * v1) + 1) v2) h3) ∧ (¬ r2 = 0 → RunI X d mX10_none [(2, 0), (0, r2)] sh pt h1 (fun r7 h6 => K r7 h6))))) :
    RunL X (d + 1) mX10_read [(2, 0), (0, v1), (0, v2)] sh pt h K := by
  show Ev X (d + 1) 0 0 mX10_read 0 [(2, 0), (0, v1), (0, v2), (8, -1)] [] (sh, pt, h) (qRL sh pt K)
  refine ev_aload_n 1 rfl dX10_read_0 rfl rfl ?_
  refine ev_iload_n 2 rfl dX10_read_1 rfl rfl ?_
  refine ev_iload_n 3 rfl dX10_read_2 rfl rfl ?_
  refine ev_cVI (As := [(0, v1), (0, v2)]) (rest := []) 6 rfl dX10_read_3 lm_10_116 mm_X10_placeStatus (s_0 hst) rfl rfl (Nat.le_of_ble_eq_true rfl) (Nat.le_of_ble_eq_true rfl) (Nat.le_refl _) H ?_
  intro r2 h1 H
  refine ev_istore_n (L1 := [(2, 0), (0, v1), (0, v2), (0, r2)]) 7 rfl dX10_read_6 rfl (Nat.le_of_ble_eq_true rfl) rfl ?_
  refine ev_iload_n 8 rfl dX10_read_7 rfl rfl ?_
  refine ev_if_eq (tgt := 18) 11 rfl dX10_read_8 (by decide) (fun cd => ?_) (fun cd => ?_)
  · have H := H.1 cd
    refine ev_aload_n 19 rfl dX10_read_18 rfl rfl ?_
    refine ev_iconst 20 rfl dX10_read_19 (by decide) ?_
    refine ev_putI (ki := 12) 23 rfl dX10_read_20 lf_10_84 (Or.inl rfl) (s_0 hst) (by decide) rfl ?_
    obtain ⟨h3, eh3⟩ : ∃ z : qM, z = qup h1 0 12 0 := ⟨_, rfl⟩
    rw [← eh3]
    have H := H h3 eh3
    refine ev_aload_n 24 rfl dX10_read_23 rfl rfl ?_
    refine ev_getR (ki := 0) (v := 1) 27 rfl dX10_read_24 lf_10_11 (s_0 hst) (by decide) rfl (p_0_0 hst) ?_
    refine ev_iload_n 28 rfl dX10_read_27 rfl rfl ?_
    obtain ⟨b4, H⟩ := H
    refine ev_aaload 29 rfl dX10_read_28 (s_1 hst) b4.1 b4.2 (pW_at hst b4.1 b4.2) ?_
    refine ev_getR (ki := 0) (v := ((70 + 2 * v1) + 1)) 32 rfl dX10_read_29 lf_10_128 (sW hst (isW_of b4.1 b4.2)) (by decide) rfl (pW0 hst (isW_of b4.1 b4.2)) ?_
    refine ev_iload_n 33 rfl dX10_read_32 rfl rfl ?_
    obtain ⟨b5, H⟩ := H
    refine ev_laload 34 rfl dX10_read_33 (sW0 hst (isW_of b4.1 b4.2)) b5.1 b5.2 ?_
    exact ev_retL dX10_read_34 rfl H
  · have H := H.2 cd
    refine ev_aload_n 12 rfl dX10_read_11 rfl rfl ?_
    refine ev_iload_n 13 rfl dX10_read_12 rfl rfl ?_
    refine ev_cVI (As := [(0, r2)]) (rest := []) 16 rfl dX10_read_13 lm_10_124 mm_X10_none (s_0 hst) rfl rfl (Nat.le_of_ble_eq_true rfl) (Nat.le_of_ble_eq_true rfl) (Nat.le_refl _) H ?_
    intro r7 h6 H
    refine ev_i2l 17 rfl dX10_read_16 ?_
    exact ev_retL dX10_read_17 rfl H

set_option maxRecDepth 20000 in
theorem b_X10_pour {X : qX} {d : Nat} {sh : qS} {pt h : qM} {K : Int → qM → Prop} {v1 v2 v3 v4 v5 : Int} (hst : St sh pt)
    (H : RunI X d mX10_isTray [(0, v1)] sh pt h (fun r2 h1 => ((r2 = 0 → RunI X d mX10_refuse [(2, 0), (0, 1)] sh pt h1 (fun r4 h3 => (0 ≤ r4 ∧ r4 ≤ 1) ∧ K r4 h3)) ∧ (¬ r2 = 0 → RunI X d mX10_isTray [(0, v3)] sh pt h1 (fun r6 h5 => ((¬ r6 = 0 → (0 ≤ v1 ∧ v1 < 4) ∧ (0 ≤ v3 ∧ v3 < 4) ∧ (((h5 (70 + 2 * v1) 1) = 0 → RunI X d mX10_refuse [(2, 0), (0, 3)] sh pt h5 (fun r10 h9 => (0 ≤ r10 ∧ r10 ≤ 1) ∧ K r10 h9)) ∧ (¬ (h5 (70 + 2 * v1) 1) = 0 → ((¬ (h5 (70 + 2 * v3) 1) = 0 → (((h5 (70 + 2 * v1) 2) = (h5 (70 + 2 * v3) 2) → ((0 ≤ v5 → RunI X d mX8_hasRange [(2, (70 + 2 * v1)), (0, v2), (0, v5)] sh pt h5 (fun r12 h11 => ((r12 = 0 → RunI X d mX10_refuse [(2, 0), (0, 4)] sh pt h11 (fun r14 h13 => (0 ≤ r14 ∧ r14 ≤ 1) ∧ K r14 h13)) ∧ (¬ r12 = 0 → RunI X d mX8_hasRange [(2, (70 + 2 * v3)), (0, v4), (0, v5)] sh pt h11 (fun r16 h15 => ((¬ r16 = 0 → ((0 : Int) ≤ v2 ∧ (0 : Int) ≤ v4 ∧ (0 : Int) ≤ v5 ∧ v2 + v5 ≤ (40 : Int) ∧ v4 + v5 ≤ (40 : Int)) ∧ ∀ h17 : qM, h17 = qcp h15 ((70 + 2 * v1) + 1) v2 ((70 + 2 * v3) + 1) v4 v5 → RunI X d mX10_agree [(2, 0)] sh pt h17 (fun r19 h18 => (0 ≤ r19 ∧ r19 ≤ 1) ∧ K r19 h18)) ∧ (r16 = 0 → RunI X d mX10_refuse [(2, 0), (0, 4)] sh pt h15 (fun r21 h20 => (0 ≤ r21 ∧ r21 ≤ 1) ∧ K r21 h20)))))))) ∧ (v5 < 0 → RunI X d mX10_refuse [(2, 0), (0, 6)] sh pt h5 (fun r23 h22 => (0 ≤ r23 ∧ r23 ≤ 1) ∧ K r23 h22)))) ∧ (¬ (h5 (70 + 2 * v1) 2) = (h5 (70 + 2 * v3) 2) → RunI X d mX10_refuse [(2, 0), (0, 11)] sh pt h5 (fun r25 h24 => (0 ≤ r25 ∧ r25 ≤ 1) ∧ K r25 h24)))) ∧ ((h5 (70 + 2 * v3) 1) = 0 → RunI X d mX10_refuse [(2, 0), (0, 3)] sh pt h5 (fun r27 h26 => (0 ≤ r27 ∧ r27 ≤ 1) ∧ K r27 h26)))))) ∧ (r6 = 0 → RunI X d mX10_refuse [(2, 0), (0, 1)] sh pt h5 (fun r29 h28 => (0 ≤ r29 ∧ r29 ≤ 1) ∧ K r29 h28)))))))) :
    RunI X (d + 1) mX10_pour [(2, 0), (0, v1), (0, v2), (0, v3), (0, v4), (0, v5)] sh pt h K := by
  show Ev X (d + 1) 0 0 mX10_pour 0 [(2, 0), (0, v1), (0, v2), (0, v3), (0, v4), (0, v5), (8, -1), (8, -1)] [] (sh, pt, h) (qRI sh pt K)
  refine ev_iload_n 1 rfl dX10_pour_0 rfl rfl ?_
  refine ev_cSI (As := [(0, v1)]) (rest := []) 4 rfl dX10_pour_1 lm_10_101 mm_X10_isTray rfl rfl (Nat.le_of_ble_eq_true rfl) (Nat.le_of_ble_eq_true rfl) (Nat.le_refl _) H ?_
  intro r2 h1 H
  refine ev_if_eq (tgt := 14) 7 rfl dX10_pour_4 (by decide) (fun cd => ?_) (fun cd => ?_)
  · have H := H.1 cd
    refine ev_aload_n 15 rfl dX10_pour_14 rfl rfl ?_
    refine ev_iconst 16 rfl dX10_pour_15 (by decide) ?_
    refine ev_cVI (As := [(0, 1)]) (rest := []) 19 rfl dX10_pour_16 lm_10_105 mm_X10_refuse (s_0 hst) rfl rfl (Nat.le_of_ble_eq_true rfl) (Nat.le_of_ble_eq_true rfl) (Nat.le_refl _) H ?_
    intro r4 h3 H
    obtain ⟨sd, H⟩ := H
    exact ev_retZ dX10_pour_19 rfl sd H
  · have H := H.2 cd
    refine ev_iload_n 8 rfl dX10_pour_7 rfl rfl ?_
    refine ev_cSI (As := [(0, v3)]) (rest := []) 11 rfl dX10_pour_8 lm_10_101 mm_X10_isTray rfl rfl (Nat.le_of_ble_eq_true rfl) (Nat.le_of_ble_eq_true rfl) (Nat.le_refl _) H ?_
    intro r6 h5 H
    refine ev_if_ne (tgt := 20) 14 rfl dX10_pour_11 (by decide) (fun cd => ?_) (fun cd => ?_)
    · have H := H.1 cd
      refine ev_aload_n 21 rfl dX10_pour_20 rfl rfl ?_
      refine ev_getR (ki := 0) (v := 1) 24 rfl dX10_pour_21 lf_10_11 (s_0 hst) (by decide) rfl (p_0_0 hst) ?_
      refine ev_iload_n 25 rfl dX10_pour_24 rfl rfl ?_
      obtain ⟨b7, H⟩ := H
      refine ev_aaload 26 rfl dX10_pour_25 (s_1 hst) b7.1 b7.2 (pW_at hst b7.1 b7.2) ?_
      refine ev_astore (L1 := [(2, 0), (0, v1), (0, v2), (0, v3), (0, v4), (0, v5), (2, (70 + 2 * v1)), (8, -1)]) 28 rfl dX10_pour_26 (Nat.le_of_ble_eq_true rfl) rfl ?_
      refine ev_aload_n 29 rfl dX10_pour_28 rfl rfl ?_
      refine ev_getR (ki := 0) (v := 1) 32 rfl dX10_pour_29 lf_10_11 (s_0 hst) (by decide) rfl (p_0_0 hst) ?_
      refine ev_iload_n 33 rfl dX10_pour_32 rfl rfl ?_
      obtain ⟨b8, H⟩ := H
      refine ev_aaload 34 rfl dX10_pour_33 (s_1 hst) b8.1 b8.2 (pW_at hst b8.1 b8.2) ?_
      refine ev_astore (L1 := [(2, 0), (0, v1), (0, v2), (0, v3), (0, v4), (0, v5), (2, (70 + 2 * v1)), (2, (70 + 2 * v3))]) 36 rfl dX10_pour_34 (Nat.le_of_ble_eq_true rfl) rfl ?_
      refine ev_aload 38 rfl dX10_pour_36 rfl ?_
      refine ev_getI (ki := 1) 41 rfl dX10_pour_38 lf_10_132 (Or.inr rfl) (sW hst (isW_of b7.1 b7.2)) (by decide) rfl ?_
      refine ev_if_eq (tgt := 52) 44 rfl dX10_pour_41 (by decide) (fun cd => ?_) (fun cd => ?_)
      · have H := H.1 cd
        refine ev_aload_n 53 rfl dX10_pour_52 rfl rfl ?_
        refine ev_iconst 54 rfl dX10_pour_53 (by decide) ?_
        refine ev_cVI (As := [(0, 3)]) (rest := []) 57 rfl dX10_pour_54 lm_10_105 mm_X10_refuse (s_0 hst) rfl rfl (Nat.le_of_ble_eq_true rfl) (Nat.le_of_ble_eq_true rfl) (Nat.le_refl _) H ?_
        intro r10 h9 H
        obtain ⟨sd, H⟩ := H
        exact ev_retZ dX10_pour_57 rfl sd H
      · have H := H.2 cd
        refine ev_aload 46 rfl dX10_pour_44 rfl ?_
        refine ev_getI (ki := 1) 49 rfl dX10_pour_46 lf_10_132 (Or.inr rfl) (sW hst (isW_of b8.1 b8.2)) (by decide) rfl ?_
        refine ev_if_ne (tgt := 58) 52 rfl dX10_pour_49 (by decide) (fun cd => ?_) (fun cd => ?_)
        · have H := H.1 cd
          refine ev_aload 60 rfl dX10_pour_58 rfl ?_
          refine ev_getI (ki := 2) 63 rfl dX10_pour_60 lf_10_136 (Or.inl rfl) (sW hst (isW_of b7.1 b7.2)) (by decide) rfl ?_
          refine ev_aload 65 rfl dX10_pour_63 rfl ?_
          refine ev_getI (ki := 2) 68 rfl dX10_pour_65 lf_10_136 (Or.inl rfl) (sW hst (isW_of b8.1 b8.2)) (by decide) rfl ?_
          refine ev_icmp_eq (tgt := 78) 71 rfl dX10_pour_68 (by decide) (fun cd => ?_) (fun cd => ?_)
          · have H := H.1 cd
            refine ev_iload 80 rfl dX10_pour_78 rfl ?_
            refine ev_if_ge (tgt := 90) 83 rfl dX10_pour_80 (by decide) (fun cd => ?_) (fun cd => ?_)
            · have H := H.1 cd
              refine ev_aload 92 rfl dX10_pour_90 rfl ?_
              refine ev_iload_n 93 rfl dX10_pour_92 rfl rfl ?_
              refine ev_iload 95 rfl dX10_pour_93 rfl ?_
              refine ev_cVI (As := [(0, v2), (0, v5)]) (rest := []) 98 rfl dX10_pour_95 lm_10_139 mm_X8_hasRange (sW hst (isW_of b7.1 b7.2)) rfl rfl (Nat.le_of_ble_eq_true rfl) (Nat.le_of_ble_eq_true rfl) (Nat.le_refl _) H ?_
              intro r12 h11 H
              refine ev_if_eq (tgt := 113) 101 rfl dX10_pour_98 (by decide) (fun cd => ?_) (fun cd => ?_)
              · have H := H.1 cd
                refine ev_aload_n 114 rfl dX10_pour_113 rfl rfl ?_
                refine ev_iconst 115 rfl dX10_pour_114 (by decide) ?_
                refine ev_cVI (As := [(0, 4)]) (rest := []) 118 rfl dX10_pour_115 lm_10_105 mm_X10_refuse (s_0 hst) rfl rfl (Nat.le_of_ble_eq_true rfl) (Nat.le_of_ble_eq_true rfl) (Nat.le_refl _) H ?_
                intro r14 h13 H
                obtain ⟨sd, H⟩ := H
                exact ev_retZ dX10_pour_118 rfl sd H
              · have H := H.2 cd
                refine ev_aload 103 rfl dX10_pour_101 rfl ?_
                refine ev_iload 105 rfl dX10_pour_103 rfl ?_
                refine ev_iload 107 rfl dX10_pour_105 rfl ?_
                refine ev_cVI (As := [(0, v4), (0, v5)]) (rest := []) 110 rfl dX10_pour_107 lm_10_139 mm_X8_hasRange (sW hst (isW_of b8.1 b8.2)) rfl rfl (Nat.le_of_ble_eq_true rfl) (Nat.le_of_ble_eq_true rfl) (Nat.le_refl _) H ?_
                intro r16 h15 H
                refine ev_if_ne (tgt := 119) 113 rfl dX10_pour_110 (by decide) (fun cd => ?_) (fun cd => ?_)
                · have H := H.1 cd
                  refine ev_aload 121 rfl dX10_pour_119 rfl ?_
                  refine ev_getR (ki := 0) (v := ((70 + 2 * v1) + 1)) 124 rfl dX10_pour_121 lf_10_128 (sW hst (isW_of b7.1 b7.2)) (by decide) rfl (pW0 hst (isW_of b7.1 b7.2)) ?_
                  refine ev_iload_n 125 rfl dX10_pour_124 rfl rfl ?_
                  refine ev_aload 127 rfl dX10_pour_125 rfl ?_
                  refine ev_getR (ki := 0) (v := ((70 + 2 * v3) + 1)) 130 rfl dX10_pour_127 lf_10_128 (sW hst (isW_of b8.1 b8.2)) (by decide) rfl (pW0 hst (isW_of b8.1 b8.2)) ?_
                  refine ev_iload 132 rfl dX10_pour_130 rfl ?_
                  refine ev_iload 134 rfl dX10_pour_132 rfl ?_
                  obtain ⟨sd, H⟩ := H
                  refine ev_copyL 137 rfl dX10_pour_134 la_10_143 (sW0 hst (isW_of b7.1 b7.2)) (sW0 hst (isW_of b8.1 b8.2)) sd.1 sd.2.1 sd.2.2.1 sd.2.2.2.1 sd.2.2.2.2 (Nat.le_of_ble_eq_true rfl) (Nat.succ_le_succ (Nat.zero_le _)) ?_
                  obtain ⟨h17, eh17⟩ : ∃ z : qM, z = qcp h15 ((70 + 2 * v1) + 1) v2 ((70 + 2 * v3) + 1) v4 v5 := ⟨_, rfl⟩
                  rw [← eh17]
                  have H := H h17 eh17
                  refine ev_aload_n 138 rfl dX10_pour_137 rfl rfl ?_
                  refine ev_cVI (As := []) (rest := []) 141 rfl dX10_pour_138 lm_10_112 mm_X10_agree (s_0 hst) rfl rfl (Nat.le_of_ble_eq_true rfl) (Nat.le_of_ble_eq_true rfl) (Nat.le_refl _) H ?_
                  intro r19 h18 H
                  obtain ⟨sd, H⟩ := H
                  exact ev_retZ dX10_pour_141 rfl sd H
                · have H := H.2 cd
                  refine ev_aload_n 114 rfl dX10_pour_113 rfl rfl ?_
                  refine ev_iconst 115 rfl dX10_pour_114 (by decide) ?_
                  refine ev_cVI (As := [(0, 4)]) (rest := []) 118 rfl dX10_pour_115 lm_10_105 mm_X10_refuse (s_0 hst) rfl rfl (Nat.le_of_ble_eq_true rfl) (Nat.le_of_ble_eq_true rfl) (Nat.le_refl _) H ?_
                  intro r21 h20 H
                  obtain ⟨sd, H⟩ := H
                  exact ev_retZ dX10_pour_118 rfl sd H
            · have H := H.2 cd
              refine ev_aload_n 84 rfl dX10_pour_83 rfl rfl ?_
              refine ev_bipush 86 rfl dX10_pour_84 (by decide) (by decide) ?_
              refine ev_cVI (As := [(0, 6)]) (rest := []) 89 rfl dX10_pour_86 lm_10_105 mm_X10_refuse (s_0 hst) rfl rfl (Nat.le_of_ble_eq_true rfl) (Nat.le_of_ble_eq_true rfl) (Nat.le_refl _) H ?_
              intro r23 h22 H
              obtain ⟨sd, H⟩ := H
              exact ev_retZ dX10_pour_89 rfl sd H
          · have H := H.2 cd
            refine ev_aload_n 72 rfl dX10_pour_71 rfl rfl ?_
            refine ev_bipush 74 rfl dX10_pour_72 (by decide) (by decide) ?_
            refine ev_cVI (As := [(0, 11)]) (rest := []) 77 rfl dX10_pour_74 lm_10_105 mm_X10_refuse (s_0 hst) rfl rfl (Nat.le_of_ble_eq_true rfl) (Nat.le_of_ble_eq_true rfl) (Nat.le_refl _) H ?_
            intro r25 h24 H
            obtain ⟨sd, H⟩ := H
            exact ev_retZ dX10_pour_77 rfl sd H
        · have H := H.2 cd
          refine ev_aload_n 53 rfl dX10_pour_52 rfl rfl ?_
          refine ev_iconst 54 rfl dX10_pour_53 (by decide) ?_
          refine ev_cVI (As := [(0, 3)]) (rest := []) 57 rfl dX10_pour_54 lm_10_105 mm_X10_refuse (s_0 hst) rfl rfl (Nat.le_of_ble_eq_true rfl) (Nat.le_of_ble_eq_true rfl) (Nat.le_refl _) H ?_
          intro r27 h26 H
          obtain ⟨sd, H⟩ := H
          exact ev_retZ dX10_pour_57 rfl sd H
    · have H := H.2 cd
      refine ev_aload_n 15 rfl dX10_pour_14 rfl rfl ?_
      refine ev_iconst 16 rfl dX10_pour_15 (by decide) ?_
      refine ev_cVI (As := [(0, 1)]) (rest := []) 19 rfl dX10_pour_16 lm_10_105 mm_X10_refuse (s_0 hst) rfl rfl (Nat.le_of_ble_eq_true rfl) (Nat.le_of_ble_eq_true rfl) (Nat.le_refl _) H ?_
      intro r29 h28 H
      obtain ⟨sd, H⟩ := H
      exact ev_retZ dX10_pour_19 rfl sd H

set_option maxRecDepth 20000 in
theorem b_X10_marcher {X : qX} {d : Nat} {sh : qS} {pt h : qM} {K : Int → qM → Prop} {v1 v2 v3 : Int} (hst : St sh pt)
    (H : RunI X d mX2_isSpot [(0, v1), (0, v2)] sh pt h (fun r2 h1 => ((r2 = 0 → RunI X d mX10_none [(2, 0), (0, 5)] sh pt h1 (fun r4 h3 => K r4 h3)) ∧ (¬ r2 = 0 → RunI X d mX2_isFace [(0, v3)] sh pt h1 (fun r6 h5 => ((¬ r6 = 0 → (((h5 2 3) < 20 → RunI X d mX2_addMarcher [(2, 2), (0, v1), (0, v2), (0, v3)] sh pt h5 (fun r8 h7 => RunI X d mX10_answer [(2, 0), (0, r8)] sh pt h7 (fun r10 h9 => K r10 h9))) ∧ (20 ≤ (h5 2 3) → RunI X d mX10_none [(2, 0), (0, 7)] sh pt h5 (fun r12 h11 => K r12 h11)))) ∧ (r6 = 0 → RunI X d mX10_none [(2, 0), (0, 5)] sh pt h5 (fun r14 h13 => K r14 h13)))))))) :
    RunI X (d + 1) mX10_marcher [(2, 0), (0, v1), (0, v2), (0, v3)] sh pt h K := by
  show Ev X (d + 1) 0 0 mX10_marcher 0 [(2, 0), (0, v1), (0, v2), (0, v3)] [] (sh, pt, h) (qRI sh pt K)
  refine ev_iload_n 1 rfl dX10_marcher_0 rfl rfl ?_
  refine ev_iload_n 2 rfl dX10_marcher_1 rfl rfl ?_
  refine ev_cSI (As := [(0, v1), (0, v2)]) (rest := []) 5 rfl dX10_marcher_2 lm_10_149 mm_X2_isSpot rfl rfl (Nat.le_of_ble_eq_true rfl) (Nat.le_of_ble_eq_true rfl) (Nat.le_refl _) H ?_
  intro r2 h1 H
  refine ev_if_eq (tgt := 15) 8 rfl dX10_marcher_5 (by decide) (fun cd => ?_) (fun cd => ?_)
  · have H := H.1 cd
    refine ev_aload_n 16 rfl dX10_marcher_15 rfl rfl ?_
    refine ev_iconst 17 rfl dX10_marcher_16 (by decide) ?_
    refine ev_cVI (As := [(0, 5)]) (rest := []) 20 rfl dX10_marcher_17 lm_10_124 mm_X10_none (s_0 hst) rfl rfl (Nat.le_of_ble_eq_true rfl) (Nat.le_of_ble_eq_true rfl) (Nat.le_refl _) H ?_
    intro r4 h3 H
    exact ev_retI dX10_marcher_20 rfl H
  · have H := H.2 cd
    refine ev_iload_n 9 rfl dX10_marcher_8 rfl rfl ?_
    refine ev_cSI (As := [(0, v3)]) (rest := []) 12 rfl dX10_marcher_9 lm_10_152 mm_X2_isFace rfl rfl (Nat.le_of_ble_eq_true rfl) (Nat.le_of_ble_eq_true rfl) (Nat.le_refl _) H ?_
    intro r6 h5 H
    refine ev_if_ne (tgt := 21) 15 rfl dX10_marcher_12 (by decide) (fun cd => ?_) (fun cd => ?_)
    · have H := H.1 cd
      refine ev_aload_n 22 rfl dX10_marcher_21 rfl rfl ?_
      refine ev_getR (ki := 1) (v := 2) 25 rfl dX10_marcher_22 lf_10_18 (s_0 hst) (by decide) rfl (p_0_1 hst) ?_
      refine ev_getI (ki := 3) 28 rfl dX10_marcher_25 lf_10_155 (Or.inl rfl) (s_2 hst) (by decide) rfl ?_
      refine ev_bipush 30 rfl dX10_marcher_28 (by decide) (by decide) ?_
      refine ev_icmp_lt (tgt := 40) 33 rfl dX10_marcher_30 (by decide) (fun cd => ?_) (fun cd => ?_)
      · have H := H.1 cd
        refine ev_aload_n 41 rfl dX10_marcher_40 rfl rfl ?_
        refine ev_aload_n 42 rfl dX10_marcher_41 rfl rfl ?_
        refine ev_getR (ki := 1) (v := 2) 45 rfl dX10_marcher_42 lf_10_18 (s_0 hst) (by decide) rfl (p_0_1 hst) ?_
        refine ev_iload_n 46 rfl dX10_marcher_45 rfl rfl ?_
        refine ev_iload_n 47 rfl dX10_marcher_46 rfl rfl ?_
        refine ev_iload_n 48 rfl dX10_marcher_47 rfl rfl ?_
        refine ev_cVI (As := [(0, v1), (0, v2), (0, v3)]) (rest := [(2, 0)]) 51 rfl dX10_marcher_48 lm_10_158 mm_X2_addMarcher (s_2 hst) rfl rfl (Nat.le_of_ble_eq_true rfl) (Nat.le_of_ble_eq_true rfl) (Nat.le_refl _) H ?_
        intro r8 h7 H
        refine ev_cVI (As := [(0, r8)]) (rest := []) 54 rfl dX10_marcher_51 lm_10_162 mm_X10_answer (s_0 hst) rfl rfl (Nat.le_of_ble_eq_true rfl) (Nat.le_of_ble_eq_true rfl) (Nat.le_refl _) H ?_
        intro r10 h9 H
        exact ev_retI dX10_marcher_54 rfl H
      · have H := H.2 cd
        refine ev_aload_n 34 rfl dX10_marcher_33 rfl rfl ?_
        refine ev_bipush 36 rfl dX10_marcher_34 (by decide) (by decide) ?_
        refine ev_cVI (As := [(0, 7)]) (rest := []) 39 rfl dX10_marcher_36 lm_10_124 mm_X10_none (s_0 hst) rfl rfl (Nat.le_of_ble_eq_true rfl) (Nat.le_of_ble_eq_true rfl) (Nat.le_refl _) H ?_
        intro r12 h11 H
        exact ev_retI dX10_marcher_39 rfl H
    · have H := H.2 cd
      refine ev_aload_n 16 rfl dX10_marcher_15 rfl rfl ?_
      refine ev_iconst 17 rfl dX10_marcher_16 (by decide) ?_
      refine ev_cVI (As := [(0, 5)]) (rest := []) 20 rfl dX10_marcher_17 lm_10_124 mm_X10_none (s_0 hst) rfl rfl (Nat.le_of_ble_eq_true rfl) (Nat.le_of_ble_eq_true rfl) (Nat.le_refl _) H ?_
      intro r14 h13 H
      exact ev_retI dX10_marcher_20 rfl H

set_option maxRecDepth 20000 in
theorem b_X10_prop {X : qX} {d : Nat} {sh : qS} {pt h : qM} {K : Int → qM → Prop} {v1 v2 : Int} (hst : St sh pt)
    (H : RunI X d mX2_isSpot [(0, v1), (0, v2)] sh pt h (fun r2 h1 => ((¬ r2 = 0 → (((h1 2 5) < 30 → RunI X d mX2_hasProp [(2, 2), (0, v1), (0, v2)] sh pt h1 (fun r4 h3 => ((r4 = 0 → RunV X d mX2_addProp [(2, 2), (0, v1), (0, v2)] sh pt h3 (fun h5 => RunI X d mX10_agree [(2, 0)] sh pt h5 (fun r7 h6 => (0 ≤ r7 ∧ r7 ≤ 1) ∧ K r7 h6))) ∧ (¬ r4 = 0 → RunI X d mX10_refuse [(2, 0), (0, 9)] sh pt h3 (fun r9 h8 => (0 ≤ r9 ∧ r9 ≤ 1) ∧ K r9 h8))))) ∧ (30 ≤ (h1 2 5) → RunI X d mX10_refuse [(2, 0), (0, 7)] sh pt h1 (fun r11 h10 => (0 ≤ r11 ∧ r11 ≤ 1) ∧ K r11 h10)))) ∧ (r2 = 0 → RunI X d mX10_refuse [(2, 0), (0, 5)] sh pt h1 (fun r13 h12 => (0 ≤ r13 ∧ r13 ≤ 1) ∧ K r13 h12))))) :
    RunI X (d + 1) mX10_prop [(2, 0), (0, v1), (0, v2)] sh pt h K := by
  show Ev X (d + 1) 0 0 mX10_prop 0 [(2, 0), (0, v1), (0, v2)] [] (sh, pt, h) (qRI sh pt K)
  refine ev_iload_n 1 rfl dX10_prop_0 rfl rfl ?_
  refine ev_iload_n 2 rfl dX10_prop_1 rfl rfl ?_
  refine ev_cSI (As := [(0, v1), (0, v2)]) (rest := []) 5 rfl dX10_prop_2 lm_10_149 mm_X2_isSpot rfl rfl (Nat.le_of_ble_eq_true rfl) (Nat.le_of_ble_eq_true rfl) (Nat.le_refl _) H ?_
  intro r2 h1 H
  refine ev_if_ne (tgt := 14) 8 rfl dX10_prop_5 (by decide) (fun cd => ?_) (fun cd => ?_)
  · have H := H.1 cd
    refine ev_aload_n 15 rfl dX10_prop_14 rfl rfl ?_
    refine ev_getR (ki := 1) (v := 2) 18 rfl dX10_prop_15 lf_10_18 (s_0 hst) (by decide) rfl (p_0_1 hst) ?_
    refine ev_getI (ki := 5) 21 rfl dX10_prop_18 lf_10_165 (Or.inl rfl) (s_2 hst) (by decide) rfl ?_
    refine ev_bipush 23 rfl dX10_prop_21 (by decide) (by decide) ?_
    refine ev_icmp_lt (tgt := 33) 26 rfl dX10_prop_23 (by decide) (fun cd => ?_) (fun cd => ?_)
    · have H := H.1 cd
      refine ev_aload_n 34 rfl dX10_prop_33 rfl rfl ?_
      refine ev_getR (ki := 1) (v := 2) 37 rfl dX10_prop_34 lf_10_18 (s_0 hst) (by decide) rfl (p_0_1 hst) ?_
      refine ev_iload_n 38 rfl dX10_prop_37 rfl rfl ?_
      refine ev_iload_n 39 rfl dX10_prop_38 rfl rfl ?_
      refine ev_cVI (As := [(0, v1), (0, v2)]) (rest := []) 42 rfl dX10_prop_39 lm_10_168 mm_X2_hasProp (s_2 hst) rfl rfl (Nat.le_of_ble_eq_true rfl) (Nat.le_of_ble_eq_true rfl) (Nat.le_refl _) H ?_
      intro r4 h3 H
      refine ev_if_eq (tgt := 52) 45 rfl dX10_prop_42 (by decide) (fun cd => ?_) (fun cd => ?_)
      · have H := H.1 cd
        refine ev_aload_n 53 rfl dX10_prop_52 rfl rfl ?_
        refine ev_getR (ki := 1) (v := 2) 56 rfl dX10_prop_53 lf_10_18 (s_0 hst) (by decide) rfl (p_0_1 hst) ?_
        refine ev_iload_n 57 rfl dX10_prop_56 rfl rfl ?_
        refine ev_iload_n 58 rfl dX10_prop_57 rfl rfl ?_
        refine ev_cVV (As := [(0, v1), (0, v2)]) (rest := []) 61 rfl dX10_prop_58 lm_10_171 mm_X2_addProp (s_2 hst) rfl rfl (Nat.le_of_ble_eq_true rfl) (Nat.le_of_ble_eq_true rfl) (Nat.le_refl _) H ?_
        intro h5 H
        refine ev_aload_n 62 rfl dX10_prop_61 rfl rfl ?_
        refine ev_cVI (As := []) (rest := []) 65 rfl dX10_prop_62 lm_10_112 mm_X10_agree (s_0 hst) rfl rfl (Nat.le_of_ble_eq_true rfl) (Nat.le_of_ble_eq_true rfl) (Nat.le_refl _) H ?_
        intro r7 h6 H
        obtain ⟨sd, H⟩ := H
        exact ev_retZ dX10_prop_65 rfl sd H
      · have H := H.2 cd
        refine ev_aload_n 46 rfl dX10_prop_45 rfl rfl ?_
        refine ev_bipush 48 rfl dX10_prop_46 (by decide) (by decide) ?_
        refine ev_cVI (As := [(0, 9)]) (rest := []) 51 rfl dX10_prop_48 lm_10_105 mm_X10_refuse (s_0 hst) rfl rfl (Nat.le_of_ble_eq_true rfl) (Nat.le_of_ble_eq_true rfl) (Nat.le_refl _) H ?_
        intro r9 h8 H
        obtain ⟨sd, H⟩ := H
        exact ev_retZ dX10_prop_51 rfl sd H
    · have H := H.2 cd
      refine ev_aload_n 27 rfl dX10_prop_26 rfl rfl ?_
      refine ev_bipush 29 rfl dX10_prop_27 (by decide) (by decide) ?_
      refine ev_cVI (As := [(0, 7)]) (rest := []) 32 rfl dX10_prop_29 lm_10_105 mm_X10_refuse (s_0 hst) rfl rfl (Nat.le_of_ble_eq_true rfl) (Nat.le_of_ble_eq_true rfl) (Nat.le_refl _) H ?_
      intro r11 h10 H
      obtain ⟨sd, H⟩ := H
      exact ev_retZ dX10_prop_32 rfl sd H
  · have H := H.2 cd
    refine ev_aload_n 9 rfl dX10_prop_8 rfl rfl ?_
    refine ev_iconst 10 rfl dX10_prop_9 (by decide) ?_
    refine ev_cVI (As := [(0, 5)]) (rest := []) 13 rfl dX10_prop_10 lm_10_105 mm_X10_refuse (s_0 hst) rfl rfl (Nat.le_of_ble_eq_true rfl) (Nat.le_of_ble_eq_true rfl) (Nat.le_refl _) H ?_
    intro r13 h12 H
    obtain ⟨sd, H⟩ := H
    exact ev_retZ dX10_prop_13 rfl sd H

set_option maxRecDepth 20000 in
theorem b_X10_group {X : qX} {d : Nat} {sh : qS} {pt h : qM} {K : Int → qM → Prop} {v1 v3 : Int} (hst : St sh pt)
    (H : RunI X d mX2_isName [(1, v1)] sh pt h (fun r2 h1 => ((r2 = 0 → RunI X d mX10_none [(2, 0), (0, 5)] sh pt h1 (fun r4 h3 => K r4 h3)) ∧ (¬ r2 = 0 → ((v3 = 0 → RunI X d mX10_none [(2, 0), (0, 5)] sh pt h1 (fun r6 h5 => K r6 h5)) ∧ (¬ v3 = 0 → RunI X d mX2_isSet [(2, 2), (0, v3)] sh pt h1 (fun r8 h7 => ((¬ r8 = 0 → RunI X d mX2_groupNamed [(2, 2), (1, v1)] sh pt h7 (fun r10 h9 => ((¬ r10 = (-1) → RunI X d mX2_tellGroup [(2, 2), (0, r10), (1, v1), (0, v3)] sh pt h9 (fun r12 h11 => RunI X d mX10_answer [(2, 0), (0, r12)] sh pt h11 (fun r14 h13 => K r14 h13))) ∧ (r10 = (-1) → (((h9 2 8) < 8 → RunI X d mX2_tellGroup [(2, 2), (0, r10), (1, v1), (0, v3)] sh pt h9 (fun r16 h15 => RunI X d mX10_answer [(2, 0), (0, r16)] sh pt h15 (fun r18 h17 => K r18 h17))) ∧ (8 ≤ (h9 2 8) → RunI X d mX10_none [(2, 0), (0, 7)] sh pt h9 (fun r20 h19 => K r20 h19))))))) ∧ (r8 = 0 → RunI X d mX10_none [(2, 0), (0, 5)] sh pt h7 (fun r22 h21 => K r22 h21)))))))))) :
    RunI X (d + 1) mX10_group [(2, 0), (1, v1), (0, v3)] sh pt h K := by
  show Ev X (d + 1) 0 0 mX10_group 0 [(2, 0), (1, v1), (8, -1), (0, v3), (8, -1)] [] (sh, pt, h) (qRI sh pt K)
  refine ev_lload_n 1 rfl dX10_group_0 rfl rfl ?_
  refine ev_cSI (As := [(1, v1)]) (rest := []) 4 rfl dX10_group_1 lm_10_174 mm_X2_isName rfl rfl (Nat.le_of_ble_eq_true rfl) (Nat.le_of_ble_eq_true rfl) (Nat.le_refl _) H ?_
  intro r2 h1 H
  refine ev_if_eq (tgt := 22) 7 rfl dX10_group_4 (by decide) (fun cd => ?_) (fun cd => ?_)
  · have H := H.1 cd
    refine ev_aload_n 23 rfl dX10_group_22 rfl rfl ?_
    refine ev_iconst 24 rfl dX10_group_23 (by decide) ?_
    refine ev_cVI (As := [(0, 5)]) (rest := []) 27 rfl dX10_group_24 lm_10_124 mm_X10_none (s_0 hst) rfl rfl (Nat.le_of_ble_eq_true rfl) (Nat.le_of_ble_eq_true rfl) (Nat.le_refl _) H ?_
    intro r4 h3 H
    exact ev_retI dX10_group_27 rfl H
  · have H := H.2 cd
    refine ev_iload_n 8 rfl dX10_group_7 rfl rfl ?_
    refine ev_if_eq (tgt := 22) 11 rfl dX10_group_8 (by decide) (fun cd => ?_) (fun cd => ?_)
    · have H := H.1 cd
      refine ev_aload_n 23 rfl dX10_group_22 rfl rfl ?_
      refine ev_iconst 24 rfl dX10_group_23 (by decide) ?_
      refine ev_cVI (As := [(0, 5)]) (rest := []) 27 rfl dX10_group_24 lm_10_124 mm_X10_none (s_0 hst) rfl rfl (Nat.le_of_ble_eq_true rfl) (Nat.le_of_ble_eq_true rfl) (Nat.le_refl _) H ?_
      intro r6 h5 H
      exact ev_retI dX10_group_27 rfl H
    · have H := H.2 cd
      refine ev_aload_n 12 rfl dX10_group_11 rfl rfl ?_
      refine ev_getR (ki := 1) (v := 2) 15 rfl dX10_group_12 lf_10_18 (s_0 hst) (by decide) rfl (p_0_1 hst) ?_
      refine ev_iload_n 16 rfl dX10_group_15 rfl rfl ?_
      refine ev_cVI (As := [(0, v3)]) (rest := []) 19 rfl dX10_group_16 lm_10_178 mm_X2_isSet (s_2 hst) rfl rfl (Nat.le_of_ble_eq_true rfl) (Nat.le_of_ble_eq_true rfl) (Nat.le_refl _) H ?_
      intro r8 h7 H
      refine ev_if_ne (tgt := 28) 22 rfl dX10_group_19 (by decide) (fun cd => ?_) (fun cd => ?_)
      · have H := H.1 cd
        refine ev_aload_n 29 rfl dX10_group_28 rfl rfl ?_
        refine ev_getR (ki := 1) (v := 2) 32 rfl dX10_group_29 lf_10_18 (s_0 hst) (by decide) rfl (p_0_1 hst) ?_
        refine ev_lload_n 33 rfl dX10_group_32 rfl rfl ?_
        refine ev_cVI (As := [(1, v1)]) (rest := []) 36 rfl dX10_group_33 lm_10_181 mm_X2_groupNamed (s_2 hst) rfl rfl (Nat.le_of_ble_eq_true rfl) (Nat.le_of_ble_eq_true rfl) (Nat.le_refl _) H ?_
        intro r10 h9 H
        refine ev_istore (L1 := [(2, 0), (1, v1), (8, -1), (0, v3), (0, r10)]) 38 rfl dX10_group_36 (Nat.le_of_ble_eq_true rfl) rfl ?_
        refine ev_iload 40 rfl dX10_group_38 rfl ?_
        refine ev_iconst 41 rfl dX10_group_40 (by decide) ?_
        refine ev_icmp_ne (tgt := 63) 44 rfl dX10_group_41 (by decide) (fun cd => ?_) (fun cd => ?_)
        · have H := H.1 cd
          refine ev_aload_n 64 rfl dX10_group_63 rfl rfl ?_
          refine ev_aload_n 65 rfl dX10_group_64 rfl rfl ?_
          refine ev_getR (ki := 1) (v := 2) 68 rfl dX10_group_65 lf_10_18 (s_0 hst) (by decide) rfl (p_0_1 hst) ?_
          refine ev_iload 70 rfl dX10_group_68 rfl ?_
          refine ev_lload_n 71 rfl dX10_group_70 rfl rfl ?_
          refine ev_iload_n 72 rfl dX10_group_71 rfl rfl ?_
          refine ev_cVI (As := [(0, r10), (1, v1), (0, v3)]) (rest := [(2, 0)]) 75 rfl dX10_group_72 lm_10_188 mm_X2_tellGroup (s_2 hst) rfl rfl (Nat.le_of_ble_eq_true rfl) (Nat.le_of_ble_eq_true rfl) (Nat.le_refl _) H ?_
          intro r12 h11 H
          refine ev_cVI (As := [(0, r12)]) (rest := []) 78 rfl dX10_group_75 lm_10_162 mm_X10_answer (s_0 hst) rfl rfl (Nat.le_of_ble_eq_true rfl) (Nat.le_of_ble_eq_true rfl) (Nat.le_refl _) H ?_
          intro r14 h13 H
          exact ev_retI dX10_group_78 rfl H
        · have H := H.2 cd
          refine ev_aload_n 45 rfl dX10_group_44 rfl rfl ?_
          refine ev_getR (ki := 1) (v := 2) 48 rfl dX10_group_45 lf_10_18 (s_0 hst) (by decide) rfl (p_0_1 hst) ?_
          refine ev_getI (ki := 8) 51 rfl dX10_group_48 lf_10_185 (Or.inl rfl) (s_2 hst) (by decide) rfl ?_
          refine ev_bipush 53 rfl dX10_group_51 (by decide) (by decide) ?_
          refine ev_icmp_lt (tgt := 63) 56 rfl dX10_group_53 (by decide) (fun cd => ?_) (fun cd => ?_)
          · have H := H.1 cd
            refine ev_aload_n 64 rfl dX10_group_63 rfl rfl ?_
            refine ev_aload_n 65 rfl dX10_group_64 rfl rfl ?_
            refine ev_getR (ki := 1) (v := 2) 68 rfl dX10_group_65 lf_10_18 (s_0 hst) (by decide) rfl (p_0_1 hst) ?_
            refine ev_iload 70 rfl dX10_group_68 rfl ?_
            refine ev_lload_n 71 rfl dX10_group_70 rfl rfl ?_
            refine ev_iload_n 72 rfl dX10_group_71 rfl rfl ?_
            refine ev_cVI (As := [(0, r10), (1, v1), (0, v3)]) (rest := [(2, 0)]) 75 rfl dX10_group_72 lm_10_188 mm_X2_tellGroup (s_2 hst) rfl rfl (Nat.le_of_ble_eq_true rfl) (Nat.le_of_ble_eq_true rfl) (Nat.le_refl _) H ?_
            intro r16 h15 H
            refine ev_cVI (As := [(0, r16)]) (rest := []) 78 rfl dX10_group_75 lm_10_162 mm_X10_answer (s_0 hst) rfl rfl (Nat.le_of_ble_eq_true rfl) (Nat.le_of_ble_eq_true rfl) (Nat.le_refl _) H ?_
            intro r18 h17 H
            exact ev_retI dX10_group_78 rfl H
          · have H := H.2 cd
            refine ev_aload_n 57 rfl dX10_group_56 rfl rfl ?_
            refine ev_bipush 59 rfl dX10_group_57 (by decide) (by decide) ?_
            refine ev_cVI (As := [(0, 7)]) (rest := []) 62 rfl dX10_group_59 lm_10_124 mm_X10_none (s_0 hst) rfl rfl (Nat.le_of_ble_eq_true rfl) (Nat.le_of_ble_eq_true rfl) (Nat.le_refl _) H ?_
            intro r20 h19 H
            exact ev_retI dX10_group_62 rfl H
      · have H := H.2 cd
        refine ev_aload_n 23 rfl dX10_group_22 rfl rfl ?_
        refine ev_iconst 24 rfl dX10_group_23 (by decide) ?_
        refine ev_cVI (As := [(0, 5)]) (rest := []) 27 rfl dX10_group_24 lm_10_124 mm_X10_none (s_0 hst) rfl rfl (Nat.le_of_ble_eq_true rfl) (Nat.le_of_ble_eq_true rfl) (Nat.le_refl _) H ?_
        intro r22 h21 H
        exact ev_retI dX10_group_27 rfl H

set_option maxRecDepth 20000 in
theorem b_X10_steps {X : qX} {d : Nat} {sh : qS} {pt h : qM} {K : Int → qM → Prop} {v1 : Int} (hst : St sh pt)
    (H : ((v1 < 1 → RunI X d mX10_refuse [(2, 0), (0, 5)] sh pt h (fun r2 h1 => (0 ≤ r2 ∧ r2 ≤ 1) ∧ K r2 h1)) ∧ (1 ≤ v1 → ((v1 ≤ 50 → ∀ h3 : qM, h3 = qup h 2 9 v1 → RunI X d mX10_agree [(2, 0)] sh pt h3 (fun r5 h4 => (0 ≤ r5 ∧ r5 ≤ 1) ∧ K r5 h4)) ∧ (50 < v1 → RunI X d mX10_refuse [(2, 0), (0, 5)] sh pt h (fun r7 h6 => (0 ≤ r7 ∧ r7 ≤ 1) ∧ K r7 h6)))))) :
    RunI X (d + 1) mX10_steps [(2, 0), (0, v1)] sh pt h K := by
  show Ev X (d + 1) 0 0 mX10_steps 0 [(2, 0), (0, v1)] [] (sh, pt, h) (qRI sh pt K)
  refine ev_iload_n 1 rfl dX10_steps_0 rfl rfl ?_
  refine ev_iconst 2 rfl dX10_steps_1 (by decide) ?_
  refine ev_icmp_lt (tgt := 11) 5 rfl dX10_steps_2 (by decide) (fun cd => ?_) (fun cd => ?_)
  · have H := H.1 cd
    refine ev_aload_n 12 rfl dX10_steps_11 rfl rfl ?_
    refine ev_iconst 13 rfl dX10_steps_12 (by decide) ?_
    refine ev_cVI (As := [(0, 5)]) (rest := []) 16 rfl dX10_steps_13 lm_10_105 mm_X10_refuse (s_0 hst) rfl rfl (Nat.le_of_ble_eq_true rfl) (Nat.le_of_ble_eq_true rfl) (Nat.le_refl _) H ?_
    intro r2 h1 H
    obtain ⟨sd, H⟩ := H
    exact ev_retZ dX10_steps_16 rfl sd H
  · have H := H.2 cd
    refine ev_iload_n 6 rfl dX10_steps_5 rfl rfl ?_
    refine ev_bipush 8 rfl dX10_steps_6 (by decide) (by decide) ?_
    refine ev_icmp_le (tgt := 17) 11 rfl dX10_steps_8 (by decide) (fun cd => ?_) (fun cd => ?_)
    · have H := H.1 cd
      refine ev_aload_n 18 rfl dX10_steps_17 rfl rfl ?_
      refine ev_getR (ki := 1) (v := 2) 21 rfl dX10_steps_18 lf_10_18 (s_0 hst) (by decide) rfl (p_0_1 hst) ?_
      refine ev_iload_n 22 rfl dX10_steps_21 rfl rfl ?_
      refine ev_putI (ki := 9) 25 rfl dX10_steps_22 lf_10_192 (Or.inl rfl) (s_2 hst) (by decide) rfl ?_
      obtain ⟨h3, eh3⟩ : ∃ z : qM, z = qup h 2 9 v1 := ⟨_, rfl⟩
      rw [← eh3]
      have H := H h3 eh3
      refine ev_aload_n 26 rfl dX10_steps_25 rfl rfl ?_
      refine ev_cVI (As := []) (rest := []) 29 rfl dX10_steps_26 lm_10_112 mm_X10_agree (s_0 hst) rfl rfl (Nat.le_of_ble_eq_true rfl) (Nat.le_of_ble_eq_true rfl) (Nat.le_refl _) H ?_
      intro r5 h4 H
      obtain ⟨sd, H⟩ := H
      exact ev_retZ dX10_steps_29 rfl sd H
    · have H := H.2 cd
      refine ev_aload_n 12 rfl dX10_steps_11 rfl rfl ?_
      refine ev_iconst 13 rfl dX10_steps_12 (by decide) ?_
      refine ev_cVI (As := [(0, 5)]) (rest := []) 16 rfl dX10_steps_13 lm_10_105 mm_X10_refuse (s_0 hst) rfl rfl (Nat.le_of_ble_eq_true rfl) (Nat.le_of_ble_eq_true rfl) (Nat.le_refl _) H ?_
      intro r7 h6 H
      obtain ⟨sd, H⟩ := H
      exact ev_retZ dX10_steps_16 rfl sd H

set_option maxRecDepth 20000 in
theorem b_X10_feed {X : qX} {d : Nat} {sh : qS} {pt h : qM} {K : Int → qM → Prop} {v1 v2 v3 v4 v5 : Int} (hst : St sh pt)
    (H : RunI X d mX4_hasRoomForTwenty [(2, 9)] sh pt h (fun r2 h1 => ((¬ r2 = 0 → RunV X d mX4_append [(2, 9), (0, v1)] sh pt h1 (fun h3 => RunV X d mX4_append [(2, 9), (0, v2)] sh pt h3 (fun h4 => RunV X d mX4_append [(2, 9), (0, v3)] sh pt h4 (fun h5 => RunV X d mX4_append [(2, 9), (0, v4)] sh pt h5 (fun h6 => RunV X d mX4_append [(2, 9), (0, v5)] sh pt h6 (fun h7 => K (h7 9 1) h7)))))) ∧ (r2 = 0 → K (-1) h1)))) :
    RunI X (d + 1) mX10_feed [(2, 0), (0, v1), (0, v2), (0, v3), (0, v4), (0, v5)] sh pt h K := by
  show Ev X (d + 1) 0 0 mX10_feed 0 [(2, 0), (0, v1), (0, v2), (0, v3), (0, v4), (0, v5)] [] (sh, pt, h) (qRI sh pt K)
  refine ev_aload_n 1 rfl dX10_feed_0 rfl rfl ?_
  refine ev_getR (ki := 2) (v := 9) 4 rfl dX10_feed_1 lf_10_25 (s_0 hst) (by decide) rfl (p_0_2 hst) ?_
  refine ev_cVI (As := []) (rest := []) 7 rfl dX10_feed_4 lm_10_195 mm_X4_hasRoomForTwenty (s_9 hst) rfl rfl (Nat.le_of_ble_eq_true rfl) (Nat.le_of_ble_eq_true rfl) (Nat.le_refl _) H ?_
  intro r2 h1 H
  refine ev_if_ne (tgt := 12) 10 rfl dX10_feed_7 (by decide) (fun cd => ?_) (fun cd => ?_)
  · have H := H.1 cd
    refine ev_aload_n 13 rfl dX10_feed_12 rfl rfl ?_
    refine ev_getR (ki := 2) (v := 9) 16 rfl dX10_feed_13 lf_10_25 (s_0 hst) (by decide) rfl (p_0_2 hst) ?_
    refine ev_iload_n 17 rfl dX10_feed_16 rfl rfl ?_
    refine ev_cVV (As := [(0, v1)]) (rest := []) 20 rfl dX10_feed_17 lm_10_198 mm_X4_append (s_9 hst) rfl rfl (Nat.le_of_ble_eq_true rfl) (Nat.le_of_ble_eq_true rfl) (Nat.le_refl _) H ?_
    intro h3 H
    refine ev_aload_n 21 rfl dX10_feed_20 rfl rfl ?_
    refine ev_getR (ki := 2) (v := 9) 24 rfl dX10_feed_21 lf_10_25 (s_0 hst) (by decide) rfl (p_0_2 hst) ?_
    refine ev_iload_n 25 rfl dX10_feed_24 rfl rfl ?_
    refine ev_cVV (As := [(0, v2)]) (rest := []) 28 rfl dX10_feed_25 lm_10_198 mm_X4_append (s_9 hst) rfl rfl (Nat.le_of_ble_eq_true rfl) (Nat.le_of_ble_eq_true rfl) (Nat.le_refl _) H ?_
    intro h4 H
    refine ev_aload_n 29 rfl dX10_feed_28 rfl rfl ?_
    refine ev_getR (ki := 2) (v := 9) 32 rfl dX10_feed_29 lf_10_25 (s_0 hst) (by decide) rfl (p_0_2 hst) ?_
    refine ev_iload_n 33 rfl dX10_feed_32 rfl rfl ?_
    refine ev_cVV (As := [(0, v3)]) (rest := []) 36 rfl dX10_feed_33 lm_10_198 mm_X4_append (s_9 hst) rfl rfl (Nat.le_of_ble_eq_true rfl) (Nat.le_of_ble_eq_true rfl) (Nat.le_refl _) H ?_
    intro h5 H
    refine ev_aload_n 37 rfl dX10_feed_36 rfl rfl ?_
    refine ev_getR (ki := 2) (v := 9) 40 rfl dX10_feed_37 lf_10_25 (s_0 hst) (by decide) rfl (p_0_2 hst) ?_
    refine ev_iload 42 rfl dX10_feed_40 rfl ?_
    refine ev_cVV (As := [(0, v4)]) (rest := []) 45 rfl dX10_feed_42 lm_10_198 mm_X4_append (s_9 hst) rfl rfl (Nat.le_of_ble_eq_true rfl) (Nat.le_of_ble_eq_true rfl) (Nat.le_refl _) H ?_
    intro h6 H
    refine ev_aload_n 46 rfl dX10_feed_45 rfl rfl ?_
    refine ev_getR (ki := 2) (v := 9) 49 rfl dX10_feed_46 lf_10_25 (s_0 hst) (by decide) rfl (p_0_2 hst) ?_
    refine ev_iload 51 rfl dX10_feed_49 rfl ?_
    refine ev_cVV (As := [(0, v5)]) (rest := []) 54 rfl dX10_feed_51 lm_10_198 mm_X4_append (s_9 hst) rfl rfl (Nat.le_of_ble_eq_true rfl) (Nat.le_of_ble_eq_true rfl) (Nat.le_refl _) H ?_
    intro h7 H
    refine ev_aload_n 55 rfl dX10_feed_54 rfl rfl ?_
    refine ev_getR (ki := 2) (v := 9) 58 rfl dX10_feed_55 lf_10_25 (s_0 hst) (by decide) rfl (p_0_2 hst) ?_
    refine ev_getI (ki := 1) 61 rfl dX10_feed_58 lf_10_202 (Or.inl rfl) (s_9 hst) (by decide) rfl ?_
    exact ev_retI dX10_feed_61 rfl H
  · have H := H.2 cd
    refine ev_iconst 11 rfl dX10_feed_10 (by decide) ?_
    exact ev_retI dX10_feed_11 rfl H

set_option maxRecDepth 20000 in
theorem b_X10_fault {X : qX} {d : Nat} {sh : qS} {pt h : qM} {K : Int → qM → Prop} {v1 : Int} (hst : St sh pt)
    (H : ((¬ v1 = 0 → ((¬ v1 = 1 → K (-1) h) ∧ (v1 = 1 → K (h 0 14) h))) ∧ (v1 = 0 → K (h 0 13) h))) :
    RunI X d mX10_fault [(2, 0), (0, v1)] sh pt h K := by
  show Ev X d 0 0 mX10_fault 0 [(2, 0), (0, v1)] [] (sh, pt, h) (qRI sh pt K)
  refine ev_iload_n 1 rfl dX10_fault_0 rfl rfl ?_
  refine ev_if_ne (tgt := 11) 4 rfl dX10_fault_1 (by decide) (fun cd => ?_) (fun cd => ?_)
  · have H := H.1 cd
    refine ev_iload_n 12 rfl dX10_fault_11 rfl rfl ?_
    refine ev_iconst 13 rfl dX10_fault_12 (by decide) ?_
    refine ev_icmp_ne (tgt := 23) 16 rfl dX10_fault_13 (by decide) (fun cd => ?_) (fun cd => ?_)
    · have H := H.1 cd
      refine ev_iconst 24 rfl dX10_fault_23 (by decide) ?_
      exact ev_retI dX10_fault_24 rfl H
    · have H := H.2 cd
      refine ev_aload_n 17 rfl dX10_fault_16 rfl rfl ?_
      refine ev_getI (ki := 14) 20 rfl dX10_fault_17 lf_10_91 (Or.inl rfl) (s_0 hst) (by decide) rfl ?_
      refine ev_goto (tgt := 24) dX10_fault_20 (by decide) ?_
      exact ev_retI dX10_fault_24 rfl H
  · have H := H.2 cd
    refine ev_aload_n 5 rfl dX10_fault_4 rfl rfl ?_
    refine ev_getI (ki := 13) 8 rfl dX10_fault_5 lf_10_88 (Or.inl rfl) (s_0 hst) (by decide) rfl ?_
    refine ev_goto (tgt := 24) dX10_fault_8 (by decide) ?_
    exact ev_retI dX10_fault_24 rfl H

set_option maxRecDepth 20000 in
theorem b_X10_error {X : qX} {d : Nat} {sh : qS} {pt h : qM} {K : Int → qM → Prop} {v1 : Int} (hst : St sh pt)
    (H : ((¬ v1 = 0 → ((¬ v1 = 1 → K (-1) h) ∧ (v1 = 1 → K (h 0 16) h))) ∧ (v1 = 0 → K (h 0 15) h))) :
    RunI X d mX10_error [(2, 0), (0, v1)] sh pt h K := by
  show Ev X d 0 0 mX10_error 0 [(2, 0), (0, v1)] [] (sh, pt, h) (qRI sh pt K)
  refine ev_iload_n 1 rfl dX10_error_0 rfl rfl ?_
  refine ev_if_ne (tgt := 11) 4 rfl dX10_error_1 (by decide) (fun cd => ?_) (fun cd => ?_)
  · have H := H.1 cd
    refine ev_iload_n 12 rfl dX10_error_11 rfl rfl ?_
    refine ev_iconst 13 rfl dX10_error_12 (by decide) ?_
    refine ev_icmp_ne (tgt := 23) 16 rfl dX10_error_13 (by decide) (fun cd => ?_) (fun cd => ?_)
    · have H := H.1 cd
      refine ev_iconst 24 rfl dX10_error_23 (by decide) ?_
      exact ev_retI dX10_error_24 rfl H
    · have H := H.2 cd
      refine ev_aload_n 17 rfl dX10_error_16 rfl rfl ?_
      refine ev_getI (ki := 16) 20 rfl dX10_error_17 lf_10_97 (Or.inl rfl) (s_0 hst) (by decide) rfl ?_
      refine ev_goto (tgt := 24) dX10_error_20 (by decide) ?_
      exact ev_retI dX10_error_24 rfl H
  · have H := H.2 cd
    refine ev_aload_n 5 rfl dX10_error_4 rfl rfl ?_
    refine ev_getI (ki := 15) 8 rfl dX10_error_5 lf_10_94 (Or.inl rfl) (s_0 hst) (by decide) rfl ?_
    refine ev_goto (tgt := 24) dX10_error_8 (by decide) ?_
    exact ev_retI dX10_error_24 rfl H

set_option maxRecDepth 20000 in
theorem b_X10_at {X : qX} {d : Nat} {sh : qS} {pt h : qM} {K : Int → qM → Prop} {v1 v2 v3 : Int} (hst : St sh pt) {c : Int} (e10 : pt 0 10 = c) (hc : isC c)
    (H : ((¬ (h c 3) = 0 → RunI X d mX0_hasCount [(2, c), (0, v1)] sh pt h (fun r2 h1 => ((r2 = 0 → RunI X d mX10_none [(2, 0), (0, 2)] sh pt h1 (fun r4 h3 => K r4 h3)) ∧ (¬ r2 = 0 → RunI X d mX0_hasMarcher [(2, c), (0, v2)] sh pt h1 (fun r6 h5 => ((¬ r6 = 0 → ((¬ v3 = 0 → ((¬ v3 = 1 → ((¬ v3 = 2 → RunI X d mX10_none [(2, 0), (0, 5)] sh pt h5 (fun r8 h7 => K r8 h7)) ∧ (v3 = 2 → RunI X d mX0_faceOf [(2, c), (0, v1), (0, v2)] sh pt h5 (fun r10 h9 => RunI X d mX10_answer [(2, 0), (0, r10)] sh pt h9 (fun r12 h11 => K r12 h11))))) ∧ (v3 = 1 → RunI X d mX0_northOf [(2, c), (0, v1), (0, v2)] sh pt h5 (fun r14 h13 => RunI X d mX10_answer [(2, 0), (0, r14)] sh pt h13 (fun r16 h15 => K r16 h15))))) ∧ (v3 = 0 → RunI X d mX0_eastOf [(2, c), (0, v1), (0, v2)] sh pt h5 (fun r18 h17 => RunI X d mX10_answer [(2, 0), (0, r18)] sh pt h17 (fun r20 h19 => K r20 h19))))) ∧ (r6 = 0 → RunI X d mX10_none [(2, 0), (0, 2)] sh pt h5 (fun r22 h21 => K r22 h21)))))))) ∧ ((h c 3) = 0 → RunI X d mX10_none [(2, 0), (0, 8)] sh pt h (fun r24 h23 => K r24 h23)))) :
    RunI X (d + 1) mX10_at [(2, 0), (0, v1), (0, v2), (0, v3)] sh pt h K := by
  show Ev X (d + 1) 0 0 mX10_at 0 [(2, 0), (0, v1), (0, v2), (0, v3)] [] (sh, pt, h) (qRI sh pt K)
  refine ev_aload_n 1 rfl dX10_at_0 rfl rfl ?_
  refine ev_getR (ki := 10) (v := c) 4 rfl dX10_at_1 lf_10_77 (s_0 hst) (by decide) rfl e10 ?_
  refine ev_getI (ki := 3) 7 rfl dX10_at_4 lf_10_226 (Or.inr rfl) (sC hst hc) (by decide) rfl ?_
  refine ev_if_ne (tgt := 17) 10 rfl dX10_at_7 (by decide) (fun cd => ?_) (fun cd => ?_)
  · have H := H.1 cd
    refine ev_aload_n 18 rfl dX10_at_17 rfl rfl ?_
    refine ev_getR (ki := 10) (v := c) 21 rfl dX10_at_18 lf_10_77 (s_0 hst) (by decide) rfl e10 ?_
    refine ev_iload_n 22 rfl dX10_at_21 rfl rfl ?_
    refine ev_cVI (As := [(0, v1)]) (rest := []) 25 rfl dX10_at_22 lm_10_229 mm_X0_hasCount (sC hst hc) rfl rfl (Nat.le_of_ble_eq_true rfl) (Nat.le_of_ble_eq_true rfl) (Nat.le_refl _) H ?_
    intro r2 h1 H
    refine ev_if_eq (tgt := 39) 28 rfl dX10_at_25 (by decide) (fun cd => ?_) (fun cd => ?_)
    · have H := H.1 cd
      refine ev_aload_n 40 rfl dX10_at_39 rfl rfl ?_
      refine ev_iconst 41 rfl dX10_at_40 (by decide) ?_
      refine ev_cVI (As := [(0, 2)]) (rest := []) 44 rfl dX10_at_41 lm_10_124 mm_X10_none (s_0 hst) rfl rfl (Nat.le_of_ble_eq_true rfl) (Nat.le_of_ble_eq_true rfl) (Nat.le_refl _) H ?_
      intro r4 h3 H
      exact ev_retI dX10_at_44 rfl H
    · have H := H.2 cd
      refine ev_aload_n 29 rfl dX10_at_28 rfl rfl ?_
      refine ev_getR (ki := 10) (v := c) 32 rfl dX10_at_29 lf_10_77 (s_0 hst) (by decide) rfl e10 ?_
      refine ev_iload_n 33 rfl dX10_at_32 rfl rfl ?_
      refine ev_cVI (As := [(0, v2)]) (rest := []) 36 rfl dX10_at_33 lm_10_232 mm_X0_hasMarcher (sC hst hc) rfl rfl (Nat.le_of_ble_eq_true rfl) (Nat.le_of_ble_eq_true rfl) (Nat.le_refl _) H ?_
      intro r6 h5 H
      refine ev_if_ne (tgt := 45) 39 rfl dX10_at_36 (by decide) (fun cd => ?_) (fun cd => ?_)
      · have H := H.1 cd
        refine ev_iload_n 46 rfl dX10_at_45 rfl rfl ?_
        refine ev_if_ne (tgt := 63) 49 rfl dX10_at_46 (by decide) (fun cd => ?_) (fun cd => ?_)
        · have H := H.1 cd
          refine ev_iload_n 64 rfl dX10_at_63 rfl rfl ?_
          refine ev_iconst 65 rfl dX10_at_64 (by decide) ?_
          refine ev_icmp_ne (tgt := 82) 68 rfl dX10_at_65 (by decide) (fun cd => ?_) (fun cd => ?_)
          · have H := H.1 cd
            refine ev_iload_n 83 rfl dX10_at_82 rfl rfl ?_
            refine ev_iconst 84 rfl dX10_at_83 (by decide) ?_
            refine ev_icmp_ne (tgt := 101) 87 rfl dX10_at_84 (by decide) (fun cd => ?_) (fun cd => ?_)
            · have H := H.1 cd
              refine ev_aload_n 102 rfl dX10_at_101 rfl rfl ?_
              refine ev_iconst 103 rfl dX10_at_102 (by decide) ?_
              refine ev_cVI (As := [(0, 5)]) (rest := []) 106 rfl dX10_at_103 lm_10_124 mm_X10_none (s_0 hst) rfl rfl (Nat.le_of_ble_eq_true rfl) (Nat.le_of_ble_eq_true rfl) (Nat.le_refl _) H ?_
              intro r8 h7 H
              exact ev_retI dX10_at_106 rfl H
            · have H := H.2 cd
              refine ev_aload_n 88 rfl dX10_at_87 rfl rfl ?_
              refine ev_aload_n 89 rfl dX10_at_88 rfl rfl ?_
              refine ev_getR (ki := 10) (v := c) 92 rfl dX10_at_89 lf_10_77 (s_0 hst) (by decide) rfl e10 ?_
              refine ev_iload_n 93 rfl dX10_at_92 rfl rfl ?_
              refine ev_iload_n 94 rfl dX10_at_93 rfl rfl ?_
              refine ev_cVI (As := [(0, v1), (0, v2)]) (rest := [(2, 0)]) 97 rfl dX10_at_94 lm_10_241 mm_X0_faceOf (sC hst hc) rfl rfl (Nat.le_of_ble_eq_true rfl) (Nat.le_of_ble_eq_true rfl) (Nat.le_refl _) H ?_
              intro r10 h9 H
              refine ev_cVI (As := [(0, r10)]) (rest := []) 100 rfl dX10_at_97 lm_10_162 mm_X10_answer (s_0 hst) rfl rfl (Nat.le_of_ble_eq_true rfl) (Nat.le_of_ble_eq_true rfl) (Nat.le_refl _) H ?_
              intro r12 h11 H
              exact ev_retI dX10_at_100 rfl H
          · have H := H.2 cd
            refine ev_aload_n 69 rfl dX10_at_68 rfl rfl ?_
            refine ev_aload_n 70 rfl dX10_at_69 rfl rfl ?_
            refine ev_getR (ki := 10) (v := c) 73 rfl dX10_at_70 lf_10_77 (s_0 hst) (by decide) rfl e10 ?_
            refine ev_iload_n 74 rfl dX10_at_73 rfl rfl ?_
            refine ev_iload_n 75 rfl dX10_at_74 rfl rfl ?_
            refine ev_cVI (As := [(0, v1), (0, v2)]) (rest := [(2, 0)]) 78 rfl dX10_at_75 lm_10_238 mm_X0_northOf (sC hst hc) rfl rfl (Nat.le_of_ble_eq_true rfl) (Nat.le_of_ble_eq_true rfl) (Nat.le_refl _) H ?_
            intro r14 h13 H
            refine ev_cVI (As := [(0, r14)]) (rest := []) 81 rfl dX10_at_78 lm_10_162 mm_X10_answer (s_0 hst) rfl rfl (Nat.le_of_ble_eq_true rfl) (Nat.le_of_ble_eq_true rfl) (Nat.le_refl _) H ?_
            intro r16 h15 H
            exact ev_retI dX10_at_81 rfl H
        · have H := H.2 cd
          refine ev_aload_n 50 rfl dX10_at_49 rfl rfl ?_
          refine ev_aload_n 51 rfl dX10_at_50 rfl rfl ?_
          refine ev_getR (ki := 10) (v := c) 54 rfl dX10_at_51 lf_10_77 (s_0 hst) (by decide) rfl e10 ?_
          refine ev_iload_n 55 rfl dX10_at_54 rfl rfl ?_
          refine ev_iload_n 56 rfl dX10_at_55 rfl rfl ?_
          refine ev_cVI (As := [(0, v1), (0, v2)]) (rest := [(2, 0)]) 59 rfl dX10_at_56 lm_10_235 mm_X0_eastOf (sC hst hc) rfl rfl (Nat.le_of_ble_eq_true rfl) (Nat.le_of_ble_eq_true rfl) (Nat.le_refl _) H ?_
          intro r18 h17 H
          refine ev_cVI (As := [(0, r18)]) (rest := []) 62 rfl dX10_at_59 lm_10_162 mm_X10_answer (s_0 hst) rfl rfl (Nat.le_of_ble_eq_true rfl) (Nat.le_of_ble_eq_true rfl) (Nat.le_refl _) H ?_
          intro r20 h19 H
          exact ev_retI dX10_at_62 rfl H
      · have H := H.2 cd
        refine ev_aload_n 40 rfl dX10_at_39 rfl rfl ?_
        refine ev_iconst 41 rfl dX10_at_40 (by decide) ?_
        refine ev_cVI (As := [(0, 2)]) (rest := []) 44 rfl dX10_at_41 lm_10_124 mm_X10_none (s_0 hst) rfl rfl (Nat.le_of_ble_eq_true rfl) (Nat.le_of_ble_eq_true rfl) (Nat.le_refl _) H ?_
        intro r22 h21 H
        exact ev_retI dX10_at_44 rfl H
  · have H := H.2 cd
    refine ev_aload_n 11 rfl dX10_at_10 rfl rfl ?_
    refine ev_bipush 13 rfl dX10_at_11 (by decide) (by decide) ?_
    refine ev_cVI (As := [(0, 8)]) (rest := []) 16 rfl dX10_at_13 lm_10_124 mm_X10_none (s_0 hst) rfl rfl (Nat.le_of_ble_eq_true rfl) (Nat.le_of_ble_eq_true rfl) (Nat.le_refl _) H ?_
    intro r24 h23 H
    exact ev_retI dX10_at_16 rfl H

set_option maxRecDepth 20000 in
theorem b_X10_told {X : qX} {d : Nat} {sh : qS} {pt h : qM} {K : Int → qM → Prop} {v1 : Int} (hst : St sh pt) {c : Int} (e10 : pt 0 10 = c) (hc : isC c)
    (H : ((v1 < 0 → RunI X d mX10_none [(2, 0), (0, 5)] sh pt h (fun r2 h1 => K r2 h1)) ∧ (0 ≤ v1 → ((v1 ≤ 4 → ((¬ (h c 3) = 0 → ((v1 = 0 → RunI X d mX0_clashes [(2, c)] sh pt h (fun r4 h3 => RunI X d mX10_answer [(2, 0), (0, r4)] sh pt h3 (fun r6 h5 => K r6 h5))) ∧ (v1 = 1 → RunI X d mX0_hits [(2, c), (2, 2)] sh pt h (fun r8 h7 => RunI X d mX10_answer [(2, 0), (0, r8)] sh pt h7 (fun r10 h9 => K r10 h9))) ∧ (v1 = 2 → RunI X d mX0_stepsAbove [(2, c), (0, (h 2 9))] sh pt h (fun r12 h11 => RunI X d mX10_answer [(2, 0), (0, r12)] sh pt h11 (fun r14 h13 => K r14 h13))) ∧ (v1 = 3 → RunI X d mX10_answer [(2, 0), (0, (h c 6))] sh pt h (fun r16 h15 => K r16 h15)) ∧ ((v1 < 0 ∨ 3 < v1) → RunI X d mX0_greatestStep [(2, c)] sh pt h (fun r18 h17 => RunI X d mX10_answer [(2, 0), (0, r18)] sh pt h17 (fun r20 h19 => K r20 h19))))) ∧ ((h c 3) = 0 → RunI X d mX10_none [(2, 0), (0, 8)] sh pt h (fun r22 h21 => K r22 h21)))) ∧ (4 < v1 → RunI X d mX10_none [(2, 0), (0, 5)] sh pt h (fun r24 h23 => K r24 h23)))))) :
    RunI X (d + 1) mX10_told [(2, 0), (0, v1)] sh pt h K := by
  show Ev X (d + 1) 0 0 mX10_told 0 [(2, 0), (0, v1)] [] (sh, pt, h) (qRI sh pt K)
  refine ev_iload_n 1 rfl dX10_told_0 rfl rfl ?_
  refine ev_if_lt (tgt := 9) 4 rfl dX10_told_1 (by decide) (fun cd => ?_) (fun cd => ?_)
  · have H := H.1 cd
    refine ev_aload_n 10 rfl dX10_told_9 rfl rfl ?_
    refine ev_iconst 11 rfl dX10_told_10 (by decide) ?_
    refine ev_cVI (As := [(0, 5)]) (rest := []) 14 rfl dX10_told_11 lm_10_124 mm_X10_none (s_0 hst) rfl rfl (Nat.le_of_ble_eq_true rfl) (Nat.le_of_ble_eq_true rfl) (Nat.le_refl _) H ?_
    intro r2 h1 H
    exact ev_retI dX10_told_14 rfl H
  · have H := H.2 cd
    refine ev_iload_n 5 rfl dX10_told_4 rfl rfl ?_
    refine ev_iconst 6 rfl dX10_told_5 (by decide) ?_
    refine ev_icmp_le (tgt := 15) 9 rfl dX10_told_6 (by decide) (fun cd => ?_) (fun cd => ?_)
    · have H := H.1 cd
      refine ev_aload_n 16 rfl dX10_told_15 rfl rfl ?_
      refine ev_getR (ki := 10) (v := c) 19 rfl dX10_told_16 lf_10_77 (s_0 hst) (by decide) rfl e10 ?_
      refine ev_getI (ki := 3) 22 rfl dX10_told_19 lf_10_226 (Or.inr rfl) (sC hst hc) (by decide) rfl ?_
      refine ev_if_ne (tgt := 32) 25 rfl dX10_told_22 (by decide) (fun cd => ?_) (fun cd => ?_)
      · have H := H.1 cd
        refine ev_iload_n 33 rfl dX10_told_32 rfl rfl ?_
        have hsw : v1 = 0 ∨ v1 = 1 ∨ v1 = 2 ∨ v1 = 3 ∨ (v1 < 0 ∨ 3 < v1) := by omega
        rcases hsw with cd | cd | cd | cd | cd
        · have H := H.1 cd
          refine ev_tableIn (off := 31) (tgt := 64) dX10_told_33 (by omega) (by omega) (by rw [cd]; rfl) (by decide) ?_
          refine ev_aload_n 65 rfl dX10_told_64 rfl rfl ?_
          refine ev_aload_n 66 rfl dX10_told_65 rfl rfl ?_
          refine ev_getR (ki := 10) (v := c) 69 rfl dX10_told_66 lf_10_77 (s_0 hst) (by decide) rfl e10 ?_
          refine ev_cVI (As := []) (rest := [(2, 0)]) 72 rfl dX10_told_69 lm_10_244 mm_X0_clashes (sC hst hc) rfl rfl (Nat.le_of_ble_eq_true rfl) (Nat.le_of_ble_eq_true rfl) (Nat.le_refl _) H ?_
          intro r4 h3 H
          refine ev_cVI (As := [(0, r4)]) (rest := []) 75 rfl dX10_told_72 lm_10_162 mm_X10_answer (s_0 hst) rfl rfl (Nat.le_of_ble_eq_true rfl) (Nat.le_of_ble_eq_true rfl) (Nat.le_refl _) H ?_
          intro r6 h5 H
          exact ev_retI dX10_told_75 rfl H
        · have H := H.2.1 cd
          refine ev_tableIn (off := 43) (tgt := 76) dX10_told_33 (by omega) (by omega) (by rw [cd]; rfl) (by decide) ?_
          refine ev_aload_n 77 rfl dX10_told_76 rfl rfl ?_
          refine ev_aload_n 78 rfl dX10_told_77 rfl rfl ?_
          refine ev_getR (ki := 10) (v := c) 81 rfl dX10_told_78 lf_10_77 (s_0 hst) (by decide) rfl e10 ?_
          refine ev_aload_n 82 rfl dX10_told_81 rfl rfl ?_
          refine ev_getR (ki := 1) (v := 2) 85 rfl dX10_told_82 lf_10_18 (s_0 hst) (by decide) rfl (p_0_1 hst) ?_
          refine ev_cVI (As := [(2, 2)]) (rest := [(2, 0)]) 88 rfl dX10_told_85 lm_10_248 mm_X0_hits (sC hst hc) rfl rfl (Nat.le_of_ble_eq_true rfl) (Nat.le_of_ble_eq_true rfl) (Nat.le_refl _) H ?_
          intro r8 h7 H
          refine ev_cVI (As := [(0, r8)]) (rest := []) 91 rfl dX10_told_88 lm_10_162 mm_X10_answer (s_0 hst) rfl rfl (Nat.le_of_ble_eq_true rfl) (Nat.le_of_ble_eq_true rfl) (Nat.le_refl _) H ?_
          intro r10 h9 H
          exact ev_retI dX10_told_91 rfl H
        · have H := H.2.2.1 cd
          refine ev_tableIn (off := 59) (tgt := 92) dX10_told_33 (by omega) (by omega) (by rw [cd]; rfl) (by decide) ?_
          refine ev_aload_n 93 rfl dX10_told_92 rfl rfl ?_
          refine ev_aload_n 94 rfl dX10_told_93 rfl rfl ?_
          refine ev_getR (ki := 10) (v := c) 97 rfl dX10_told_94 lf_10_77 (s_0 hst) (by decide) rfl e10 ?_
          refine ev_aload_n 98 rfl dX10_told_97 rfl rfl ?_
          refine ev_getR (ki := 1) (v := 2) 101 rfl dX10_told_98 lf_10_18 (s_0 hst) (by decide) rfl (p_0_1 hst) ?_
          refine ev_getI (ki := 9) 104 rfl dX10_told_101 lf_10_192 (Or.inl rfl) (s_2 hst) (by decide) rfl ?_
          refine ev_cVI (As := [(0, (h 2 9))]) (rest := [(2, 0)]) 107 rfl dX10_told_104 lm_10_252 mm_X0_stepsAbove (sC hst hc) rfl rfl (Nat.le_of_ble_eq_true rfl) (Nat.le_of_ble_eq_true rfl) (Nat.le_refl _) H ?_
          intro r12 h11 H
          refine ev_cVI (As := [(0, r12)]) (rest := []) 110 rfl dX10_told_107 lm_10_162 mm_X10_answer (s_0 hst) rfl rfl (Nat.le_of_ble_eq_true rfl) (Nat.le_of_ble_eq_true rfl) (Nat.le_refl _) H ?_
          intro r14 h13 H
          exact ev_retI dX10_told_110 rfl H
        · have H := H.2.2.2.1 cd
          refine ev_tableIn (off := 78) (tgt := 111) dX10_told_33 (by omega) (by omega) (by rw [cd]; rfl) (by decide) ?_
          refine ev_aload_n 112 rfl dX10_told_111 rfl rfl ?_
          refine ev_aload_n 113 rfl dX10_told_112 rfl rfl ?_
          refine ev_getR (ki := 10) (v := c) 116 rfl dX10_told_113 lf_10_77 (s_0 hst) (by decide) rfl e10 ?_
          refine ev_getI (ki := 6) 119 rfl dX10_told_116 lf_10_255 (Or.inl rfl) (sC hst hc) (by decide) rfl ?_
          refine ev_cVI (As := [(0, (h c 6))]) (rest := []) 122 rfl dX10_told_119 lm_10_162 mm_X10_answer (s_0 hst) rfl rfl (Nat.le_of_ble_eq_true rfl) (Nat.le_of_ble_eq_true rfl) (Nat.le_refl _) H ?_
          intro r16 h15 H
          exact ev_retI dX10_told_122 rfl H
        · have H := H.2.2.2.2 cd
          refine ev_tableOut (tgt := 123) dX10_told_33 cd (by decide) ?_
          refine ev_aload_n 124 rfl dX10_told_123 rfl rfl ?_
          refine ev_aload_n 125 rfl dX10_told_124 rfl rfl ?_
          refine ev_getR (ki := 10) (v := c) 128 rfl dX10_told_125 lf_10_77 (s_0 hst) (by decide) rfl e10 ?_
          refine ev_cVI (As := []) (rest := [(2, 0)]) 131 rfl dX10_told_128 lm_10_258 mm_X0_greatestStep (sC hst hc) rfl rfl (Nat.le_of_ble_eq_true rfl) (Nat.le_of_ble_eq_true rfl) (Nat.le_refl _) H ?_
          intro r18 h17 H
          refine ev_cVI (As := [(0, r18)]) (rest := []) 134 rfl dX10_told_131 lm_10_162 mm_X10_answer (s_0 hst) rfl rfl (Nat.le_of_ble_eq_true rfl) (Nat.le_of_ble_eq_true rfl) (Nat.le_refl _) H ?_
          intro r20 h19 H
          exact ev_retI dX10_told_134 rfl H
      · have H := H.2 cd
        refine ev_aload_n 26 rfl dX10_told_25 rfl rfl ?_
        refine ev_bipush 28 rfl dX10_told_26 (by decide) (by decide) ?_
        refine ev_cVI (As := [(0, 8)]) (rest := []) 31 rfl dX10_told_28 lm_10_124 mm_X10_none (s_0 hst) rfl rfl (Nat.le_of_ble_eq_true rfl) (Nat.le_of_ble_eq_true rfl) (Nat.le_refl _) H ?_
        intro r22 h21 H
        exact ev_retI dX10_told_31 rfl H
    · have H := H.2 cd
      refine ev_aload_n 10 rfl dX10_told_9 rfl rfl ?_
      refine ev_iconst 11 rfl dX10_told_10 (by decide) ?_
      refine ev_cVI (As := [(0, 5)]) (rest := []) 14 rfl dX10_told_11 lm_10_124 mm_X10_none (s_0 hst) rfl rfl (Nat.le_of_ble_eq_true rfl) (Nat.le_of_ble_eq_true rfl) (Nat.le_refl _) H ?_
      intro r24 h23 H
      exact ev_retI dX10_told_14 rfl H

set_option maxRecDepth 20000 in
theorem b_X10_clash {X : qX} {d : Nat} {sh : qS} {pt h : qM} {K : Int → qM → Prop} {v1 v2 : Int} (hst : St sh pt) {c : Int} (e10 : pt 0 10 = c) (hc : isC c)
    (H : ((v2 < 0 → RunI X d mX10_none [(2, 0), (0, 5)] sh pt h (fun r2 h1 => K r2 h1)) ∧ (0 ≤ v2 → ((v2 ≤ 2 → (((h c 3) = 0 → EvI X (d + 1) mX10_clash 37 [(2, 0), (8, -1), (0, v2), (8, -1)] [(0, (-1))] sh pt h K) ∧ (¬ (h c 3) = 0 → RunI X d mX0_findClash [(2, c), (0, v1)] sh pt h (fun r4 h3 => EvI X (d + 1) mX10_clash 37 [(2, 0), (8, -1), (0, v2), (8, -1)] [(0, r4)] sh pt h3 K)))) ∧ (2 < v2 → RunI X d mX10_none [(2, 0), (0, 5)] sh pt h (fun r6 h5 => K r6 h5)))))) :
    RunI X (d + 1) mX10_clash [(2, 0), (0, v1), (0, v2)] sh pt h K := by
  show Ev X (d + 1) 0 0 mX10_clash 0 [(2, 0), (0, v1), (0, v2), (8, -1)] [] (sh, pt, h) (qRI sh pt K)
  refine ev_iload_n 1 rfl dX10_clash_0 rfl rfl ?_
  refine ev_if_lt (tgt := 9) 4 rfl dX10_clash_1 (by decide) (fun cd => ?_) (fun cd => ?_)
  · have H := H.1 cd
    refine ev_aload_n 10 rfl dX10_clash_9 rfl rfl ?_
    refine ev_iconst 11 rfl dX10_clash_10 (by decide) ?_
    refine ev_cVI (As := [(0, 5)]) (rest := []) 14 rfl dX10_clash_11 lm_10_124 mm_X10_none (s_0 hst) rfl rfl (Nat.le_of_ble_eq_true rfl) (Nat.le_of_ble_eq_true rfl) (Nat.le_refl _) H ?_
    intro r2 h1 H
    exact ev_retI dX10_clash_14 rfl H
  · have H := H.2 cd
    refine ev_iload_n 5 rfl dX10_clash_4 rfl rfl ?_
    refine ev_iconst 6 rfl dX10_clash_5 (by decide) ?_
    refine ev_icmp_le (tgt := 15) 9 rfl dX10_clash_6 (by decide) (fun cd => ?_) (fun cd => ?_)
    · have H := H.1 cd
      refine ev_aload_n 16 rfl dX10_clash_15 rfl rfl ?_
      refine ev_getR (ki := 10) (v := c) 19 rfl dX10_clash_16 lf_10_77 (s_0 hst) (by decide) rfl e10 ?_
      refine ev_getI (ki := 3) 22 rfl dX10_clash_19 lf_10_226 (Or.inr rfl) (sC hst hc) (by decide) rfl ?_
      refine ev_if_eq (tgt := 36) 25 rfl dX10_clash_22 (by decide) (fun cd => ?_) (fun cd => ?_)
      · have H := H.1 cd
        refine ev_iconst 37 rfl dX10_clash_36 (by decide) ?_
        refine Ev.drop [1] rfl ?_
        exact H
      · have H := H.2 cd
        refine ev_aload_n 26 rfl dX10_clash_25 rfl rfl ?_
        refine ev_getR (ki := 10) (v := c) 29 rfl dX10_clash_26 lf_10_77 (s_0 hst) (by decide) rfl e10 ?_
        refine ev_iload_n 30 rfl dX10_clash_29 rfl rfl ?_
        refine ev_cVI (As := [(0, v1)]) (rest := []) 33 rfl dX10_clash_30 lm_10_261 mm_X0_findClash (sC hst hc) rfl rfl (Nat.le_of_ble_eq_true rfl) (Nat.le_of_ble_eq_true rfl) (Nat.le_refl _) H ?_
        intro r4 h3 H
        refine ev_goto (tgt := 37) dX10_clash_33 (by decide) ?_
        refine Ev.drop [1] rfl ?_
        exact H
    · have H := H.2 cd
      refine ev_aload_n 10 rfl dX10_clash_9 rfl rfl ?_
      refine ev_iconst 11 rfl dX10_clash_10 (by decide) ?_
      refine ev_cVI (As := [(0, 5)]) (rest := []) 14 rfl dX10_clash_11 lm_10_124 mm_X10_none (s_0 hst) rfl rfl (Nat.le_of_ble_eq_true rfl) (Nat.le_of_ble_eq_true rfl) (Nat.le_refl _) H ?_
      intro r6 h5 H
      exact ev_retI dX10_clash_14 rfl H

set_option maxRecDepth 20000 in
theorem b_X10_clash_37 {X : qX} {d : Nat} {sh : qS} {pt h : qM} {K : Int → qM → Prop} {v2 u0 : Int} (hst : St sh pt)
    (H : ((¬ u0 = (-1) → ((¬ v2 = 0 → ((¬ v2 = 1 → RunI X d mX0_greaterOfClash [(0, u0)] sh pt h (fun r2 h1 => RunI X d mX10_answer [(2, 0), (0, r2)] sh pt h1 (fun r4 h3 => K r4 h3))) ∧ (v2 = 1 → RunI X d mX0_lesserOfClash [(0, u0)] sh pt h (fun r6 h5 => RunI X d mX10_answer [(2, 0), (0, r6)] sh pt h5 (fun r8 h7 => K r8 h7))))) ∧ (v2 = 0 → RunI X d mX0_countOfClash [(0, u0)] sh pt h (fun r10 h9 => RunI X d mX10_answer [(2, 0), (0, r10)] sh pt h9 (fun r12 h11 => K r12 h11))))) ∧ (u0 = (-1) → RunI X d mX10_none [(2, 0), (0, 8)] sh pt h (fun r14 h13 => K r14 h13)))) :
    EvI X (d + 1) mX10_clash 37 [(2, 0), (8, -1), (0, v2), (8, -1)] [(0, u0)] sh pt h K := by
  show Ev X (d + 1) 0 0 mX10_clash 37 [(2, 0), (8, -1), (0, v2), (8, -1)] [(0, u0)] (sh, pt, h) (qRI sh pt K)
  refine ev_istore_n (L1 := [(2, 0), (8, -1), (0, v2), (0, u0)]) 38 rfl dX10_clash_37 rfl (Nat.le_of_ble_eq_true rfl) rfl ?_
  refine ev_iload_n 39 rfl dX10_clash_38 rfl rfl ?_
  refine ev_iconst 40 rfl dX10_clash_39 (by decide) ?_
  refine ev_icmp_ne (tgt := 50) 43 rfl dX10_clash_40 (by decide) (fun cd => ?_) (fun cd => ?_)
  · have H := H.1 cd
    refine ev_iload_n 51 rfl dX10_clash_50 rfl rfl ?_
    refine ev_if_ne (tgt := 63) 54 rfl dX10_clash_51 (by decide) (fun cd => ?_) (fun cd => ?_)
    · have H := H.1 cd
      refine ev_aload_n 64 rfl dX10_clash_63 rfl rfl ?_
      refine ev_iload_n 65 rfl dX10_clash_64 rfl rfl ?_
      refine ev_iconst 66 rfl dX10_clash_65 (by decide) ?_
      refine ev_icmp_ne (tgt := 76) 69 rfl dX10_clash_66 (by decide) (fun cd => ?_) (fun cd => ?_)
      · have H := H.1 cd
        refine ev_iload_n 77 rfl dX10_clash_76 rfl rfl ?_
        refine ev_cSI (As := [(0, u0)]) (rest := [(2, 0)]) 80 rfl dX10_clash_77 lm_10_270 mm_X0_greaterOfClash rfl rfl (Nat.le_of_ble_eq_true rfl) (Nat.le_of_ble_eq_true rfl) (Nat.le_refl _) H ?_
        intro r2 h1 H
        refine ev_cVI (As := [(0, r2)]) (rest := []) 83 rfl dX10_clash_80 lm_10_162 mm_X10_answer (s_0 hst) rfl rfl (Nat.le_of_ble_eq_true rfl) (Nat.le_of_ble_eq_true rfl) (Nat.le_refl _) H ?_
        intro r4 h3 H
        exact ev_retI dX10_clash_83 rfl H
      · have H := H.2 cd
        refine ev_iload_n 70 rfl dX10_clash_69 rfl rfl ?_
        refine ev_cSI (As := [(0, u0)]) (rest := [(2, 0)]) 73 rfl dX10_clash_70 lm_10_267 mm_X0_lesserOfClash rfl rfl (Nat.le_of_ble_eq_true rfl) (Nat.le_of_ble_eq_true rfl) (Nat.le_refl _) H ?_
        intro r6 h5 H
        refine ev_goto (tgt := 80) dX10_clash_73 (by decide) ?_
        refine ev_cVI (As := [(0, r6)]) (rest := []) 83 rfl dX10_clash_80 lm_10_162 mm_X10_answer (s_0 hst) rfl rfl (Nat.le_of_ble_eq_true rfl) (Nat.le_of_ble_eq_true rfl) (Nat.le_refl _) H ?_
        intro r8 h7 H
        exact ev_retI dX10_clash_83 rfl H
    · have H := H.2 cd
      refine ev_aload_n 55 rfl dX10_clash_54 rfl rfl ?_
      refine ev_iload_n 56 rfl dX10_clash_55 rfl rfl ?_
      refine ev_cSI (As := [(0, u0)]) (rest := [(2, 0)]) 59 rfl dX10_clash_56 lm_10_264 mm_X0_countOfClash rfl rfl (Nat.le_of_ble_eq_true rfl) (Nat.le_of_ble_eq_true rfl) (Nat.le_refl _) H ?_
      intro r10 h9 H
      refine ev_cVI (As := [(0, r10)]) (rest := []) 62 rfl dX10_clash_59 lm_10_162 mm_X10_answer (s_0 hst) rfl rfl (Nat.le_of_ble_eq_true rfl) (Nat.le_of_ble_eq_true rfl) (Nat.le_refl _) H ?_
      intro r12 h11 H
      exact ev_retI dX10_clash_62 rfl H
  · have H := H.2 cd
    refine ev_aload_n 44 rfl dX10_clash_43 rfl rfl ?_
    refine ev_bipush 46 rfl dX10_clash_44 (by decide) (by decide) ?_
    refine ev_cVI (As := [(0, 8)]) (rest := []) 49 rfl dX10_clash_46 lm_10_124 mm_X10_none (s_0 hst) rfl rfl (Nat.le_of_ble_eq_true rfl) (Nat.le_of_ble_eq_true rfl) (Nat.le_refl _) H ?_
    intro r14 h13 H
    exact ev_retI dX10_clash_49 rfl H

set_option maxRecDepth 20000 in
theorem b_X10_dressed {X : qX} {d : Nat} {sh : qS} {pt h : qM} {K : Int → qM → Prop} {v1 v2 : Int} (hst : St sh pt) {c : Int} (e10 : pt 0 10 = c) (hc : isC c)
    (H : ((¬ (h c 3) = 0 → ((v1 < 0 → RunI X d mX10_none [(2, 0), (0, 2)] sh pt h (fun r2 h1 => K r2 h1)) ∧ (0 ≤ v1 → (((h 2 8) ≤ v1 → RunI X d mX10_none [(2, 0), (0, 2)] sh pt h (fun r4 h3 => K r4 h3)) ∧ (v1 < (h 2 8) → RunI X d mX0_hasCount [(2, c), (0, v2)] sh pt h (fun r6 h5 => ((¬ r6 = 0 → (0 ≤ v1 ∧ v1 < 8) ∧ RunI X d mX0_hasAll [(2, c), (0, (h5 8 v1))] sh pt h5 (fun r9 h8 => ((¬ r9 = 0 → RunI X d mX0_isDressed [(2, c), (0, (h5 8 v1)), (0, v2)] sh pt h8 (fun r11 h10 => ((r11 = 0 → RunI X d mX10_answer [(2, 0), (0, 0)] sh pt h10 (fun r13 h12 => K r13 h12)) ∧ (¬ r11 = 0 → RunI X d mX10_answer [(2, 0), (0, 1)] sh pt h10 (fun r15 h14 => K r15 h14))))) ∧ (r9 = 0 → RunI X d mX10_none [(2, 0), (0, 2)] sh pt h8 (fun r17 h16 => K r17 h16))))) ∧ (r6 = 0 → RunI X d mX10_none [(2, 0), (0, 2)] sh pt h5 (fun r19 h18 => K r19 h18))))))))) ∧ ((h c 3) = 0 → RunI X d mX10_none [(2, 0), (0, 8)] sh pt h (fun r21 h20 => K r21 h20)))) :
    RunI X (d + 1) mX10_dressed [(2, 0), (0, v1), (0, v2)] sh pt h K := by
  show Ev X (d + 1) 0 0 mX10_dressed 0 [(2, 0), (0, v1), (0, v2), (8, -1)] [] (sh, pt, h) (qRI sh pt K)
  refine ev_aload_n 1 rfl dX10_dressed_0 rfl rfl ?_
  refine ev_getR (ki := 10) (v := c) 4 rfl dX10_dressed_1 lf_10_77 (s_0 hst) (by decide) rfl e10 ?_
  refine ev_getI (ki := 3) 7 rfl dX10_dressed_4 lf_10_226 (Or.inr rfl) (sC hst hc) (by decide) rfl ?_
  refine ev_if_ne (tgt := 17) 10 rfl dX10_dressed_7 (by decide) (fun cd => ?_) (fun cd => ?_)
  · have H := H.1 cd
    refine ev_iload_n 18 rfl dX10_dressed_17 rfl rfl ?_
    refine ev_if_lt (tgt := 43) 21 rfl dX10_dressed_18 (by decide) (fun cd => ?_) (fun cd => ?_)
    · have H := H.1 cd
      refine ev_aload_n 44 rfl dX10_dressed_43 rfl rfl ?_
      refine ev_iconst 45 rfl dX10_dressed_44 (by decide) ?_
      refine ev_cVI (As := [(0, 2)]) (rest := []) 48 rfl dX10_dressed_45 lm_10_124 mm_X10_none (s_0 hst) rfl rfl (Nat.le_of_ble_eq_true rfl) (Nat.le_of_ble_eq_true rfl) (Nat.le_refl _) H ?_
      intro r2 h1 H
      exact ev_retI dX10_dressed_48 rfl H
    · have H := H.2 cd
      refine ev_iload_n 22 rfl dX10_dressed_21 rfl rfl ?_
      refine ev_aload_n 23 rfl dX10_dressed_22 rfl rfl ?_
      refine ev_getR (ki := 1) (v := 2) 26 rfl dX10_dressed_23 lf_10_18 (s_0 hst) (by decide) rfl (p_0_1 hst) ?_
      refine ev_getI (ki := 8) 29 rfl dX10_dressed_26 lf_10_185 (Or.inl rfl) (s_2 hst) (by decide) rfl ?_
      refine ev_icmp_ge (tgt := 43) 32 rfl dX10_dressed_29 (by decide) (fun cd => ?_) (fun cd => ?_)
      · have H := H.1 cd
        refine ev_aload_n 44 rfl dX10_dressed_43 rfl rfl ?_
        refine ev_iconst 45 rfl dX10_dressed_44 (by decide) ?_
        refine ev_cVI (As := [(0, 2)]) (rest := []) 48 rfl dX10_dressed_45 lm_10_124 mm_X10_none (s_0 hst) rfl rfl (Nat.le_of_ble_eq_true rfl) (Nat.le_of_ble_eq_true rfl) (Nat.le_refl _) H ?_
        intro r4 h3 H
        exact ev_retI dX10_dressed_48 rfl H
      · have H := H.2 cd
        refine ev_aload_n 33 rfl dX10_dressed_32 rfl rfl ?_
        refine ev_getR (ki := 10) (v := c) 36 rfl dX10_dressed_33 lf_10_77 (s_0 hst) (by decide) rfl e10 ?_
        refine ev_iload_n 37 rfl dX10_dressed_36 rfl rfl ?_
        refine ev_cVI (As := [(0, v2)]) (rest := []) 40 rfl dX10_dressed_37 lm_10_229 mm_X0_hasCount (sC hst hc) rfl rfl (Nat.le_of_ble_eq_true rfl) (Nat.le_of_ble_eq_true rfl) (Nat.le_refl _) H ?_
        intro r6 h5 H
        refine ev_if_ne (tgt := 49) 43 rfl dX10_dressed_40 (by decide) (fun cd => ?_) (fun cd => ?_)
        · have H := H.1 cd
          refine ev_aload_n 50 rfl dX10_dressed_49 rfl rfl ?_
          refine ev_getR (ki := 1) (v := 2) 53 rfl dX10_dressed_50 lf_10_18 (s_0 hst) (by decide) rfl (p_0_1 hst) ?_
          refine ev_getR (ki := 7) (v := 8) 56 rfl dX10_dressed_53 lf_10_273 (s_2 hst) (by decide) rfl (p_2_7 hst) ?_
          refine ev_iload_n 57 rfl dX10_dressed_56 rfl rfl ?_
          obtain ⟨b7, H⟩ := H
          refine ev_iaload 58 rfl dX10_dressed_57 (s_8 hst) b7.1 b7.2 ?_
          refine ev_istore_n (L1 := [(2, 0), (0, v1), (0, v2), (0, (h5 8 v1))]) 59 rfl dX10_dressed_58 rfl (Nat.le_of_ble_eq_true rfl) rfl ?_
          refine ev_aload_n 60 rfl dX10_dressed_59 rfl rfl ?_
          refine ev_getR (ki := 10) (v := c) 63 rfl dX10_dressed_60 lf_10_77 (s_0 hst) (by decide) rfl e10 ?_
          refine ev_iload_n 64 rfl dX10_dressed_63 rfl rfl ?_
          refine ev_cVI (As := [(0, (h5 8 v1))]) (rest := []) 67 rfl dX10_dressed_64 lm_10_277 mm_X0_hasAll (sC hst hc) rfl rfl (Nat.le_of_ble_eq_true rfl) (Nat.le_of_ble_eq_true rfl) (Nat.le_refl _) H ?_
          intro r9 h8 H
          refine ev_if_ne (tgt := 76) 70 rfl dX10_dressed_67 (by decide) (fun cd => ?_) (fun cd => ?_)
          · have H := H.1 cd
            refine ev_aload_n 77 rfl dX10_dressed_76 rfl rfl ?_
            refine ev_aload_n 78 rfl dX10_dressed_77 rfl rfl ?_
            refine ev_getR (ki := 10) (v := c) 81 rfl dX10_dressed_78 lf_10_77 (s_0 hst) (by decide) rfl e10 ?_
            refine ev_iload_n 82 rfl dX10_dressed_81 rfl rfl ?_
            refine ev_iload_n 83 rfl dX10_dressed_82 rfl rfl ?_
            refine ev_cVI (As := [(0, (h5 8 v1)), (0, v2)]) (rest := [(2, 0)]) 86 rfl dX10_dressed_83 lm_10_280 mm_X0_isDressed (sC hst hc) rfl rfl (Nat.le_of_ble_eq_true rfl) (Nat.le_of_ble_eq_true rfl) (Nat.le_refl _) H ?_
            intro r11 h10 H
            refine ev_if_eq (tgt := 93) 89 rfl dX10_dressed_86 (by decide) (fun cd => ?_) (fun cd => ?_)
            · have H := H.1 cd
              refine ev_iconst 94 rfl dX10_dressed_93 (by decide) ?_
              refine ev_cVI (As := [(0, 0)]) (rest := []) 97 rfl dX10_dressed_94 lm_10_162 mm_X10_answer (s_0 hst) rfl rfl (Nat.le_of_ble_eq_true rfl) (Nat.le_of_ble_eq_true rfl) (Nat.le_refl _) H ?_
              intro r13 h12 H
              exact ev_retI dX10_dressed_97 rfl H
            · have H := H.2 cd
              refine ev_iconst 90 rfl dX10_dressed_89 (by decide) ?_
              refine ev_goto (tgt := 94) dX10_dressed_90 (by decide) ?_
              refine ev_cVI (As := [(0, 1)]) (rest := []) 97 rfl dX10_dressed_94 lm_10_162 mm_X10_answer (s_0 hst) rfl rfl (Nat.le_of_ble_eq_true rfl) (Nat.le_of_ble_eq_true rfl) (Nat.le_refl _) H ?_
              intro r15 h14 H
              exact ev_retI dX10_dressed_97 rfl H
          · have H := H.2 cd
            refine ev_aload_n 71 rfl dX10_dressed_70 rfl rfl ?_
            refine ev_iconst 72 rfl dX10_dressed_71 (by decide) ?_
            refine ev_cVI (As := [(0, 2)]) (rest := []) 75 rfl dX10_dressed_72 lm_10_124 mm_X10_none (s_0 hst) rfl rfl (Nat.le_of_ble_eq_true rfl) (Nat.le_of_ble_eq_true rfl) (Nat.le_refl _) H ?_
            intro r17 h16 H
            exact ev_retI dX10_dressed_75 rfl H
        · have H := H.2 cd
          refine ev_aload_n 44 rfl dX10_dressed_43 rfl rfl ?_
          refine ev_iconst 45 rfl dX10_dressed_44 (by decide) ?_
          refine ev_cVI (As := [(0, 2)]) (rest := []) 48 rfl dX10_dressed_45 lm_10_124 mm_X10_none (s_0 hst) rfl rfl (Nat.le_of_ble_eq_true rfl) (Nat.le_of_ble_eq_true rfl) (Nat.le_refl _) H ?_
          intro r19 h18 H
          exact ev_retI dX10_dressed_48 rfl H
  · have H := H.2 cd
    refine ev_aload_n 11 rfl dX10_dressed_10 rfl rfl ?_
    refine ev_bipush 13 rfl dX10_dressed_11 (by decide) (by decide) ?_
    refine ev_cVI (As := [(0, 8)]) (rest := []) 16 rfl dX10_dressed_13 lm_10_124 mm_X10_none (s_0 hst) rfl rfl (Nat.le_of_ble_eq_true rfl) (Nat.le_of_ble_eq_true rfl) (Nat.le_refl _) H ?_
    intro r21 h20 H
    exact ev_retI dX10_dressed_16 rfl H

set_option maxRecDepth 20000 in
theorem b_X10_like {X : qX} {d : Nat} {sh : qS} {pt h : qM} {K : Int → qM → Prop} {v1 v2 : Int} (hst : St sh pt) {c : Int} (e10 : pt 0 10 = c) (hc : isC c)
    (H : ((¬ (h c 3) = 0 → RunI X d mX0_hasCount [(2, c), (0, v1)] sh pt h (fun r2 h1 => ((r2 = 0 → RunI X d mX10_none [(2, 0), (0, 2)] sh pt h1 (fun r4 h3 => K r4 h3)) ∧ (¬ r2 = 0 → RunI X d mX0_hasCount [(2, c), (0, v2)] sh pt h1 (fun r6 h5 => ((¬ r6 = 0 → RunI X d mX0_likeness [(2, c), (0, v1), (0, v2)] sh pt h5 (fun r8 h7 => ((¬ r8 = (-1) → RunI X d mX10_answer [(2, 0), (0, r8)] sh pt h7 (fun r10 h9 => K r10 h9)) ∧ (r8 = (-1) → RunI X d mX10_none [(2, 0), (0, 8)] sh pt h7 (fun r12 h11 => K r12 h11))))) ∧ (r6 = 0 → RunI X d mX10_none [(2, 0), (0, 2)] sh pt h5 (fun r14 h13 => K r14 h13)))))))) ∧ ((h c 3) = 0 → RunI X d mX10_none [(2, 0), (0, 8)] sh pt h (fun r16 h15 => K r16 h15)))) :
    RunI X (d + 1) mX10_like [(2, 0), (0, v1), (0, v2)] sh pt h K := by
  show Ev X (d + 1) 0 0 mX10_like 0 [(2, 0), (0, v1), (0, v2), (8, -1)] [] (sh, pt, h) (qRI sh pt K)
  refine ev_aload_n 1 rfl dX10_like_0 rfl rfl ?_
  refine ev_getR (ki := 10) (v := c) 4 rfl dX10_like_1 lf_10_77 (s_0 hst) (by decide) rfl e10 ?_
  refine ev_getI (ki := 3) 7 rfl dX10_like_4 lf_10_226 (Or.inr rfl) (sC hst hc) (by decide) rfl ?_
  refine ev_if_ne (tgt := 17) 10 rfl dX10_like_7 (by decide) (fun cd => ?_) (fun cd => ?_)
  · have H := H.1 cd
    refine ev_aload_n 18 rfl dX10_like_17 rfl rfl ?_
    refine ev_getR (ki := 10) (v := c) 21 rfl dX10_like_18 lf_10_77 (s_0 hst) (by decide) rfl e10 ?_
    refine ev_iload_n 22 rfl dX10_like_21 rfl rfl ?_
    refine ev_cVI (As := [(0, v1)]) (rest := []) 25 rfl dX10_like_22 lm_10_229 mm_X0_hasCount (sC hst hc) rfl rfl (Nat.le_of_ble_eq_true rfl) (Nat.le_of_ble_eq_true rfl) (Nat.le_refl _) H ?_
    intro r2 h1 H
    refine ev_if_eq (tgt := 39) 28 rfl dX10_like_25 (by decide) (fun cd => ?_) (fun cd => ?_)
    · have H := H.1 cd
      refine ev_aload_n 40 rfl dX10_like_39 rfl rfl ?_
      refine ev_iconst 41 rfl dX10_like_40 (by decide) ?_
      refine ev_cVI (As := [(0, 2)]) (rest := []) 44 rfl dX10_like_41 lm_10_124 mm_X10_none (s_0 hst) rfl rfl (Nat.le_of_ble_eq_true rfl) (Nat.le_of_ble_eq_true rfl) (Nat.le_refl _) H ?_
      intro r4 h3 H
      exact ev_retI dX10_like_44 rfl H
    · have H := H.2 cd
      refine ev_aload_n 29 rfl dX10_like_28 rfl rfl ?_
      refine ev_getR (ki := 10) (v := c) 32 rfl dX10_like_29 lf_10_77 (s_0 hst) (by decide) rfl e10 ?_
      refine ev_iload_n 33 rfl dX10_like_32 rfl rfl ?_
      refine ev_cVI (As := [(0, v2)]) (rest := []) 36 rfl dX10_like_33 lm_10_229 mm_X0_hasCount (sC hst hc) rfl rfl (Nat.le_of_ble_eq_true rfl) (Nat.le_of_ble_eq_true rfl) (Nat.le_refl _) H ?_
      intro r6 h5 H
      refine ev_if_ne (tgt := 45) 39 rfl dX10_like_36 (by decide) (fun cd => ?_) (fun cd => ?_)
      · have H := H.1 cd
        refine ev_aload_n 46 rfl dX10_like_45 rfl rfl ?_
        refine ev_getR (ki := 10) (v := c) 49 rfl dX10_like_46 lf_10_77 (s_0 hst) (by decide) rfl e10 ?_
        refine ev_iload_n 50 rfl dX10_like_49 rfl rfl ?_
        refine ev_iload_n 51 rfl dX10_like_50 rfl rfl ?_
        refine ev_cVI (As := [(0, v1), (0, v2)]) (rest := []) 54 rfl dX10_like_51 lm_10_283 mm_X0_likeness (sC hst hc) rfl rfl (Nat.le_of_ble_eq_true rfl) (Nat.le_of_ble_eq_true rfl) (Nat.le_refl _) H ?_
        intro r8 h7 H
        refine ev_istore_n (L1 := [(2, 0), (0, v1), (0, v2), (0, r8)]) 55 rfl dX10_like_54 rfl (Nat.le_of_ble_eq_true rfl) rfl ?_
        refine ev_iload_n 56 rfl dX10_like_55 rfl rfl ?_
        refine ev_iconst 57 rfl dX10_like_56 (by decide) ?_
        refine ev_icmp_ne (tgt := 69) 60 rfl dX10_like_57 (by decide) (fun cd => ?_) (fun cd => ?_)
        · have H := H.1 cd
          refine ev_aload_n 70 rfl dX10_like_69 rfl rfl ?_
          refine ev_iload_n 71 rfl dX10_like_70 rfl rfl ?_
          refine ev_cVI (As := [(0, r8)]) (rest := []) 74 rfl dX10_like_71 lm_10_162 mm_X10_answer (s_0 hst) rfl rfl (Nat.le_of_ble_eq_true rfl) (Nat.le_of_ble_eq_true rfl) (Nat.le_refl _) H ?_
          intro r10 h9 H
          exact ev_retI dX10_like_74 rfl H
        · have H := H.2 cd
          refine ev_aload_n 61 rfl dX10_like_60 rfl rfl ?_
          refine ev_bipush 63 rfl dX10_like_61 (by decide) (by decide) ?_
          refine ev_cVI (As := [(0, 8)]) (rest := []) 66 rfl dX10_like_63 lm_10_124 mm_X10_none (s_0 hst) rfl rfl (Nat.le_of_ble_eq_true rfl) (Nat.le_of_ble_eq_true rfl) (Nat.le_refl _) H ?_
          intro r12 h11 H
          refine ev_goto (tgt := 74) dX10_like_66 (by decide) ?_
          exact ev_retI dX10_like_74 rfl H
      · have H := H.2 cd
        refine ev_aload_n 40 rfl dX10_like_39 rfl rfl ?_
        refine ev_iconst 41 rfl dX10_like_40 (by decide) ?_
        refine ev_cVI (As := [(0, 2)]) (rest := []) 44 rfl dX10_like_41 lm_10_124 mm_X10_none (s_0 hst) rfl rfl (Nat.le_of_ble_eq_true rfl) (Nat.le_of_ble_eq_true rfl) (Nat.le_refl _) H ?_
        intro r14 h13 H
        exact ev_retI dX10_like_44 rfl H
  · have H := H.2 cd
    refine ev_aload_n 11 rfl dX10_like_10 rfl rfl ?_
    refine ev_bipush 13 rfl dX10_like_11 (by decide) (by decide) ?_
    refine ev_cVI (As := [(0, 8)]) (rest := []) 16 rfl dX10_like_13 lm_10_124 mm_X10_none (s_0 hst) rfl rfl (Nat.le_of_ble_eq_true rfl) (Nat.le_of_ble_eq_true rfl) (Nat.le_refl _) H ?_
    intro r16 h15 H
    exact ev_retI dX10_like_16 rfl H

set_option maxRecDepth 20000 in
theorem b_X10_seen {X : qX} {d : Nat} {sh : qS} {pt h : qM} {K : Int → qM → Prop} {v1 v2 v3 : Int} (hst : St sh pt) {c : Int} (e10 : pt 0 10 = c) (hc : isC c)
    (H : ((¬ (h c 3) = 0 → RunI X d mX0_hasCount [(2, c), (0, v1)] sh pt h (fun r2 h1 => ((¬ r2 = 0 → ((v2 < 0 → RunI X d mX10_none [(2, 0), (0, 5)] sh pt h1 (fun r4 h3 => K r4 h3)) ∧ (0 ≤ v2 → ((60 ≤ v2 → RunI X d mX10_none [(2, 0), (0, 5)] sh pt h1 (fun r6 h5 => K r6 h5)) ∧ (v2 < 60 → ((v3 < 1 → RunI X d mX10_none [(2, 0), (0, 5)] sh pt h1 (fun r8 h7 => K r8 h7)) ∧ (1 ≤ v3 → ((v3 ≤ 40 → RunI X d mX0_seenFrom [(2, c), (0, v1), (0, v2), (0, v3)] sh pt h1 (fun r10 h9 => RunI X d mX10_answer [(2, 0), (0, r10)] sh pt h9 (fun r12 h11 => K r12 h11))) ∧ (40 < v3 → RunI X d mX10_none [(2, 0), (0, 5)] sh pt h1 (fun r14 h13 => K r14 h13)))))))))) ∧ (r2 = 0 → RunI X d mX10_none [(2, 0), (0, 2)] sh pt h1 (fun r16 h15 => K r16 h15))))) ∧ ((h c 3) = 0 → RunI X d mX10_none [(2, 0), (0, 8)] sh pt h (fun r18 h17 => K r18 h17)))) :
    RunI X (d + 1) mX10_seen [(2, 0), (0, v1), (0, v2), (0, v3)] sh pt h K := by
  show Ev X (d + 1) 0 0 mX10_seen 0 [(2, 0), (0, v1), (0, v2), (0, v3)] [] (sh, pt, h) (qRI sh pt K)
  refine ev_aload_n 1 rfl dX10_seen_0 rfl rfl ?_
  refine ev_getR (ki := 10) (v := c) 4 rfl dX10_seen_1 lf_10_77 (s_0 hst) (by decide) rfl e10 ?_
  refine ev_getI (ki := 3) 7 rfl dX10_seen_4 lf_10_226 (Or.inr rfl) (sC hst hc) (by decide) rfl ?_
  refine ev_if_ne (tgt := 17) 10 rfl dX10_seen_7 (by decide) (fun cd => ?_) (fun cd => ?_)
  · have H := H.1 cd
    refine ev_aload_n 18 rfl dX10_seen_17 rfl rfl ?_
    refine ev_getR (ki := 10) (v := c) 21 rfl dX10_seen_18 lf_10_77 (s_0 hst) (by decide) rfl e10 ?_
    refine ev_iload_n 22 rfl dX10_seen_21 rfl rfl ?_
    refine ev_cVI (As := [(0, v1)]) (rest := []) 25 rfl dX10_seen_22 lm_10_229 mm_X0_hasCount (sC hst hc) rfl rfl (Nat.le_of_ble_eq_true rfl) (Nat.le_of_ble_eq_true rfl) (Nat.le_refl _) H ?_
    intro r2 h1 H
    refine ev_if_ne (tgt := 34) 28 rfl dX10_seen_25 (by decide) (fun cd => ?_) (fun cd => ?_)
    · have H := H.1 cd
      refine ev_iload_n 35 rfl dX10_seen_34 rfl rfl ?_
      refine ev_if_lt (tgt := 55) 38 rfl dX10_seen_35 (by decide) (fun cd => ?_) (fun cd => ?_)
      · have H := H.1 cd
        refine ev_aload_n 56 rfl dX10_seen_55 rfl rfl ?_
        refine ev_iconst 57 rfl dX10_seen_56 (by decide) ?_
        refine ev_cVI (As := [(0, 5)]) (rest := []) 60 rfl dX10_seen_57 lm_10_124 mm_X10_none (s_0 hst) rfl rfl (Nat.le_of_ble_eq_true rfl) (Nat.le_of_ble_eq_true rfl) (Nat.le_refl _) H ?_
        intro r4 h3 H
        exact ev_retI dX10_seen_60 rfl H
      · have H := H.2 cd
        refine ev_iload_n 39 rfl dX10_seen_38 rfl rfl ?_
        refine ev_bipush 41 rfl dX10_seen_39 (by decide) (by decide) ?_
        refine ev_icmp_ge (tgt := 55) 44 rfl dX10_seen_41 (by decide) (fun cd => ?_) (fun cd => ?_)
        · have H := H.1 cd
          refine ev_aload_n 56 rfl dX10_seen_55 rfl rfl ?_
          refine ev_iconst 57 rfl dX10_seen_56 (by decide) ?_
          refine ev_cVI (As := [(0, 5)]) (rest := []) 60 rfl dX10_seen_57 lm_10_124 mm_X10_none (s_0 hst) rfl rfl (Nat.le_of_ble_eq_true rfl) (Nat.le_of_ble_eq_true rfl) (Nat.le_refl _) H ?_
          intro r6 h5 H
          exact ev_retI dX10_seen_60 rfl H
        · have H := H.2 cd
          refine ev_iload_n 45 rfl dX10_seen_44 rfl rfl ?_
          refine ev_iconst 46 rfl dX10_seen_45 (by decide) ?_
          refine ev_icmp_lt (tgt := 55) 49 rfl dX10_seen_46 (by decide) (fun cd => ?_) (fun cd => ?_)
          · have H := H.1 cd
            refine ev_aload_n 56 rfl dX10_seen_55 rfl rfl ?_
            refine ev_iconst 57 rfl dX10_seen_56 (by decide) ?_
            refine ev_cVI (As := [(0, 5)]) (rest := []) 60 rfl dX10_seen_57 lm_10_124 mm_X10_none (s_0 hst) rfl rfl (Nat.le_of_ble_eq_true rfl) (Nat.le_of_ble_eq_true rfl) (Nat.le_refl _) H ?_
            intro r8 h7 H
            exact ev_retI dX10_seen_60 rfl H
          · have H := H.2 cd
            refine ev_iload_n 50 rfl dX10_seen_49 rfl rfl ?_
            refine ev_bipush 52 rfl dX10_seen_50 (by decide) (by decide) ?_
            refine ev_icmp_le (tgt := 61) 55 rfl dX10_seen_52 (by decide) (fun cd => ?_) (fun cd => ?_)
            · have H := H.1 cd
              refine ev_aload_n 62 rfl dX10_seen_61 rfl rfl ?_
              refine ev_aload_n 63 rfl dX10_seen_62 rfl rfl ?_
              refine ev_getR (ki := 10) (v := c) 66 rfl dX10_seen_63 lf_10_77 (s_0 hst) (by decide) rfl e10 ?_
              refine ev_iload_n 67 rfl dX10_seen_66 rfl rfl ?_
              refine ev_iload_n 68 rfl dX10_seen_67 rfl rfl ?_
              refine ev_iload_n 69 rfl dX10_seen_68 rfl rfl ?_
              refine ev_cVI (As := [(0, v1), (0, v2), (0, v3)]) (rest := [(2, 0)]) 72 rfl dX10_seen_69 lm_10_286 mm_X0_seenFrom (sC hst hc) rfl rfl (Nat.le_of_ble_eq_true rfl) (Nat.le_of_ble_eq_true rfl) (Nat.le_refl _) H ?_
              intro r10 h9 H
              refine ev_cVI (As := [(0, r10)]) (rest := []) 75 rfl dX10_seen_72 lm_10_162 mm_X10_answer (s_0 hst) rfl rfl (Nat.le_of_ble_eq_true rfl) (Nat.le_of_ble_eq_true rfl) (Nat.le_refl _) H ?_
              intro r12 h11 H
              exact ev_retI dX10_seen_75 rfl H
            · have H := H.2 cd
              refine ev_aload_n 56 rfl dX10_seen_55 rfl rfl ?_
              refine ev_iconst 57 rfl dX10_seen_56 (by decide) ?_
              refine ev_cVI (As := [(0, 5)]) (rest := []) 60 rfl dX10_seen_57 lm_10_124 mm_X10_none (s_0 hst) rfl rfl (Nat.le_of_ble_eq_true rfl) (Nat.le_of_ble_eq_true rfl) (Nat.le_refl _) H ?_
              intro r14 h13 H
              exact ev_retI dX10_seen_60 rfl H
    · have H := H.2 cd
      refine ev_aload_n 29 rfl dX10_seen_28 rfl rfl ?_
      refine ev_iconst 30 rfl dX10_seen_29 (by decide) ?_
      refine ev_cVI (As := [(0, 2)]) (rest := []) 33 rfl dX10_seen_30 lm_10_124 mm_X10_none (s_0 hst) rfl rfl (Nat.le_of_ble_eq_true rfl) (Nat.le_of_ble_eq_true rfl) (Nat.le_refl _) H ?_
      intro r16 h15 H
      exact ev_retI dX10_seen_33 rfl H
  · have H := H.2 cd
    refine ev_aload_n 11 rfl dX10_seen_10 rfl rfl ?_
    refine ev_bipush 13 rfl dX10_seen_11 (by decide) (by decide) ?_
    refine ev_cVI (As := [(0, 8)]) (rest := []) 16 rfl dX10_seen_13 lm_10_124 mm_X10_none (s_0 hst) rfl rfl (Nat.le_of_ble_eq_true rfl) (Nat.le_of_ble_eq_true rfl) (Nat.le_refl _) H ?_
    intro r18 h17 H
    exact ev_retI dX10_seen_16 rfl H

set_option maxRecDepth 20000 in
theorem b_X10_goes {X : qX} {d : Nat} {sh : qS} {pt h : qM} {K : Int → qM → Prop} {v1 v2 v3 : Int} (hst : St sh pt)
    (H : RunI X d mX10_isTray [(0, v1)] sh pt h (fun r2 h1 => ((¬ r2 = 0 → (0 ≤ v1 ∧ v1 < 4) ∧ ((¬ (h1 (70 + 2 * v1) 1) = 0 → ((v2 < 1 → RunI X d mX10_none [(2, 0), (0, 5)] sh pt h1 (fun r5 h4 => K r5 h4)) ∧ (1 ≤ v2 → ((6 < v2 → RunI X d mX10_none [(2, 0), (0, 5)] sh pt h1 (fun r7 h6 => K r7 h6)) ∧ (v2 ≤ 6 → (((h1 2 3) < v2 → RunI X d mX10_none [(2, 0), (0, 5)] sh pt h1 (fun r9 h8 => K r9 h8)) ∧ (v2 ≤ (h1 2 3) → ((v3 < 1 → RunI X d mX10_none [(2, 0), (0, 5)] sh pt h1 (fun r11 h10 => K r11 h10)) ∧ (1 ≤ v3 → ((v3 ≤ 40 → (qI (2 * v2)) ∧ RunI X d mX8_hasRange [(2, (70 + 2 * v1)), (0, 0), (0, (2 * v2))] sh pt h1 (fun r13 h12 => ((¬ r13 = 0 → RunI X d mX3_takeSpots [(2, 19), (2, (70 + 2 * v1)), (0, v2)] sh pt h12 (fun r15 h14 => ((¬ r15 = 0 → RunI X d mX3_search [(2, 19), (2, 2), (0, v2), (0, v3)] sh pt h14 (fun r17 h16 => ((¬ r17 = 0 → RunI X d mX10_answer [(2, 0), (0, (h16 19 1))] sh pt h16 (fun r19 h18 => K r19 h18)) ∧ (r17 = 0 → RunI X d mX10_none [(2, 0), (0, 8)] sh pt h16 (fun r21 h20 => K r21 h20))))) ∧ (r15 = 0 → RunI X d mX10_none [(2, 0), (0, 5)] sh pt h14 (fun r23 h22 => K r23 h22))))) ∧ (r13 = 0 → RunI X d mX10_none [(2, 0), (0, 4)] sh pt h12 (fun r25 h24 => K r25 h24))))) ∧ (40 < v3 → RunI X d mX10_none [(2, 0), (0, 5)] sh pt h1 (fun r27 h26 => K r27 h26)))))))))))) ∧ ((h1 (70 + 2 * v1) 1) = 0 → RunI X d mX10_none [(2, 0), (0, 3)] sh pt h1 (fun r29 h28 => K r29 h28)))) ∧ (r2 = 0 → RunI X d mX10_none [(2, 0), (0, 1)] sh pt h1 (fun r31 h30 => K r31 h30))))) :
    RunI X (d + 1) mX10_goes [(2, 0), (0, v1), (0, v2), (0, v3)] sh pt h K := by
  show Ev X (d + 1) 0 0 mX10_goes 0 [(2, 0), (0, v1), (0, v2), (0, v3), (8, -1)] [] (sh, pt, h) (qRI sh pt K)
  refine ev_iload_n 1 rfl dX10_goes_0 rfl rfl ?_
  refine ev_cSI (As := [(0, v1)]) (rest := []) 4 rfl dX10_goes_1 lm_10_101 mm_X10_isTray rfl rfl (Nat.le_of_ble_eq_true rfl) (Nat.le_of_ble_eq_true rfl) (Nat.le_refl _) H ?_
  intro r2 h1 H
  refine ev_if_ne (tgt := 13) 7 rfl dX10_goes_4 (by decide) (fun cd => ?_) (fun cd => ?_)
  · have H := H.1 cd
    refine ev_aload_n 14 rfl dX10_goes_13 rfl rfl ?_
    refine ev_getR (ki := 0) (v := 1) 17 rfl dX10_goes_14 lf_10_11 (s_0 hst) (by decide) rfl (p_0_0 hst) ?_
    refine ev_iload_n 18 rfl dX10_goes_17 rfl rfl ?_
    obtain ⟨b3, H⟩ := H
    refine ev_aaload 19 rfl dX10_goes_18 (s_1 hst) b3.1 b3.2 (pW_at hst b3.1 b3.2) ?_
    refine ev_astore (L1 := [(2, 0), (0, v1), (0, v2), (0, v3), (2, (70 + 2 * v1))]) 21 rfl dX10_goes_19 (Nat.le_of_ble_eq_true rfl) rfl ?_
    refine ev_aload 23 rfl dX10_goes_21 rfl ?_
    refine ev_getI (ki := 1) 26 rfl dX10_goes_23 lf_10_132 (Or.inr rfl) (sW hst (isW_of b3.1 b3.2)) (by decide) rfl ?_
    refine ev_if_ne (tgt := 35) 29 rfl dX10_goes_26 (by decide) (fun cd => ?_) (fun cd => ?_)
    · have H := H.1 cd
      refine ev_iload_n 36 rfl dX10_goes_35 rfl rfl ?_
      refine ev_iconst 37 rfl dX10_goes_36 (by decide) ?_
      refine ev_icmp_lt (tgt := 68) 40 rfl dX10_goes_37 (by decide) (fun cd => ?_) (fun cd => ?_)
      · have H := H.1 cd
        refine ev_aload_n 69 rfl dX10_goes_68 rfl rfl ?_
        refine ev_iconst 70 rfl dX10_goes_69 (by decide) ?_
        refine ev_cVI (As := [(0, 5)]) (rest := []) 73 rfl dX10_goes_70 lm_10_124 mm_X10_none (s_0 hst) rfl rfl (Nat.le_of_ble_eq_true rfl) (Nat.le_of_ble_eq_true rfl) (Nat.le_refl _) H ?_
        intro r5 h4 H
        exact ev_retI dX10_goes_73 rfl H
      · have H := H.2 cd
        refine ev_iload_n 41 rfl dX10_goes_40 rfl rfl ?_
        refine ev_bipush 43 rfl dX10_goes_41 (by decide) (by decide) ?_
        refine ev_icmp_gt (tgt := 68) 46 rfl dX10_goes_43 (by decide) (fun cd => ?_) (fun cd => ?_)
        · have H := H.1 cd
          refine ev_aload_n 69 rfl dX10_goes_68 rfl rfl ?_
          refine ev_iconst 70 rfl dX10_goes_69 (by decide) ?_
          refine ev_cVI (As := [(0, 5)]) (rest := []) 73 rfl dX10_goes_70 lm_10_124 mm_X10_none (s_0 hst) rfl rfl (Nat.le_of_ble_eq_true rfl) (Nat.le_of_ble_eq_true rfl) (Nat.le_refl _) H ?_
          intro r7 h6 H
          exact ev_retI dX10_goes_73 rfl H
        · have H := H.2 cd
          refine ev_iload_n 47 rfl dX10_goes_46 rfl rfl ?_
          refine ev_aload_n 48 rfl dX10_goes_47 rfl rfl ?_
          refine ev_getR (ki := 1) (v := 2) 51 rfl dX10_goes_48 lf_10_18 (s_0 hst) (by decide) rfl (p_0_1 hst) ?_
          refine ev_getI (ki := 3) 54 rfl dX10_goes_51 lf_10_155 (Or.inl rfl) (s_2 hst) (by decide) rfl ?_
          refine ev_icmp_gt (tgt := 68) 57 rfl dX10_goes_54 (by decide) (fun cd => ?_) (fun cd => ?_)
          · have H := H.1 cd
            refine ev_aload_n 69 rfl dX10_goes_68 rfl rfl ?_
            refine ev_iconst 70 rfl dX10_goes_69 (by decide) ?_
            refine ev_cVI (As := [(0, 5)]) (rest := []) 73 rfl dX10_goes_70 lm_10_124 mm_X10_none (s_0 hst) rfl rfl (Nat.le_of_ble_eq_true rfl) (Nat.le_of_ble_eq_true rfl) (Nat.le_refl _) H ?_
            intro r9 h8 H
            exact ev_retI dX10_goes_73 rfl H
          · have H := H.2 cd
            refine ev_iload_n 58 rfl dX10_goes_57 rfl rfl ?_
            refine ev_iconst 59 rfl dX10_goes_58 (by decide) ?_
            refine ev_icmp_lt (tgt := 68) 62 rfl dX10_goes_59 (by decide) (fun cd => ?_) (fun cd => ?_)
            · have H := H.1 cd
              refine ev_aload_n 69 rfl dX10_goes_68 rfl rfl ?_
              refine ev_iconst 70 rfl dX10_goes_69 (by decide) ?_
              refine ev_cVI (As := [(0, 5)]) (rest := []) 73 rfl dX10_goes_70 lm_10_124 mm_X10_none (s_0 hst) rfl rfl (Nat.le_of_ble_eq_true rfl) (Nat.le_of_ble_eq_true rfl) (Nat.le_refl _) H ?_
              intro r11 h10 H
              exact ev_retI dX10_goes_73 rfl H
            · have H := H.2 cd
              refine ev_iload_n 63 rfl dX10_goes_62 rfl rfl ?_
              refine ev_bipush 65 rfl dX10_goes_63 (by decide) (by decide) ?_
              refine ev_icmp_le (tgt := 74) 68 rfl dX10_goes_65 (by decide) (fun cd => ?_) (fun cd => ?_)
              · have H := H.1 cd
                refine ev_aload 76 rfl dX10_goes_74 rfl ?_
                refine ev_iconst 77 rfl dX10_goes_76 (by decide) ?_
                refine ev_iconst 78 rfl dX10_goes_77 (by decide) ?_
                refine ev_iload_n 79 rfl dX10_goes_78 rfl rfl ?_
                obtain ⟨sd, H⟩ := H
                refine ev_imul 80 rfl dX10_goes_79 sd ?_
                refine ev_cVI (As := [(0, 0), (0, (2 * v2))]) (rest := []) 83 rfl dX10_goes_80 lm_10_139 mm_X8_hasRange (sW hst (isW_of b3.1 b3.2)) rfl rfl (Nat.le_of_ble_eq_true rfl) (Nat.le_of_ble_eq_true rfl) (Nat.le_refl _) H ?_
                intro r13 h12 H
                refine ev_if_ne (tgt := 92) 86 rfl dX10_goes_83 (by decide) (fun cd => ?_) (fun cd => ?_)
                · have H := H.1 cd
                  refine ev_aload_n 93 rfl dX10_goes_92 rfl rfl ?_
                  refine ev_getR (ki := 4) (v := 19) 96 rfl dX10_goes_93 lf_10_39 (s_0 hst) (by decide) rfl (p_0_4 hst) ?_
                  refine ev_aload 98 rfl dX10_goes_96 rfl ?_
                  refine ev_iload_n 99 rfl dX10_goes_98 rfl rfl ?_
                  refine ev_cVI (As := [(2, (70 + 2 * v1)), (0, v2)]) (rest := []) 102 rfl dX10_goes_99 lm_10_289 mm_X3_takeSpots (s_19 hst) rfl rfl (Nat.le_of_ble_eq_true rfl) (Nat.le_of_ble_eq_true rfl) (Nat.le_refl _) H ?_
                  intro r15 h14 H
                  refine ev_if_ne (tgt := 111) 105 rfl dX10_goes_102 (by decide) (fun cd => ?_) (fun cd => ?_)
                  · have H := H.1 cd
                    refine ev_aload_n 112 rfl dX10_goes_111 rfl rfl ?_
                    refine ev_getR (ki := 4) (v := 19) 115 rfl dX10_goes_112 lf_10_39 (s_0 hst) (by decide) rfl (p_0_4 hst) ?_
                    refine ev_aload_n 116 rfl dX10_goes_115 rfl rfl ?_
                    refine ev_getR (ki := 1) (v := 2) 119 rfl dX10_goes_116 lf_10_18 (s_0 hst) (by decide) rfl (p_0_1 hst) ?_
                    refine ev_iload_n 120 rfl dX10_goes_119 rfl rfl ?_
                    refine ev_iload_n 121 rfl dX10_goes_120 rfl rfl ?_
                    refine ev_cVI (As := [(2, 2), (0, v2), (0, v3)]) (rest := []) 124 rfl dX10_goes_121 lm_10_293 mm_X3_search (s_19 hst) rfl rfl (Nat.le_of_ble_eq_true rfl) (Nat.le_of_ble_eq_true rfl) (Nat.le_refl _) H ?_
                    intro r17 h16 H
                    refine ev_if_ne (tgt := 134) 127 rfl dX10_goes_124 (by decide) (fun cd => ?_) (fun cd => ?_)
                    · have H := H.1 cd
                      refine ev_aload_n 135 rfl dX10_goes_134 rfl rfl ?_
                      refine ev_aload_n 136 rfl dX10_goes_135 rfl rfl ?_
                      refine ev_getR (ki := 4) (v := 19) 139 rfl dX10_goes_136 lf_10_39 (s_0 hst) (by decide) rfl (p_0_4 hst) ?_
                      refine ev_getI (ki := 1) 142 rfl dX10_goes_139 lf_10_297 (Or.inl rfl) (s_19 hst) (by decide) rfl ?_
                      refine ev_cVI (As := [(0, (h16 19 1))]) (rest := []) 145 rfl dX10_goes_142 lm_10_162 mm_X10_answer (s_0 hst) rfl rfl (Nat.le_of_ble_eq_true rfl) (Nat.le_of_ble_eq_true rfl) (Nat.le_refl _) H ?_
                      intro r19 h18 H
                      exact ev_retI dX10_goes_145 rfl H
                    · have H := H.2 cd
                      refine ev_aload_n 128 rfl dX10_goes_127 rfl rfl ?_
                      refine ev_bipush 130 rfl dX10_goes_128 (by decide) (by decide) ?_
                      refine ev_cVI (As := [(0, 8)]) (rest := []) 133 rfl dX10_goes_130 lm_10_124 mm_X10_none (s_0 hst) rfl rfl (Nat.le_of_ble_eq_true rfl) (Nat.le_of_ble_eq_true rfl) (Nat.le_refl _) H ?_
                      intro r21 h20 H
                      exact ev_retI dX10_goes_133 rfl H
                  · have H := H.2 cd
                    refine ev_aload_n 106 rfl dX10_goes_105 rfl rfl ?_
                    refine ev_iconst 107 rfl dX10_goes_106 (by decide) ?_
                    refine ev_cVI (As := [(0, 5)]) (rest := []) 110 rfl dX10_goes_107 lm_10_124 mm_X10_none (s_0 hst) rfl rfl (Nat.le_of_ble_eq_true rfl) (Nat.le_of_ble_eq_true rfl) (Nat.le_refl _) H ?_
                    intro r23 h22 H
                    exact ev_retI dX10_goes_110 rfl H
                · have H := H.2 cd
                  refine ev_aload_n 87 rfl dX10_goes_86 rfl rfl ?_
                  refine ev_iconst 88 rfl dX10_goes_87 (by decide) ?_
                  refine ev_cVI (As := [(0, 4)]) (rest := []) 91 rfl dX10_goes_88 lm_10_124 mm_X10_none (s_0 hst) rfl rfl (Nat.le_of_ble_eq_true rfl) (Nat.le_of_ble_eq_true rfl) (Nat.le_refl _) H ?_
                  intro r25 h24 H
                  exact ev_retI dX10_goes_91 rfl H
              · have H := H.2 cd
                refine ev_aload_n 69 rfl dX10_goes_68 rfl rfl ?_
                refine ev_iconst 70 rfl dX10_goes_69 (by decide) ?_
                refine ev_cVI (As := [(0, 5)]) (rest := []) 73 rfl dX10_goes_70 lm_10_124 mm_X10_none (s_0 hst) rfl rfl (Nat.le_of_ble_eq_true rfl) (Nat.le_of_ble_eq_true rfl) (Nat.le_refl _) H ?_
                intro r27 h26 H
                exact ev_retI dX10_goes_73 rfl H
    · have H := H.2 cd
      refine ev_aload_n 30 rfl dX10_goes_29 rfl rfl ?_
      refine ev_iconst 31 rfl dX10_goes_30 (by decide) ?_
      refine ev_cVI (As := [(0, 3)]) (rest := []) 34 rfl dX10_goes_31 lm_10_124 mm_X10_none (s_0 hst) rfl rfl (Nat.le_of_ble_eq_true rfl) (Nat.le_of_ble_eq_true rfl) (Nat.le_refl _) H ?_
      intro r29 h28 H
      exact ev_retI dX10_goes_34 rfl H
  · have H := H.2 cd
    refine ev_aload_n 8 rfl dX10_goes_7 rfl rfl ?_
    refine ev_iconst 9 rfl dX10_goes_8 (by decide) ?_
    refine ev_cVI (As := [(0, 1)]) (rest := []) 12 rfl dX10_goes_9 lm_10_124 mm_X10_none (s_0 hst) rfl rfl (Nat.le_of_ble_eq_true rfl) (Nat.le_of_ble_eq_true rfl) (Nat.le_refl _) H ?_
    intro r31 h30 H
    exact ev_retI dX10_goes_12 rfl H

set_option maxRecDepth 20000 in
theorem b_X10_spotOf {X : qX} {d : Nat} {sh : qS} {pt h : qM} {K : Int → qM → Prop} {v1 : Int} (hst : St sh pt)
    (H : ((v1 < (-1) → RunI X d mX10_none [(2, 0), (0, 8)] sh pt h (fun r2 h1 => K r2 h1)) ∧ ((-1) ≤ v1 → (((h 19 0) ≤ v1 → RunI X d mX10_none [(2, 0), (0, 8)] sh pt h (fun r4 h3 => K r4 h3)) ∧ (v1 < (h 19 0) → ((¬ (h 19 0) = 0 → ((¬ v1 = (-1) → (0 ≤ v1 ∧ v1 < 6) ∧ RunI X d mX10_answer [(2, 0), (0, (h 20 v1))] sh pt h (fun r7 h6 => K r7 h6)) ∧ (v1 = (-1) → RunI X d mX10_answer [(2, 0), (0, (h 19 2))] sh pt h (fun r9 h8 => K r9 h8)))) ∧ ((h 19 0) = 0 → RunI X d mX10_none [(2, 0), (0, 8)] sh pt h (fun r11 h10 => K r11 h10)))))))) :
    RunI X (d + 1) mX10_spotOf [(2, 0), (0, v1)] sh pt h K := by
  show Ev X (d + 1) 0 0 mX10_spotOf 0 [(2, 0), (0, v1)] [] (sh, pt, h) (qRI sh pt K)
  refine ev_iload_n 1 rfl dX10_spotOf_0 rfl rfl ?_
  refine ev_iconst 2 rfl dX10_spotOf_1 (by decide) ?_
  refine ev_icmp_lt (tgt := 26) 5 rfl dX10_spotOf_2 (by decide) (fun cd => ?_) (fun cd => ?_)
  · have H := H.1 cd
    refine ev_aload_n 27 rfl dX10_spotOf_26 rfl rfl ?_
    refine ev_bipush 29 rfl dX10_spotOf_27 (by decide) (by decide) ?_
    refine ev_cVI (As := [(0, 8)]) (rest := []) 32 rfl dX10_spotOf_29 lm_10_124 mm_X10_none (s_0 hst) rfl rfl (Nat.le_of_ble_eq_true rfl) (Nat.le_of_ble_eq_true rfl) (Nat.le_refl _) H ?_
    intro r2 h1 H
    exact ev_retI dX10_spotOf_32 rfl H
  · have H := H.2 cd
    refine ev_iload_n 6 rfl dX10_spotOf_5 rfl rfl ?_
    refine ev_aload_n 7 rfl dX10_spotOf_6 rfl rfl ?_
    refine ev_getR (ki := 4) (v := 19) 10 rfl dX10_spotOf_7 lf_10_39 (s_0 hst) (by decide) rfl (p_0_4 hst) ?_
    refine ev_getI (ki := 0) 13 rfl dX10_spotOf_10 lf_10_300 (Or.inl rfl) (s_19 hst) (by decide) rfl ?_
    refine ev_icmp_ge (tgt := 26) 16 rfl dX10_spotOf_13 (by decide) (fun cd => ?_) (fun cd => ?_)
    · have H := H.1 cd
      refine ev_aload_n 27 rfl dX10_spotOf_26 rfl rfl ?_
      refine ev_bipush 29 rfl dX10_spotOf_27 (by decide) (by decide) ?_
      refine ev_cVI (As := [(0, 8)]) (rest := []) 32 rfl dX10_spotOf_29 lm_10_124 mm_X10_none (s_0 hst) rfl rfl (Nat.le_of_ble_eq_true rfl) (Nat.le_of_ble_eq_true rfl) (Nat.le_refl _) H ?_
      intro r4 h3 H
      exact ev_retI dX10_spotOf_32 rfl H
    · have H := H.2 cd
      refine ev_aload_n 17 rfl dX10_spotOf_16 rfl rfl ?_
      refine ev_getR (ki := 4) (v := 19) 20 rfl dX10_spotOf_17 lf_10_39 (s_0 hst) (by decide) rfl (p_0_4 hst) ?_
      refine ev_getI (ki := 0) 23 rfl dX10_spotOf_20 lf_10_300 (Or.inl rfl) (s_19 hst) (by decide) rfl ?_
      refine ev_if_ne (tgt := 33) 26 rfl dX10_spotOf_23 (by decide) (fun cd => ?_) (fun cd => ?_)
      · have H := H.1 cd
        refine ev_aload_n 34 rfl dX10_spotOf_33 rfl rfl ?_
        refine ev_iload_n 35 rfl dX10_spotOf_34 rfl rfl ?_
        refine ev_iconst 36 rfl dX10_spotOf_35 (by decide) ?_
        refine ev_icmp_ne (tgt := 49) 39 rfl dX10_spotOf_36 (by decide) (fun cd => ?_) (fun cd => ?_)
        · have H := H.1 cd
          refine ev_aload_n 50 rfl dX10_spotOf_49 rfl rfl ?_
          refine ev_getR (ki := 4) (v := 19) 53 rfl dX10_spotOf_50 lf_10_39 (s_0 hst) (by decide) rfl (p_0_4 hst) ?_
          refine ev_getR (ki := 3) (v := 20) 56 rfl dX10_spotOf_53 lf_10_306 (s_19 hst) (by decide) rfl (p_19_3 hst) ?_
          refine ev_iload_n 57 rfl dX10_spotOf_56 rfl rfl ?_
          obtain ⟨b5, H⟩ := H
          refine ev_iaload 58 rfl dX10_spotOf_57 (s_20 hst) b5.1 b5.2 ?_
          refine ev_cVI (As := [(0, (h 20 v1))]) (rest := []) 61 rfl dX10_spotOf_58 lm_10_162 mm_X10_answer (s_0 hst) rfl rfl (Nat.le_of_ble_eq_true rfl) (Nat.le_of_ble_eq_true rfl) (Nat.le_refl _) H ?_
          intro r7 h6 H
          exact ev_retI dX10_spotOf_61 rfl H
        · have H := H.2 cd
          refine ev_aload_n 40 rfl dX10_spotOf_39 rfl rfl ?_
          refine ev_getR (ki := 4) (v := 19) 43 rfl dX10_spotOf_40 lf_10_39 (s_0 hst) (by decide) rfl (p_0_4 hst) ?_
          refine ev_getI (ki := 2) 46 rfl dX10_spotOf_43 lf_10_303 (Or.inl rfl) (s_19 hst) (by decide) rfl ?_
          refine ev_goto (tgt := 58) dX10_spotOf_46 (by decide) ?_
          refine ev_cVI (As := [(0, (h 19 2))]) (rest := []) 61 rfl dX10_spotOf_58 lm_10_162 mm_X10_answer (s_0 hst) rfl rfl (Nat.le_of_ble_eq_true rfl) (Nat.le_of_ble_eq_true rfl) (Nat.le_refl _) H ?_
          intro r9 h8 H
          exact ev_retI dX10_spotOf_61 rfl H
      · have H := H.2 cd
        refine ev_aload_n 27 rfl dX10_spotOf_26 rfl rfl ?_
        refine ev_bipush 29 rfl dX10_spotOf_27 (by decide) (by decide) ?_
        refine ev_cVI (As := [(0, 8)]) (rest := []) 32 rfl dX10_spotOf_29 lm_10_124 mm_X10_none (s_0 hst) rfl rfl (Nat.le_of_ble_eq_true rfl) (Nat.le_of_ble_eq_true rfl) (Nat.le_refl _) H ?_
        intro r11 h10 H
        exact ev_retI dX10_spotOf_32 rfl H

set_option maxRecDepth 20000 in
theorem b_X10_move {X : qX} {d : Nat} {sh : qS} {pt h : qM} {K : Int → qM → Prop} {v1 : Int} (hst : St sh pt)
    (H : RunI X d mX9_moveAt [(2, 28), (0, v1)] sh pt h (fun r2 h1 => ((¬ r2 = (-1) → RunI X d mX10_answer [(2, 0), (0, r2)] sh pt h1 (fun r4 h3 => K r4 h3)) ∧ (r2 = (-1) → RunI X d mX10_none [(2, 0), (0, 8)] sh pt h1 (fun r6 h5 => K r6 h5))))) :
    RunI X (d + 1) mX10_move [(2, 0), (0, v1)] sh pt h K := by
  show Ev X (d + 1) 0 0 mX10_move 0 [(2, 0), (0, v1), (8, -1)] [] (sh, pt, h) (qRI sh pt K)
  refine ev_aload_n 1 rfl dX10_move_0 rfl rfl ?_
  refine ev_getR (ki := 5) (v := 28) 4 rfl dX10_move_1 lf_10_46 (s_0 hst) (by decide) rfl (p_0_5 hst) ?_
  refine ev_iload_n 5 rfl dX10_move_4 rfl rfl ?_
  refine ev_cVI (As := [(0, v1)]) (rest := []) 8 rfl dX10_move_5 lm_10_317 mm_X9_moveAt (s_28 hst) rfl rfl (Nat.le_of_ble_eq_true rfl) (Nat.le_of_ble_eq_true rfl) (Nat.le_refl _) H ?_
  intro r2 h1 H
  refine ev_istore_n (L1 := [(2, 0), (0, v1), (0, r2)]) 9 rfl dX10_move_8 rfl (Nat.le_of_ble_eq_true rfl) rfl ?_
  refine ev_iload_n 10 rfl dX10_move_9 rfl rfl ?_
  refine ev_iconst 11 rfl dX10_move_10 (by decide) ?_
  refine ev_icmp_ne (tgt := 23) 14 rfl dX10_move_11 (by decide) (fun cd => ?_) (fun cd => ?_)
  · have H := H.1 cd
    refine ev_aload_n 24 rfl dX10_move_23 rfl rfl ?_
    refine ev_iload_n 25 rfl dX10_move_24 rfl rfl ?_
    refine ev_cVI (As := [(0, r2)]) (rest := []) 28 rfl dX10_move_25 lm_10_162 mm_X10_answer (s_0 hst) rfl rfl (Nat.le_of_ble_eq_true rfl) (Nat.le_of_ble_eq_true rfl) (Nat.le_refl _) H ?_
    intro r4 h3 H
    exact ev_retI dX10_move_28 rfl H
  · have H := H.2 cd
    refine ev_aload_n 15 rfl dX10_move_14 rfl rfl ?_
    refine ev_bipush 17 rfl dX10_move_15 (by decide) (by decide) ?_
    refine ev_cVI (As := [(0, 8)]) (rest := []) 20 rfl dX10_move_17 lm_10_124 mm_X10_none (s_0 hst) rfl rfl (Nat.le_of_ble_eq_true rfl) (Nat.le_of_ble_eq_true rfl) (Nat.le_refl _) H ?_
    intro r6 h5 H
    refine ev_goto (tgt := 28) dX10_move_20 (by decide) ?_
    exact ev_retI dX10_move_28 rfl H

set_option maxRecDepth 20000 in
theorem b_X10_person {X : qX} {d : Nat} {sh : qS} {pt h : qM} {K : Int → qM → Prop} {v1 : Int} (hst : St sh pt)
    (H : RunI X d mX2_isSet [(2, 2), (0, v1)] sh pt h (fun r2 h1 => ((¬ r2 = 0 → (((h1 30 0) < 16 → RunI X d mX5_addPerson [(2, 30), (0, v1)] sh pt h1 (fun r4 h3 => RunI X d mX10_answer [(2, 0), (0, r4)] sh pt h3 (fun r6 h5 => K r6 h5))) ∧ (16 ≤ (h1 30 0) → RunI X d mX10_none [(2, 0), (0, 7)] sh pt h1 (fun r8 h7 => K r8 h7)))) ∧ (r2 = 0 → RunI X d mX10_none [(2, 0), (0, 5)] sh pt h1 (fun r10 h9 => K r10 h9))))) :
    RunI X (d + 1) mX10_person [(2, 0), (0, v1)] sh pt h K := by
  show Ev X (d + 1) 0 0 mX10_person 0 [(2, 0), (0, v1)] [] (sh, pt, h) (qRI sh pt K)
  refine ev_aload_n 1 rfl dX10_person_0 rfl rfl ?_
  refine ev_getR (ki := 1) (v := 2) 4 rfl dX10_person_1 lf_10_18 (s_0 hst) (by decide) rfl (p_0_1 hst) ?_
  refine ev_iload_n 5 rfl dX10_person_4 rfl rfl ?_
  refine ev_cVI (As := [(0, v1)]) (rest := []) 8 rfl dX10_person_5 lm_10_178 mm_X2_isSet (s_2 hst) rfl rfl (Nat.le_of_ble_eq_true rfl) (Nat.le_of_ble_eq_true rfl) (Nat.le_refl _) H ?_
  intro r2 h1 H
  refine ev_if_ne (tgt := 17) 11 rfl dX10_person_8 (by decide) (fun cd => ?_) (fun cd => ?_)
  · have H := H.1 cd
    refine ev_aload_n 18 rfl dX10_person_17 rfl rfl ?_
    refine ev_getR (ki := 6) (v := 30) 21 rfl dX10_person_18 lf_10_53 (s_0 hst) (by decide) rfl (p_0_6 hst) ?_
    refine ev_getI (ki := 0) 24 rfl dX10_person_21 lf_10_320 (Or.inl rfl) (s_30 hst) (by decide) rfl ?_
    refine ev_bipush 26 rfl dX10_person_24 (by decide) (by decide) ?_
    refine ev_icmp_lt (tgt := 36) 29 rfl dX10_person_26 (by decide) (fun cd => ?_) (fun cd => ?_)
    · have H := H.1 cd
      refine ev_aload_n 37 rfl dX10_person_36 rfl rfl ?_
      refine ev_aload_n 38 rfl dX10_person_37 rfl rfl ?_
      refine ev_getR (ki := 6) (v := 30) 41 rfl dX10_person_38 lf_10_53 (s_0 hst) (by decide) rfl (p_0_6 hst) ?_
      refine ev_iload_n 42 rfl dX10_person_41 rfl rfl ?_
      refine ev_cVI (As := [(0, v1)]) (rest := [(2, 0)]) 45 rfl dX10_person_42 lm_10_323 mm_X5_addPerson (s_30 hst) rfl rfl (Nat.le_of_ble_eq_true rfl) (Nat.le_of_ble_eq_true rfl) (Nat.le_refl _) H ?_
      intro r4 h3 H
      refine ev_cVI (As := [(0, r4)]) (rest := []) 48 rfl dX10_person_45 lm_10_162 mm_X10_answer (s_0 hst) rfl rfl (Nat.le_of_ble_eq_true rfl) (Nat.le_of_ble_eq_true rfl) (Nat.le_refl _) H ?_
      intro r6 h5 H
      exact ev_retI dX10_person_48 rfl H
    · have H := H.2 cd
      refine ev_aload_n 30 rfl dX10_person_29 rfl rfl ?_
      refine ev_bipush 32 rfl dX10_person_30 (by decide) (by decide) ?_
      refine ev_cVI (As := [(0, 7)]) (rest := []) 35 rfl dX10_person_32 lm_10_124 mm_X10_none (s_0 hst) rfl rfl (Nat.le_of_ble_eq_true rfl) (Nat.le_of_ble_eq_true rfl) (Nat.le_refl _) H ?_
      intro r8 h7 H
      exact ev_retI dX10_person_35 rfl H
  · have H := H.2 cd
    refine ev_aload_n 12 rfl dX10_person_11 rfl rfl ?_
    refine ev_iconst 13 rfl dX10_person_12 (by decide) ?_
    refine ev_cVI (As := [(0, 5)]) (rest := []) 16 rfl dX10_person_13 lm_10_124 mm_X10_none (s_0 hst) rfl rfl (Nat.le_of_ble_eq_true rfl) (Nat.le_of_ble_eq_true rfl) (Nat.le_refl _) H ?_
    intro r10 h9 H
    exact ev_retI dX10_person_16 rfl H

set_option maxRecDepth 20000 in
theorem b_X10_away {X : qX} {d : Nat} {sh : qS} {pt h : qM} {K : Int → qM → Prop} {v1 v2 v3 v4 : Int} (hst : St sh pt)
    (H : ((v1 < 0 → RunI X d mX10_refuse [(2, 0), (0, 2)] sh pt h (fun r2 h1 => (0 ≤ r2 ∧ r2 ≤ 1) ∧ K r2 h1)) ∧ (0 ≤ v1 → ((v1 < (h 30 0) → RunI X d mX10_isDay [(0, v2)] sh pt h (fun r4 h3 => ((r4 = 0 → RunI X d mX10_refuse [(2, 0), (0, 5)] sh pt h3 (fun r6 h5 => (0 ≤ r6 ∧ r6 ≤ 1) ∧ K r6 h5)) ∧ (¬ r4 = 0 → RunI X d mX10_isDay [(0, v3)] sh pt h3 (fun r8 h7 => ((r8 = 0 → RunI X d mX10_refuse [(2, 0), (0, 5)] sh pt h7 (fun r10 h9 => (0 ≤ r10 ∧ r10 ≤ 1) ∧ K r10 h9)) ∧ (¬ r8 = 0 → RunI X d mX10_isDay [(0, v4)] sh pt h7 (fun r12 h11 => ((r12 = 0 → RunI X d mX10_refuse [(2, 0), (0, 5)] sh pt h11 (fun r14 h13 => (0 ≤ r14 ∧ r14 ≤ 1) ∧ K r14 h13)) ∧ (¬ r12 = 0 → ((v2 ≤ v3 → (((h11 30 1) < 60 → (((h11 30 2) ≤ v4 → RunV X d mX5_addAway [(2, 30), (0, v1), (0, v2), (0, v3), (0, v4)] sh pt h11 (fun h15 => RunI X d mX10_agree [(2, 0)] sh pt h15 (fun r17 h16 => (0 ≤ r17 ∧ r17 ≤ 1) ∧ K r17 h16))) ∧ (v4 < (h11 30 2) → RunI X d mX10_refuse [(2, 0), (0, 12)] sh pt h11 (fun r19 h18 => (0 ≤ r19 ∧ r19 ≤ 1) ∧ K r19 h18)))) ∧ (60 ≤ (h11 30 1) → RunI X d mX10_refuse [(2, 0), (0, 7)] sh pt h11 (fun r21 h20 => (0 ≤ r21 ∧ r21 ≤ 1) ∧ K r21 h20)))) ∧ (v3 < v2 → RunI X d mX10_refuse [(2, 0), (0, 5)] sh pt h11 (fun r23 h22 => (0 ≤ r23 ∧ r23 ≤ 1) ∧ K r23 h22))))))))))))) ∧ ((h 30 0) ≤ v1 → RunI X d mX10_refuse [(2, 0), (0, 2)] sh pt h (fun r25 h24 => (0 ≤ r25 ∧ r25 ≤ 1) ∧ K r25 h24)))))) :
    RunI X (d + 1) mX10_away [(2, 0), (0, v1), (0, v2), (0, v3), (0, v4)] sh pt h K := by
  show Ev X (d + 1) 0 0 mX10_away 0 [(2, 0), (0, v1), (0, v2), (0, v3), (0, v4)] [] (sh, pt, h) (qRI sh pt K)
  refine ev_iload_n 1 rfl dX10_away_0 rfl rfl ?_
  refine ev_if_lt (tgt := 15) 4 rfl dX10_away_1 (by decide) (fun cd => ?_) (fun cd => ?_)
  · have H := H.1 cd
    refine ev_aload_n 16 rfl dX10_away_15 rfl rfl ?_
    refine ev_iconst 17 rfl dX10_away_16 (by decide) ?_
    refine ev_cVI (As := [(0, 2)]) (rest := []) 20 rfl dX10_away_17 lm_10_105 mm_X10_refuse (s_0 hst) rfl rfl (Nat.le_of_ble_eq_true rfl) (Nat.le_of_ble_eq_true rfl) (Nat.le_refl _) H ?_
    intro r2 h1 H
    obtain ⟨sd, H⟩ := H
    exact ev_retZ dX10_away_20 rfl sd H
  · have H := H.2 cd
    refine ev_iload_n 5 rfl dX10_away_4 rfl rfl ?_
    refine ev_aload_n 6 rfl dX10_away_5 rfl rfl ?_
    refine ev_getR (ki := 6) (v := 30) 9 rfl dX10_away_6 lf_10_53 (s_0 hst) (by decide) rfl (p_0_6 hst) ?_
    refine ev_getI (ki := 0) 12 rfl dX10_away_9 lf_10_320 (Or.inl rfl) (s_30 hst) (by decide) rfl ?_
    refine ev_icmp_lt (tgt := 21) 15 rfl dX10_away_12 (by decide) (fun cd => ?_) (fun cd => ?_)
    · have H := H.1 cd
      refine ev_iload_n 22 rfl dX10_away_21 rfl rfl ?_
      refine ev_cSI (As := [(0, v2)]) (rest := []) 25 rfl dX10_away_22 lm_10_326 mm_X10_isDay rfl rfl (Nat.le_of_ble_eq_true rfl) (Nat.le_of_ble_eq_true rfl) (Nat.le_refl _) H ?_
      intro r4 h3 H
      refine ev_if_eq (tgt := 48) 28 rfl dX10_away_25 (by decide) (fun cd => ?_) (fun cd => ?_)
      · have H := H.1 cd
        refine ev_aload_n 49 rfl dX10_away_48 rfl rfl ?_
        refine ev_iconst 50 rfl dX10_away_49 (by decide) ?_
        refine ev_cVI (As := [(0, 5)]) (rest := []) 53 rfl dX10_away_50 lm_10_105 mm_X10_refuse (s_0 hst) rfl rfl (Nat.le_of_ble_eq_true rfl) (Nat.le_of_ble_eq_true rfl) (Nat.le_refl _) H ?_
        intro r6 h5 H
        obtain ⟨sd, H⟩ := H
        exact ev_retZ dX10_away_53 rfl sd H
      · have H := H.2 cd
        refine ev_iload_n 29 rfl dX10_away_28 rfl rfl ?_
        refine ev_cSI (As := [(0, v3)]) (rest := []) 32 rfl dX10_away_29 lm_10_326 mm_X10_isDay rfl rfl (Nat.le_of_ble_eq_true rfl) (Nat.le_of_ble_eq_true rfl) (Nat.le_refl _) H ?_
        intro r8 h7 H
        refine ev_if_eq (tgt := 48) 35 rfl dX10_away_32 (by decide) (fun cd => ?_) (fun cd => ?_)
        · have H := H.1 cd
          refine ev_aload_n 49 rfl dX10_away_48 rfl rfl ?_
          refine ev_iconst 50 rfl dX10_away_49 (by decide) ?_
          refine ev_cVI (As := [(0, 5)]) (rest := []) 53 rfl dX10_away_50 lm_10_105 mm_X10_refuse (s_0 hst) rfl rfl (Nat.le_of_ble_eq_true rfl) (Nat.le_of_ble_eq_true rfl) (Nat.le_refl _) H ?_
          intro r10 h9 H
          obtain ⟨sd, H⟩ := H
          exact ev_retZ dX10_away_53 rfl sd H
        · have H := H.2 cd
          refine ev_iload 37 rfl dX10_away_35 rfl ?_
          refine ev_cSI (As := [(0, v4)]) (rest := []) 40 rfl dX10_away_37 lm_10_326 mm_X10_isDay rfl rfl (Nat.le_of_ble_eq_true rfl) (Nat.le_of_ble_eq_true rfl) (Nat.le_refl _) H ?_
          intro r12 h11 H
          refine ev_if_eq (tgt := 48) 43 rfl dX10_away_40 (by decide) (fun cd => ?_) (fun cd => ?_)
          · have H := H.1 cd
            refine ev_aload_n 49 rfl dX10_away_48 rfl rfl ?_
            refine ev_iconst 50 rfl dX10_away_49 (by decide) ?_
            refine ev_cVI (As := [(0, 5)]) (rest := []) 53 rfl dX10_away_50 lm_10_105 mm_X10_refuse (s_0 hst) rfl rfl (Nat.le_of_ble_eq_true rfl) (Nat.le_of_ble_eq_true rfl) (Nat.le_refl _) H ?_
            intro r14 h13 H
            obtain ⟨sd, H⟩ := H
            exact ev_retZ dX10_away_53 rfl sd H
          · have H := H.2 cd
            refine ev_iload_n 44 rfl dX10_away_43 rfl rfl ?_
            refine ev_iload_n 45 rfl dX10_away_44 rfl rfl ?_
            refine ev_icmp_le (tgt := 54) 48 rfl dX10_away_45 (by decide) (fun cd => ?_) (fun cd => ?_)
            · have H := H.1 cd
              refine ev_aload_n 55 rfl dX10_away_54 rfl rfl ?_
              refine ev_getR (ki := 6) (v := 30) 58 rfl dX10_away_55 lf_10_53 (s_0 hst) (by decide) rfl (p_0_6 hst) ?_
              refine ev_getI (ki := 1) 61 rfl dX10_away_58 lf_10_329 (Or.inl rfl) (s_30 hst) (by decide) rfl ?_
              refine ev_bipush 63 rfl dX10_away_61 (by decide) (by decide) ?_
              refine ev_icmp_lt (tgt := 73) 66 rfl dX10_away_63 (by decide) (fun cd => ?_) (fun cd => ?_)
              · have H := H.1 cd
                refine ev_iload 75 rfl dX10_away_73 rfl ?_
                refine ev_aload_n 76 rfl dX10_away_75 rfl rfl ?_
                refine ev_getR (ki := 6) (v := 30) 79 rfl dX10_away_76 lf_10_53 (s_0 hst) (by decide) rfl (p_0_6 hst) ?_
                refine ev_getI (ki := 2) 82 rfl dX10_away_79 lf_10_332 (Or.inl rfl) (s_30 hst) (by decide) rfl ?_
                refine ev_icmp_ge (tgt := 92) 85 rfl dX10_away_82 (by decide) (fun cd => ?_) (fun cd => ?_)
                · have H := H.1 cd
                  refine ev_aload_n 93 rfl dX10_away_92 rfl rfl ?_
                  refine ev_getR (ki := 6) (v := 30) 96 rfl dX10_away_93 lf_10_53 (s_0 hst) (by decide) rfl (p_0_6 hst) ?_
                  refine ev_iload_n 97 rfl dX10_away_96 rfl rfl ?_
                  refine ev_iload_n 98 rfl dX10_away_97 rfl rfl ?_
                  refine ev_iload_n 99 rfl dX10_away_98 rfl rfl ?_
                  refine ev_iload 101 rfl dX10_away_99 rfl ?_
                  refine ev_cVV (As := [(0, v1), (0, v2), (0, v3), (0, v4)]) (rest := []) 104 rfl dX10_away_101 lm_10_335 mm_X5_addAway (s_30 hst) rfl rfl (Nat.le_of_ble_eq_true rfl) (Nat.le_of_ble_eq_true rfl) (Nat.le_refl _) H ?_
                  intro h15 H
                  refine ev_aload_n 105 rfl dX10_away_104 rfl rfl ?_
                  refine ev_cVI (As := []) (rest := []) 108 rfl dX10_away_105 lm_10_112 mm_X10_agree (s_0 hst) rfl rfl (Nat.le_of_ble_eq_true rfl) (Nat.le_of_ble_eq_true rfl) (Nat.le_refl _) H ?_
                  intro r17 h16 H
                  obtain ⟨sd, H⟩ := H
                  exact ev_retZ dX10_away_108 rfl sd H
                · have H := H.2 cd
                  refine ev_aload_n 86 rfl dX10_away_85 rfl rfl ?_
                  refine ev_bipush 88 rfl dX10_away_86 (by decide) (by decide) ?_
                  refine ev_cVI (As := [(0, 12)]) (rest := []) 91 rfl dX10_away_88 lm_10_105 mm_X10_refuse (s_0 hst) rfl rfl (Nat.le_of_ble_eq_true rfl) (Nat.le_of_ble_eq_true rfl) (Nat.le_refl _) H ?_
                  intro r19 h18 H
                  obtain ⟨sd, H⟩ := H
                  exact ev_retZ dX10_away_91 rfl sd H
              · have H := H.2 cd
                refine ev_aload_n 67 rfl dX10_away_66 rfl rfl ?_
                refine ev_bipush 69 rfl dX10_away_67 (by decide) (by decide) ?_
                refine ev_cVI (As := [(0, 7)]) (rest := []) 72 rfl dX10_away_69 lm_10_105 mm_X10_refuse (s_0 hst) rfl rfl (Nat.le_of_ble_eq_true rfl) (Nat.le_of_ble_eq_true rfl) (Nat.le_refl _) H ?_
                intro r21 h20 H
                obtain ⟨sd, H⟩ := H
                exact ev_retZ dX10_away_72 rfl sd H
            · have H := H.2 cd
              refine ev_aload_n 49 rfl dX10_away_48 rfl rfl ?_
              refine ev_iconst 50 rfl dX10_away_49 (by decide) ?_
              refine ev_cVI (As := [(0, 5)]) (rest := []) 53 rfl dX10_away_50 lm_10_105 mm_X10_refuse (s_0 hst) rfl rfl (Nat.le_of_ble_eq_true rfl) (Nat.le_of_ble_eq_true rfl) (Nat.le_refl _) H ?_
              intro r23 h22 H
              obtain ⟨sd, H⟩ := H
              exact ev_retZ dX10_away_53 rfl sd H
    · have H := H.2 cd
      refine ev_aload_n 16 rfl dX10_away_15 rfl rfl ?_
      refine ev_iconst 17 rfl dX10_away_16 (by decide) ?_
      refine ev_cVI (As := [(0, 2)]) (rest := []) 20 rfl dX10_away_17 lm_10_105 mm_X10_refuse (s_0 hst) rfl rfl (Nat.le_of_ble_eq_true rfl) (Nat.le_of_ble_eq_true rfl) (Nat.le_refl _) H ?_
      intro r25 h24 H
      obtain ⟨sd, H⟩ := H
      exact ev_retZ dX10_away_20 rfl sd H

set_option maxRecDepth 20000 in
theorem b_X10_filled {X : qX} {d : Nat} {sh : qS} {pt h : qM} {K : Int → qM → Prop} {v1 v2 : Int} (hst : St sh pt)
    (H : RunI X d mX10_isDay [(0, v1)] sh pt h (fun r2 h1 => ((r2 = 0 → RunI X d mX10_none [(2, 0), (0, 5)] sh pt h1 (fun r4 h3 => K r4 h3)) ∧ (¬ r2 = 0 → RunI X d mX10_isDay [(0, v2)] sh pt h1 (fun r6 h5 => ((¬ r6 = 0 → RunI X d mX5_fill [(2, 30), (0, (h5 2 3)), (0, v1), (0, v2)] sh pt h5 (fun r8 h7 => RunI X d mX10_answer [(2, 0), (0, r8)] sh pt h7 (fun r10 h9 => K r10 h9))) ∧ (r6 = 0 → RunI X d mX10_none [(2, 0), (0, 5)] sh pt h5 (fun r12 h11 => K r12 h11)))))))) :
    RunI X (d + 1) mX10_filled [(2, 0), (0, v1), (0, v2)] sh pt h K := by
  show Ev X (d + 1) 0 0 mX10_filled 0 [(2, 0), (0, v1), (0, v2)] [] (sh, pt, h) (qRI sh pt K)
  refine ev_iload_n 1 rfl dX10_filled_0 rfl rfl ?_
  refine ev_cSI (As := [(0, v1)]) (rest := []) 4 rfl dX10_filled_1 lm_10_326 mm_X10_isDay rfl rfl (Nat.le_of_ble_eq_true rfl) (Nat.le_of_ble_eq_true rfl) (Nat.le_refl _) H ?_
  intro r2 h1 H
  refine ev_if_eq (tgt := 14) 7 rfl dX10_filled_4 (by decide) (fun cd => ?_) (fun cd => ?_)
  · have H := H.1 cd
    refine ev_aload_n 15 rfl dX10_filled_14 rfl rfl ?_
    refine ev_iconst 16 rfl dX10_filled_15 (by decide) ?_
    refine ev_cVI (As := [(0, 5)]) (rest := []) 19 rfl dX10_filled_16 lm_10_124 mm_X10_none (s_0 hst) rfl rfl (Nat.le_of_ble_eq_true rfl) (Nat.le_of_ble_eq_true rfl) (Nat.le_refl _) H ?_
    intro r4 h3 H
    exact ev_retI dX10_filled_19 rfl H
  · have H := H.2 cd
    refine ev_iload_n 8 rfl dX10_filled_7 rfl rfl ?_
    refine ev_cSI (As := [(0, v2)]) (rest := []) 11 rfl dX10_filled_8 lm_10_326 mm_X10_isDay rfl rfl (Nat.le_of_ble_eq_true rfl) (Nat.le_of_ble_eq_true rfl) (Nat.le_refl _) H ?_
    intro r6 h5 H
    refine ev_if_ne (tgt := 20) 14 rfl dX10_filled_11 (by decide) (fun cd => ?_) (fun cd => ?_)
    · have H := H.1 cd
      refine ev_aload_n 21 rfl dX10_filled_20 rfl rfl ?_
      refine ev_aload_n 22 rfl dX10_filled_21 rfl rfl ?_
      refine ev_getR (ki := 6) (v := 30) 25 rfl dX10_filled_22 lf_10_53 (s_0 hst) (by decide) rfl (p_0_6 hst) ?_
      refine ev_aload_n 26 rfl dX10_filled_25 rfl rfl ?_
      refine ev_getR (ki := 1) (v := 2) 29 rfl dX10_filled_26 lf_10_18 (s_0 hst) (by decide) rfl (p_0_1 hst) ?_
      refine ev_getI (ki := 3) 32 rfl dX10_filled_29 lf_10_155 (Or.inl rfl) (s_2 hst) (by decide) rfl ?_
      refine ev_iload_n 33 rfl dX10_filled_32 rfl rfl ?_
      refine ev_iload_n 34 rfl dX10_filled_33 rfl rfl ?_
      refine ev_cVI (As := [(0, (h5 2 3)), (0, v1), (0, v2)]) (rest := [(2, 0)]) 37 rfl dX10_filled_34 lm_10_339 mm_X5_fill (s_30 hst) rfl rfl (Nat.le_of_ble_eq_true rfl) (Nat.le_of_ble_eq_true rfl) (Nat.le_refl _) H ?_
      intro r8 h7 H
      refine ev_cVI (As := [(0, r8)]) (rest := []) 40 rfl dX10_filled_37 lm_10_162 mm_X10_answer (s_0 hst) rfl rfl (Nat.le_of_ble_eq_true rfl) (Nat.le_of_ble_eq_true rfl) (Nat.le_refl _) H ?_
      intro r10 h9 H
      exact ev_retI dX10_filled_40 rfl H
    · have H := H.2 cd
      refine ev_aload_n 15 rfl dX10_filled_14 rfl rfl ?_
      refine ev_iconst 16 rfl dX10_filled_15 (by decide) ?_
      refine ev_cVI (As := [(0, 5)]) (rest := []) 19 rfl dX10_filled_16 lm_10_124 mm_X10_none (s_0 hst) rfl rfl (Nat.le_of_ble_eq_true rfl) (Nat.le_of_ble_eq_true rfl) (Nat.le_refl _) H ?_
      intro r12 h11 H
      exact ev_retI dX10_filled_19 rfl H

set_option maxRecDepth 20000 in
theorem b_X10_who {X : qX} {d : Nat} {sh : qS} {pt h : qM} {K : Int → qM → Prop} {v1 v2 v3 : Int} (hst : St sh pt)
    (H : RunI X d mX2_hasMarcher [(2, 2), (0, v1)] sh pt h (fun r2 h1 => ((¬ r2 = 0 → RunI X d mX10_isDay [(0, v2)] sh pt h1 (fun r4 h3 => ((r4 = 0 → RunI X d mX10_none [(2, 0), (0, 5)] sh pt h3 (fun r6 h5 => K r6 h5)) ∧ (¬ r4 = 0 → RunI X d mX10_isDay [(0, v3)] sh pt h3 (fun r8 h7 => ((¬ r8 = 0 → RunI X d mX5_fill [(2, 30), (0, (h7 2 3)), (0, v2), (0, v3)] sh pt h7 (fun r10 h9 => (0 ≤ v1 ∧ v1 < 20) ∧ ((¬ (h9 31 v1) = (-1) → RunI X d mX10_answer [(2, 0), (0, (h9 31 v1))] sh pt h9 (fun r13 h12 => K r13 h12)) ∧ ((h9 31 v1) = (-1) → RunI X d mX10_none [(2, 0), (0, 8)] sh pt h9 (fun r15 h14 => K r15 h14))))) ∧ (r8 = 0 → RunI X d mX10_none [(2, 0), (0, 5)] sh pt h7 (fun r17 h16 => K r17 h16)))))))) ∧ (r2 = 0 → RunI X d mX10_none [(2, 0), (0, 2)] sh pt h1 (fun r19 h18 => K r19 h18))))) :
    RunI X (d + 1) mX10_who [(2, 0), (0, v1), (0, v2), (0, v3)] sh pt h K := by
  show Ev X (d + 1) 0 0 mX10_who 0 [(2, 0), (0, v1), (0, v2), (0, v3), (8, -1)] [] (sh, pt, h) (qRI sh pt K)
  refine ev_aload_n 1 rfl dX10_who_0 rfl rfl ?_
  refine ev_getR (ki := 1) (v := 2) 4 rfl dX10_who_1 lf_10_18 (s_0 hst) (by decide) rfl (p_0_1 hst) ?_
  refine ev_iload_n 5 rfl dX10_who_4 rfl rfl ?_
  refine ev_cVI (As := [(0, v1)]) (rest := []) 8 rfl dX10_who_5 lm_10_309 mm_X2_hasMarcher (s_2 hst) rfl rfl (Nat.le_of_ble_eq_true rfl) (Nat.le_of_ble_eq_true rfl) (Nat.le_refl _) H ?_
  intro r2 h1 H
  refine ev_if_ne (tgt := 17) 11 rfl dX10_who_8 (by decide) (fun cd => ?_) (fun cd => ?_)
  · have H := H.1 cd
    refine ev_iload_n 18 rfl dX10_who_17 rfl rfl ?_
    refine ev_cSI (As := [(0, v2)]) (rest := []) 21 rfl dX10_who_18 lm_10_326 mm_X10_isDay rfl rfl (Nat.le_of_ble_eq_true rfl) (Nat.le_of_ble_eq_true rfl) (Nat.le_refl _) H ?_
    intro r4 h3 H
    refine ev_if_eq (tgt := 31) 24 rfl dX10_who_21 (by decide) (fun cd => ?_) (fun cd => ?_)
    · have H := H.1 cd
      refine ev_aload_n 32 rfl dX10_who_31 rfl rfl ?_
      refine ev_iconst 33 rfl dX10_who_32 (by decide) ?_
      refine ev_cVI (As := [(0, 5)]) (rest := []) 36 rfl dX10_who_33 lm_10_124 mm_X10_none (s_0 hst) rfl rfl (Nat.le_of_ble_eq_true rfl) (Nat.le_of_ble_eq_true rfl) (Nat.le_refl _) H ?_
      intro r6 h5 H
      exact ev_retI dX10_who_36 rfl H
    · have H := H.2 cd
      refine ev_iload_n 25 rfl dX10_who_24 rfl rfl ?_
      refine ev_cSI (As := [(0, v3)]) (rest := []) 28 rfl dX10_who_25 lm_10_326 mm_X10_isDay rfl rfl (Nat.le_of_ble_eq_true rfl) (Nat.le_of_ble_eq_true rfl) (Nat.le_refl _) H ?_
      intro r8 h7 H
      refine ev_if_ne (tgt := 37) 31 rfl dX10_who_28 (by decide) (fun cd => ?_) (fun cd => ?_)
      · have H := H.1 cd
        refine ev_aload_n 38 rfl dX10_who_37 rfl rfl ?_
        refine ev_getR (ki := 6) (v := 30) 41 rfl dX10_who_38 lf_10_53 (s_0 hst) (by decide) rfl (p_0_6 hst) ?_
        refine ev_aload_n 42 rfl dX10_who_41 rfl rfl ?_
        refine ev_getR (ki := 1) (v := 2) 45 rfl dX10_who_42 lf_10_18 (s_0 hst) (by decide) rfl (p_0_1 hst) ?_
        refine ev_getI (ki := 3) 48 rfl dX10_who_45 lf_10_155 (Or.inl rfl) (s_2 hst) (by decide) rfl ?_
        refine ev_iload_n 49 rfl dX10_who_48 rfl rfl ?_
        refine ev_iload_n 50 rfl dX10_who_49 rfl rfl ?_
        refine ev_cVI (As := [(0, (h7 2 3)), (0, v2), (0, v3)]) (rest := []) 53 rfl dX10_who_50 lm_10_339 mm_X5_fill (s_30 hst) rfl rfl (Nat.le_of_ble_eq_true rfl) (Nat.le_of_ble_eq_true rfl) (Nat.le_refl _) H ?_
        intro r10 h9 H
        refine ev_pop 54 rfl dX10_who_53 q01 ?_
        refine ev_aload_n 55 rfl dX10_who_54 rfl rfl ?_
        refine ev_getR (ki := 6) (v := 30) 58 rfl dX10_who_55 lf_10_53 (s_0 hst) (by decide) rfl (p_0_6 hst) ?_
        refine ev_getR (ki := 3) (v := 31) 61 rfl dX10_who_58 lf_10_342 (s_30 hst) (by decide) rfl (p_30_3 hst) ?_
        refine ev_iload_n 62 rfl dX10_who_61 rfl rfl ?_
        obtain ⟨b11, H⟩ := H
        refine ev_iaload 63 rfl dX10_who_62 (s_31 hst) b11.1 b11.2 ?_
        refine ev_istore (L1 := [(2, 0), (0, v1), (0, v2), (0, v3), (0, (h9 31 v1))]) 65 rfl dX10_who_63 (Nat.le_of_ble_eq_true rfl) rfl ?_
        refine ev_iload 67 rfl dX10_who_65 rfl ?_
        refine ev_iconst 68 rfl dX10_who_67 (by decide) ?_
        refine ev_icmp_ne (tgt := 80) 71 rfl dX10_who_68 (by decide) (fun cd => ?_) (fun cd => ?_)
        · have H := H.1 cd
          refine ev_aload_n 81 rfl dX10_who_80 rfl rfl ?_
          refine ev_iload 83 rfl dX10_who_81 rfl ?_
          refine ev_cVI (As := [(0, (h9 31 v1))]) (rest := []) 86 rfl dX10_who_83 lm_10_162 mm_X10_answer (s_0 hst) rfl rfl (Nat.le_of_ble_eq_true rfl) (Nat.le_of_ble_eq_true rfl) (Nat.le_refl _) H ?_
          intro r13 h12 H
          exact ev_retI dX10_who_86 rfl H
        · have H := H.2 cd
          refine ev_aload_n 72 rfl dX10_who_71 rfl rfl ?_
          refine ev_bipush 74 rfl dX10_who_72 (by decide) (by decide) ?_
          refine ev_cVI (As := [(0, 8)]) (rest := []) 77 rfl dX10_who_74 lm_10_124 mm_X10_none (s_0 hst) rfl rfl (Nat.le_of_ble_eq_true rfl) (Nat.le_of_ble_eq_true rfl) (Nat.le_refl _) H ?_
          intro r15 h14 H
          refine ev_goto (tgt := 86) dX10_who_77 (by decide) ?_
          exact ev_retI dX10_who_86 rfl H
      · have H := H.2 cd
        refine ev_aload_n 32 rfl dX10_who_31 rfl rfl ?_
        refine ev_iconst 33 rfl dX10_who_32 (by decide) ?_
        refine ev_cVI (As := [(0, 5)]) (rest := []) 36 rfl dX10_who_33 lm_10_124 mm_X10_none (s_0 hst) rfl rfl (Nat.le_of_ble_eq_true rfl) (Nat.le_of_ble_eq_true rfl) (Nat.le_refl _) H ?_
        intro r17 h16 H
        exact ev_retI dX10_who_36 rfl H
  · have H := H.2 cd
    refine ev_aload_n 12 rfl dX10_who_11 rfl rfl ?_
    refine ev_iconst 13 rfl dX10_who_12 (by decide) ?_
    refine ev_cVI (As := [(0, 2)]) (rest := []) 16 rfl dX10_who_13 lm_10_124 mm_X10_none (s_0 hst) rfl rfl (Nat.le_of_ble_eq_true rfl) (Nat.le_of_ble_eq_true rfl) (Nat.le_refl _) H ?_
    intro r19 h18 H
    exact ev_retI dX10_who_16 rfl H

set_option maxRecDepth 20000 in
theorem b_X10_mark {X : qX} {d : Nat} {sh : qS} {pt h : qM} {K : Int → qM → Prop} {v1 v2 v3 v4 : Int} (hst : St sh pt)
    (H : RunI X d mX6_isShow [(0, v1)] sh pt h (fun r2 h1 => ((r2 = 0 → RunI X d mX10_refuse [(2, 0), (0, 2)] sh pt h1 (fun r4 h3 => (0 ≤ r4 ∧ r4 ≤ 1) ∧ K r4 h3)) ∧ (¬ r2 = 0 → RunI X d mX6_isJudge [(0, v2)] sh pt h1 (fun r6 h5 => ((r6 = 0 → RunI X d mX10_refuse [(2, 0), (0, 2)] sh pt h5 (fun r8 h7 => (0 ≤ r8 ∧ r8 ≤ 1) ∧ K r8 h7)) ∧ (¬ r6 = 0 → RunI X d mX6_isTrait [(0, v3)] sh pt h5 (fun r10 h9 => ((¬ r10 = 0 → ((v4 < (-1) → RunI X d mX10_refuse [(2, 0), (0, 5)] sh pt h9 (fun r12 h11 => (0 ≤ r12 ∧ r12 ≤ 1) ∧ K r12 h11)) ∧ ((-1) ≤ v4 → ((v4 ≤ 100 → RunV X d mX6_give [(2, 41), (0, v1), (0, v2), (0, v3), (0, v4)] sh pt h9 (fun h13 => RunI X d mX10_agree [(2, 0)] sh pt h13 (fun r15 h14 => (0 ≤ r15 ∧ r15 ≤ 1) ∧ K r15 h14))) ∧ (100 < v4 → RunI X d mX10_refuse [(2, 0), (0, 5)] sh pt h9 (fun r17 h16 => (0 ≤ r17 ∧ r17 ≤ 1) ∧ K r17 h16)))))) ∧ (r10 = 0 → RunI X d mX10_refuse [(2, 0), (0, 2)] sh pt h9 (fun r19 h18 => (0 ≤ r19 ∧ r19 ≤ 1) ∧ K r19 h18))))))))))) :
    RunI X (d + 1) mX10_mark [(2, 0), (0, v1), (0, v2), (0, v3), (0, v4)] sh pt h K := by
  show Ev X (d + 1) 0 0 mX10_mark 0 [(2, 0), (0, v1), (0, v2), (0, v3), (0, v4)] [] (sh, pt, h) (qRI sh pt K)
  refine ev_iload_n 1 rfl dX10_mark_0 rfl rfl ?_
  refine ev_cSI (As := [(0, v1)]) (rest := []) 4 rfl dX10_mark_1 lm_10_345 mm_X6_isShow rfl rfl (Nat.le_of_ble_eq_true rfl) (Nat.le_of_ble_eq_true rfl) (Nat.le_refl _) H ?_
  intro r2 h1 H
  refine ev_if_eq (tgt := 21) 7 rfl dX10_mark_4 (by decide) (fun cd => ?_) (fun cd => ?_)
  · have H := H.1 cd
    refine ev_aload_n 22 rfl dX10_mark_21 rfl rfl ?_
    refine ev_iconst 23 rfl dX10_mark_22 (by decide) ?_
    refine ev_cVI (As := [(0, 2)]) (rest := []) 26 rfl dX10_mark_23 lm_10_105 mm_X10_refuse (s_0 hst) rfl rfl (Nat.le_of_ble_eq_true rfl) (Nat.le_of_ble_eq_true rfl) (Nat.le_refl _) H ?_
    intro r4 h3 H
    obtain ⟨sd, H⟩ := H
    exact ev_retZ dX10_mark_26 rfl sd H
  · have H := H.2 cd
    refine ev_iload_n 8 rfl dX10_mark_7 rfl rfl ?_
    refine ev_cSI (As := [(0, v2)]) (rest := []) 11 rfl dX10_mark_8 lm_10_348 mm_X6_isJudge rfl rfl (Nat.le_of_ble_eq_true rfl) (Nat.le_of_ble_eq_true rfl) (Nat.le_refl _) H ?_
    intro r6 h5 H
    refine ev_if_eq (tgt := 21) 14 rfl dX10_mark_11 (by decide) (fun cd => ?_) (fun cd => ?_)
    · have H := H.1 cd
      refine ev_aload_n 22 rfl dX10_mark_21 rfl rfl ?_
      refine ev_iconst 23 rfl dX10_mark_22 (by decide) ?_
      refine ev_cVI (As := [(0, 2)]) (rest := []) 26 rfl dX10_mark_23 lm_10_105 mm_X10_refuse (s_0 hst) rfl rfl (Nat.le_of_ble_eq_true rfl) (Nat.le_of_ble_eq_true rfl) (Nat.le_refl _) H ?_
      intro r8 h7 H
      obtain ⟨sd, H⟩ := H
      exact ev_retZ dX10_mark_26 rfl sd H
    · have H := H.2 cd
      refine ev_iload_n 15 rfl dX10_mark_14 rfl rfl ?_
      refine ev_cSI (As := [(0, v3)]) (rest := []) 18 rfl dX10_mark_15 lm_10_351 mm_X6_isTrait rfl rfl (Nat.le_of_ble_eq_true rfl) (Nat.le_of_ble_eq_true rfl) (Nat.le_refl _) H ?_
      intro r10 h9 H
      refine ev_if_ne (tgt := 27) 21 rfl dX10_mark_18 (by decide) (fun cd => ?_) (fun cd => ?_)
      · have H := H.1 cd
        refine ev_iload 29 rfl dX10_mark_27 rfl ?_
        refine ev_iconst 30 rfl dX10_mark_29 (by decide) ?_
        refine ev_icmp_lt (tgt := 40) 33 rfl dX10_mark_30 (by decide) (fun cd => ?_) (fun cd => ?_)
        · have H := H.1 cd
          refine ev_aload_n 41 rfl dX10_mark_40 rfl rfl ?_
          refine ev_iconst 42 rfl dX10_mark_41 (by decide) ?_
          refine ev_cVI (As := [(0, 5)]) (rest := []) 45 rfl dX10_mark_42 lm_10_105 mm_X10_refuse (s_0 hst) rfl rfl (Nat.le_of_ble_eq_true rfl) (Nat.le_of_ble_eq_true rfl) (Nat.le_refl _) H ?_
          intro r12 h11 H
          obtain ⟨sd, H⟩ := H
          exact ev_retZ dX10_mark_45 rfl sd H
        · have H := H.2 cd
          refine ev_iload 35 rfl dX10_mark_33 rfl ?_
          refine ev_bipush 37 rfl dX10_mark_35 (by decide) (by decide) ?_
          refine ev_icmp_le (tgt := 46) 40 rfl dX10_mark_37 (by decide) (fun cd => ?_) (fun cd => ?_)
          · have H := H.1 cd
            refine ev_aload_n 47 rfl dX10_mark_46 rfl rfl ?_
            refine ev_getR (ki := 7) (v := 41) 50 rfl dX10_mark_47 lf_10_60 (s_0 hst) (by decide) rfl (p_0_7 hst) ?_
            refine ev_iload_n 51 rfl dX10_mark_50 rfl rfl ?_
            refine ev_iload_n 52 rfl dX10_mark_51 rfl rfl ?_
            refine ev_iload_n 53 rfl dX10_mark_52 rfl rfl ?_
            refine ev_iload 55 rfl dX10_mark_53 rfl ?_
            refine ev_cVV (As := [(0, v1), (0, v2), (0, v3), (0, v4)]) (rest := []) 58 rfl dX10_mark_55 lm_10_354 mm_X6_give (s_41 hst) rfl rfl (Nat.le_of_ble_eq_true rfl) (Nat.le_of_ble_eq_true rfl) (Nat.le_refl _) H ?_
            intro h13 H
            refine ev_aload_n 59 rfl dX10_mark_58 rfl rfl ?_
            refine ev_cVI (As := []) (rest := []) 62 rfl dX10_mark_59 lm_10_112 mm_X10_agree (s_0 hst) rfl rfl (Nat.le_of_ble_eq_true rfl) (Nat.le_of_ble_eq_true rfl) (Nat.le_refl _) H ?_
            intro r15 h14 H
            obtain ⟨sd, H⟩ := H
            exact ev_retZ dX10_mark_62 rfl sd H
          · have H := H.2 cd
            refine ev_aload_n 41 rfl dX10_mark_40 rfl rfl ?_
            refine ev_iconst 42 rfl dX10_mark_41 (by decide) ?_
            refine ev_cVI (As := [(0, 5)]) (rest := []) 45 rfl dX10_mark_42 lm_10_105 mm_X10_refuse (s_0 hst) rfl rfl (Nat.le_of_ble_eq_true rfl) (Nat.le_of_ble_eq_true rfl) (Nat.le_refl _) H ?_
            intro r17 h16 H
            obtain ⟨sd, H⟩ := H
            exact ev_retZ dX10_mark_45 rfl sd H
      · have H := H.2 cd
        refine ev_aload_n 22 rfl dX10_mark_21 rfl rfl ?_
        refine ev_iconst 23 rfl dX10_mark_22 (by decide) ?_
        refine ev_cVI (As := [(0, 2)]) (rest := []) 26 rfl dX10_mark_23 lm_10_105 mm_X10_refuse (s_0 hst) rfl rfl (Nat.le_of_ble_eq_true rfl) (Nat.le_of_ble_eq_true rfl) (Nat.le_refl _) H ?_
        intro r19 h18 H
        obtain ⟨sd, H⟩ := H
        exact ev_retZ dX10_mark_26 rfl sd H

set_option maxRecDepth 20000 in
theorem b_X10_weight {X : qX} {d : Nat} {sh : qS} {pt h : qM} {K : Int → qM → Prop} {v1 v2 : Int} (hst : St sh pt)
    (H : RunI X d mX6_isTrait [(0, v1)] sh pt h (fun r2 h1 => ((¬ r2 = 0 → ((v2 < 1 → RunI X d mX10_refuse [(2, 0), (0, 5)] sh pt h1 (fun r4 h3 => (0 ≤ r4 ∧ r4 ≤ 1) ∧ K r4 h3)) ∧ (1 ≤ v2 → ((v2 ≤ 9 → (0 ≤ v1 ∧ v1 < 3) ∧ ∀ h6 : qM, h6 = qup h1 42 v1 v2 → RunI X d mX10_agree [(2, 0)] sh pt h6 (fun r8 h7 => (0 ≤ r8 ∧ r8 ≤ 1) ∧ K r8 h7)) ∧ (9 < v2 → RunI X d mX10_refuse [(2, 0), (0, 5)] sh pt h1 (fun r10 h9 => (0 ≤ r10 ∧ r10 ≤ 1) ∧ K r10 h9)))))) ∧ (r2 = 0 → RunI X d mX10_refuse [(2, 0), (0, 2)] sh pt h1 (fun r12 h11 => (0 ≤ r12 ∧ r12 ≤ 1) ∧ K r12 h11))))) :
    RunI X (d + 1) mX10_weight [(2, 0), (0, v1), (0, v2)] sh pt h K := by
  show Ev X (d + 1) 0 0 mX10_weight 0 [(2, 0), (0, v1), (0, v2)] [] (sh, pt, h) (qRI sh pt K)
  refine ev_iload_n 1 rfl dX10_weight_0 rfl rfl ?_
  refine ev_cSI (As := [(0, v1)]) (rest := []) 4 rfl dX10_weight_1 lm_10_351 mm_X6_isTrait rfl rfl (Nat.le_of_ble_eq_true rfl) (Nat.le_of_ble_eq_true rfl) (Nat.le_refl _) H ?_
  intro r2 h1 H
  refine ev_if_ne (tgt := 13) 7 rfl dX10_weight_4 (by decide) (fun cd => ?_) (fun cd => ?_)
  · have H := H.1 cd
    refine ev_iload_n 14 rfl dX10_weight_13 rfl rfl ?_
    refine ev_iconst 15 rfl dX10_weight_14 (by decide) ?_
    refine ev_icmp_lt (tgt := 24) 18 rfl dX10_weight_15 (by decide) (fun cd => ?_) (fun cd => ?_)
    · have H := H.1 cd
      refine ev_aload_n 25 rfl dX10_weight_24 rfl rfl ?_
      refine ev_iconst 26 rfl dX10_weight_25 (by decide) ?_
      refine ev_cVI (As := [(0, 5)]) (rest := []) 29 rfl dX10_weight_26 lm_10_105 mm_X10_refuse (s_0 hst) rfl rfl (Nat.le_of_ble_eq_true rfl) (Nat.le_of_ble_eq_true rfl) (Nat.le_refl _) H ?_
      intro r4 h3 H
      obtain ⟨sd, H⟩ := H
      exact ev_retZ dX10_weight_29 rfl sd H
    · have H := H.2 cd
      refine ev_iload_n 19 rfl dX10_weight_18 rfl rfl ?_
      refine ev_bipush 21 rfl dX10_weight_19 (by decide) (by decide) ?_
      refine ev_icmp_le (tgt := 30) 24 rfl dX10_weight_21 (by decide) (fun cd => ?_) (fun cd => ?_)
      · have H := H.1 cd
        refine ev_aload_n 31 rfl dX10_weight_30 rfl rfl ?_
        refine ev_getR (ki := 7) (v := 41) 34 rfl dX10_weight_31 lf_10_60 (s_0 hst) (by decide) rfl (p_0_7 hst) ?_
        refine ev_getR (ki := 0) (v := 42) 37 rfl dX10_weight_34 lf_10_357 (s_41 hst) (by decide) rfl (p_41_0 hst) ?_
        refine ev_iload_n 38 rfl dX10_weight_37 rfl rfl ?_
        refine ev_iload_n 39 rfl dX10_weight_38 rfl rfl ?_
        obtain ⟨b5, H⟩ := H
        refine ev_iastore 40 rfl dX10_weight_39 (s_42 hst) b5.1 b5.2 ?_
        obtain ⟨h6, eh6⟩ : ∃ z : qM, z = qup h1 42 v1 v2 := ⟨_, rfl⟩
        rw [← eh6]
        have H := H h6 eh6
        refine ev_aload_n 41 rfl dX10_weight_40 rfl rfl ?_
        refine ev_cVI (As := []) (rest := []) 44 rfl dX10_weight_41 lm_10_112 mm_X10_agree (s_0 hst) rfl rfl (Nat.le_of_ble_eq_true rfl) (Nat.le_of_ble_eq_true rfl) (Nat.le_refl _) H ?_
        intro r8 h7 H
        obtain ⟨sd, H⟩ := H
        exact ev_retZ dX10_weight_44 rfl sd H
      · have H := H.2 cd
        refine ev_aload_n 25 rfl dX10_weight_24 rfl rfl ?_
        refine ev_iconst 26 rfl dX10_weight_25 (by decide) ?_
        refine ev_cVI (As := [(0, 5)]) (rest := []) 29 rfl dX10_weight_26 lm_10_105 mm_X10_refuse (s_0 hst) rfl rfl (Nat.le_of_ble_eq_true rfl) (Nat.le_of_ble_eq_true rfl) (Nat.le_refl _) H ?_
        intro r10 h9 H
        obtain ⟨sd, H⟩ := H
        exact ev_retZ dX10_weight_29 rfl sd H
  · have H := H.2 cd
    refine ev_aload_n 8 rfl dX10_weight_7 rfl rfl ?_
    refine ev_iconst 9 rfl dX10_weight_8 (by decide) ?_
    refine ev_cVI (As := [(0, 2)]) (rest := []) 12 rfl dX10_weight_9 lm_10_105 mm_X10_refuse (s_0 hst) rfl rfl (Nat.le_of_ble_eq_true rfl) (Nat.le_of_ble_eq_true rfl) (Nat.le_refl _) H ?_
    intro r12 h11 H
    obtain ⟨sd, H⟩ := H
    exact ev_retZ dX10_weight_12 rfl sd H

set_option maxRecDepth 20000 in
theorem b_X10_total {X : qX} {d : Nat} {sh : qS} {pt h : qM} {K : Int → qM → Prop} {v1 : Int} (hst : St sh pt)
    (H : RunI X d mX6_isShow [(0, v1)] sh pt h (fun r2 h1 => ((¬ r2 = 0 → RunI X d mX6_reckon [(2, 41), (0, v1)] sh pt h1 (fun r4 h3 => ((¬ r4 = 0 → RunV X d mX6_tellFraction [(2, 41)] sh pt h3 (fun h5 => RunI X d mX10_agree [(2, 0)] sh pt h5 (fun r7 h6 => (0 ≤ r7 ∧ r7 ≤ 1) ∧ K r7 h6))) ∧ (r4 = 0 → RunI X d mX10_refuse [(2, 0), (0, 8)] sh pt h3 (fun r9 h8 => (0 ≤ r9 ∧ r9 ≤ 1) ∧ K r9 h8))))) ∧ (r2 = 0 → RunI X d mX10_refuse [(2, 0), (0, 2)] sh pt h1 (fun r11 h10 => (0 ≤ r11 ∧ r11 ≤ 1) ∧ K r11 h10))))) :
    RunI X (d + 1) mX10_total [(2, 0), (0, v1)] sh pt h K := by
  show Ev X (d + 1) 0 0 mX10_total 0 [(2, 0), (0, v1)] [] (sh, pt, h) (qRI sh pt K)
  refine ev_iload_n 1 rfl dX10_total_0 rfl rfl ?_
  refine ev_cSI (As := [(0, v1)]) (rest := []) 4 rfl dX10_total_1 lm_10_345 mm_X6_isShow rfl rfl (Nat.le_of_ble_eq_true rfl) (Nat.le_of_ble_eq_true rfl) (Nat.le_refl _) H ?_
  intro r2 h1 H
  refine ev_if_ne (tgt := 13) 7 rfl dX10_total_4 (by decide) (fun cd => ?_) (fun cd => ?_)
  · have H := H.1 cd
    refine ev_aload_n 14 rfl dX10_total_13 rfl rfl ?_
    refine ev_getR (ki := 7) (v := 41) 17 rfl dX10_total_14 lf_10_60 (s_0 hst) (by decide) rfl (p_0_7 hst) ?_
    refine ev_iload_n 18 rfl dX10_total_17 rfl rfl ?_
    refine ev_cVI (As := [(0, v1)]) (rest := []) 21 rfl dX10_total_18 lm_10_360 mm_X6_reckon (s_41 hst) rfl rfl (Nat.le_of_ble_eq_true rfl) (Nat.le_of_ble_eq_true rfl) (Nat.le_refl _) H ?_
    intro r4 h3 H
    refine ev_if_ne (tgt := 31) 24 rfl dX10_total_21 (by decide) (fun cd => ?_) (fun cd => ?_)
    · have H := H.1 cd
      refine ev_aload_n 32 rfl dX10_total_31 rfl rfl ?_
      refine ev_getR (ki := 7) (v := 41) 35 rfl dX10_total_32 lf_10_60 (s_0 hst) (by decide) rfl (p_0_7 hst) ?_
      refine ev_cVV (As := []) (rest := []) 38 rfl dX10_total_35 lm_10_363 mm_X6_tellFraction (s_41 hst) rfl rfl (Nat.le_of_ble_eq_true rfl) (Nat.le_of_ble_eq_true rfl) (Nat.le_refl _) H ?_
      intro h5 H
      refine ev_aload_n 39 rfl dX10_total_38 rfl rfl ?_
      refine ev_cVI (As := []) (rest := []) 42 rfl dX10_total_39 lm_10_112 mm_X10_agree (s_0 hst) rfl rfl (Nat.le_of_ble_eq_true rfl) (Nat.le_of_ble_eq_true rfl) (Nat.le_refl _) H ?_
      intro r7 h6 H
      obtain ⟨sd, H⟩ := H
      exact ev_retZ dX10_total_42 rfl sd H
    · have H := H.2 cd
      refine ev_aload_n 25 rfl dX10_total_24 rfl rfl ?_
      refine ev_bipush 27 rfl dX10_total_25 (by decide) (by decide) ?_
      refine ev_cVI (As := [(0, 8)]) (rest := []) 30 rfl dX10_total_27 lm_10_105 mm_X10_refuse (s_0 hst) rfl rfl (Nat.le_of_ble_eq_true rfl) (Nat.le_of_ble_eq_true rfl) (Nat.le_refl _) H ?_
      intro r9 h8 H
      obtain ⟨sd, H⟩ := H
      exact ev_retZ dX10_total_30 rfl sd H
  · have H := H.2 cd
    refine ev_aload_n 8 rfl dX10_total_7 rfl rfl ?_
    refine ev_iconst 9 rfl dX10_total_8 (by decide) ?_
    refine ev_cVI (As := [(0, 2)]) (rest := []) 12 rfl dX10_total_9 lm_10_105 mm_X10_refuse (s_0 hst) rfl rfl (Nat.le_of_ble_eq_true rfl) (Nat.le_of_ble_eq_true rfl) (Nat.le_refl _) H ?_
    intro r11 h10 H
    obtain ⟨sd, H⟩ := H
    exact ev_retZ dX10_total_12 rfl sd H

set_option maxRecDepth 20000 in
theorem b_X10_upper {X : qX} {d : Nat} {sh : qS} {pt h : qM} {K : Int → qM → Prop} (hst : St sh pt)
    (H : K (h 41 1) h) :
    RunL X d mX10_upper [(2, 0)] sh pt h K := by
  show Ev X d 0 0 mX10_upper 0 [(2, 0)] [] (sh, pt, h) (qRL sh pt K)
  refine ev_aload_n 1 rfl dX10_upper_0 rfl rfl ?_
  refine ev_getR (ki := 7) (v := 41) 4 rfl dX10_upper_1 lf_10_60 (s_0 hst) (by decide) rfl (p_0_7 hst) ?_
  refine ev_getL (ki := 1) 7 rfl dX10_upper_4 lf_10_366 (s_41 hst) (by decide) rfl ?_
  exact ev_retL dX10_upper_7 rfl H

set_option maxRecDepth 20000 in
theorem b_X10_lower {X : qX} {d : Nat} {sh : qS} {pt h : qM} {K : Int → qM → Prop} (hst : St sh pt)
    (H : K (h 41 2) h) :
    RunL X d mX10_lower [(2, 0)] sh pt h K := by
  show Ev X d 0 0 mX10_lower 0 [(2, 0)] [] (sh, pt, h) (qRL sh pt K)
  refine ev_aload_n 1 rfl dX10_lower_0 rfl rfl ?_
  refine ev_getR (ki := 7) (v := 41) 4 rfl dX10_lower_1 lf_10_60 (s_0 hst) (by decide) rfl (p_0_7 hst) ?_
  refine ev_getL (ki := 2) 7 rfl dX10_lower_4 lf_10_370 (s_41 hst) (by decide) rfl ?_
  exact ev_retL dX10_lower_7 rfl H

set_option maxRecDepth 20000 in
theorem b_X10_rank {X : qX} {d : Nat} {sh : qS} {pt h : qM} {K : Int → qM → Prop} {v1 : Int} (hst : St sh pt)
    (H : RunI X d mX6_isShow [(0, v1)] sh pt h (fun r2 h1 => ((¬ r2 = 0 → RunI X d mX6_placeOf [(2, 41), (0, v1)] sh pt h1 (fun r4 h3 => ((¬ r4 = (-1) → RunI X d mX10_answer [(2, 0), (0, r4)] sh pt h3 (fun r6 h5 => K r6 h5)) ∧ (r4 = (-1) → RunI X d mX10_none [(2, 0), (0, 8)] sh pt h3 (fun r8 h7 => K r8 h7))))) ∧ (r2 = 0 → RunI X d mX10_none [(2, 0), (0, 2)] sh pt h1 (fun r10 h9 => K r10 h9))))) :
    RunI X (d + 1) mX10_rank [(2, 0), (0, v1)] sh pt h K := by
  show Ev X (d + 1) 0 0 mX10_rank 0 [(2, 0), (0, v1), (8, -1)] [] (sh, pt, h) (qRI sh pt K)
  refine ev_iload_n 1 rfl dX10_rank_0 rfl rfl ?_
  refine ev_cSI (As := [(0, v1)]) (rest := []) 4 rfl dX10_rank_1 lm_10_345 mm_X6_isShow rfl rfl (Nat.le_of_ble_eq_true rfl) (Nat.le_of_ble_eq_true rfl) (Nat.le_refl _) H ?_
  intro r2 h1 H
  refine ev_if_ne (tgt := 13) 7 rfl dX10_rank_4 (by decide) (fun cd => ?_) (fun cd => ?_)
  · have H := H.1 cd
    refine ev_aload_n 14 rfl dX10_rank_13 rfl rfl ?_
    refine ev_getR (ki := 7) (v := 41) 17 rfl dX10_rank_14 lf_10_60 (s_0 hst) (by decide) rfl (p_0_7 hst) ?_
    refine ev_iload_n 18 rfl dX10_rank_17 rfl rfl ?_
    refine ev_cVI (As := [(0, v1)]) (rest := []) 21 rfl dX10_rank_18 lm_10_373 mm_X6_placeOf (s_41 hst) rfl rfl (Nat.le_of_ble_eq_true rfl) (Nat.le_of_ble_eq_true rfl) (Nat.le_refl _) H ?_
    intro r4 h3 H
    refine ev_istore_n (L1 := [(2, 0), (0, v1), (0, r4)]) 22 rfl dX10_rank_21 rfl (Nat.le_of_ble_eq_true rfl) rfl ?_
    refine ev_iload_n 23 rfl dX10_rank_22 rfl rfl ?_
    refine ev_iconst 24 rfl dX10_rank_23 (by decide) ?_
    refine ev_icmp_ne (tgt := 36) 27 rfl dX10_rank_24 (by decide) (fun cd => ?_) (fun cd => ?_)
    · have H := H.1 cd
      refine ev_aload_n 37 rfl dX10_rank_36 rfl rfl ?_
      refine ev_iload_n 38 rfl dX10_rank_37 rfl rfl ?_
      refine ev_cVI (As := [(0, r4)]) (rest := []) 41 rfl dX10_rank_38 lm_10_162 mm_X10_answer (s_0 hst) rfl rfl (Nat.le_of_ble_eq_true rfl) (Nat.le_of_ble_eq_true rfl) (Nat.le_refl _) H ?_
      intro r6 h5 H
      exact ev_retI dX10_rank_41 rfl H
    · have H := H.2 cd
      refine ev_aload_n 28 rfl dX10_rank_27 rfl rfl ?_
      refine ev_bipush 30 rfl dX10_rank_28 (by decide) (by decide) ?_
      refine ev_cVI (As := [(0, 8)]) (rest := []) 33 rfl dX10_rank_30 lm_10_124 mm_X10_none (s_0 hst) rfl rfl (Nat.le_of_ble_eq_true rfl) (Nat.le_of_ble_eq_true rfl) (Nat.le_refl _) H ?_
      intro r8 h7 H
      refine ev_goto (tgt := 41) dX10_rank_33 (by decide) ?_
      exact ev_retI dX10_rank_41 rfl H
  · have H := H.2 cd
    refine ev_aload_n 8 rfl dX10_rank_7 rfl rfl ?_
    refine ev_iconst 9 rfl dX10_rank_8 (by decide) ?_
    refine ev_cVI (As := [(0, 2)]) (rest := []) 12 rfl dX10_rank_9 lm_10_124 mm_X10_none (s_0 hst) rfl rfl (Nat.le_of_ble_eq_true rfl) (Nat.le_of_ble_eq_true rfl) (Nat.le_refl _) H ?_
    intro r10 h9 H
    exact ev_retI dX10_rank_12 rfl H

set_option maxRecDepth 20000 in
theorem b_X10_agree {X : qX} {d : Nat} {sh : qS} {pt h : qM} {K : Int → qM → Prop} (hst : St sh pt)
    (H : ∀ h1 : qM, h1 = qup h 0 12 0 → K 1 h1) :
    RunI X d mX10_agree [(2, 0)] sh pt h K := by
  show Ev X d 0 0 mX10_agree 0 [(2, 0)] [] (sh, pt, h) (qRI sh pt K)
  refine ev_aload_n 1 rfl dX10_agree_0 rfl rfl ?_
  refine ev_iconst 2 rfl dX10_agree_1 (by decide) ?_
  refine ev_putI (ki := 12) 5 rfl dX10_agree_2 lf_10_84 (Or.inl rfl) (s_0 hst) (by decide) rfl ?_
  obtain ⟨h1, eh1⟩ : ∃ z : qM, z = qup h 0 12 0 := ⟨_, rfl⟩
  rw [← eh1]
  have H := H h1 eh1
  refine ev_iconst 6 rfl dX10_agree_5 (by decide) ?_
  exact ev_retZ dX10_agree_6 rfl (by decide) H

set_option maxRecDepth 20000 in
theorem b_X10_refuse {X : qX} {d : Nat} {sh : qS} {pt h : qM} {K : Int → qM → Prop} {v1 : Int} (hst : St sh pt)
    (H : ∀ h1 : qM, h1 = qup h 0 12 v1 → K 0 h1) :
    RunI X d mX10_refuse [(2, 0), (0, v1)] sh pt h K := by
  show Ev X d 0 0 mX10_refuse 0 [(2, 0), (0, v1)] [] (sh, pt, h) (qRI sh pt K)
  refine ev_aload_n 1 rfl dX10_refuse_0 rfl rfl ?_
  refine ev_iload_n 2 rfl dX10_refuse_1 rfl rfl ?_
  refine ev_putI (ki := 12) 5 rfl dX10_refuse_2 lf_10_84 (Or.inl rfl) (s_0 hst) (by decide) rfl ?_
  obtain ⟨h1, eh1⟩ : ∃ z : qM, z = qup h 0 12 v1 := ⟨_, rfl⟩
  rw [← eh1]
  have H := H h1 eh1
  refine ev_iconst 6 rfl dX10_refuse_5 (by decide) ?_
  exact ev_retZ dX10_refuse_6 rfl (by decide) H

set_option maxRecDepth 20000 in
theorem b_X10_answer {X : qX} {d : Nat} {sh : qS} {pt h : qM} {K : Int → qM → Prop} {v1 : Int} (hst : St sh pt)
    (H : ∀ h1 : qM, h1 = qup h 0 12 0 → K v1 h1) :
    RunI X d mX10_answer [(2, 0), (0, v1)] sh pt h K := by
  show Ev X d 0 0 mX10_answer 0 [(2, 0), (0, v1)] [] (sh, pt, h) (qRI sh pt K)
  refine ev_aload_n 1 rfl dX10_answer_0 rfl rfl ?_
  refine ev_iconst 2 rfl dX10_answer_1 (by decide) ?_
  refine ev_putI (ki := 12) 5 rfl dX10_answer_2 lf_10_84 (Or.inl rfl) (s_0 hst) (by decide) rfl ?_
  obtain ⟨h1, eh1⟩ : ∃ z : qM, z = qup h 0 12 0 := ⟨_, rfl⟩
  rw [← eh1]
  have H := H h1 eh1
  refine ev_iload_n 6 rfl dX10_answer_5 rfl rfl ?_
  exact ev_retI dX10_answer_6 rfl H

set_option maxRecDepth 20000 in
theorem b_X10_none {X : qX} {d : Nat} {sh : qS} {pt h : qM} {K : Int → qM → Prop} {v1 : Int} (hst : St sh pt)
    (H : ∀ h1 : qM, h1 = qup h 0 12 v1 → K (-1) h1) :
    RunI X d mX10_none [(2, 0), (0, v1)] sh pt h K := by
  show Ev X d 0 0 mX10_none 0 [(2, 0), (0, v1)] [] (sh, pt, h) (qRI sh pt K)
  refine ev_aload_n 1 rfl dX10_none_0 rfl rfl ?_
  refine ev_iload_n 2 rfl dX10_none_1 rfl rfl ?_
  refine ev_putI (ki := 12) 5 rfl dX10_none_2 lf_10_84 (Or.inl rfl) (s_0 hst) (by decide) rfl ?_
  obtain ⟨h1, eh1⟩ : ∃ z : qM, z = qup h 0 12 v1 := ⟨_, rfl⟩
  rw [← eh1]
  have H := H h1 eh1
  refine ev_iconst 6 rfl dX10_none_5 (by decide) ?_
  exact ev_retI dX10_none_6 rfl H

set_option maxRecDepth 20000 in
theorem b_X10_placeStatus {X : qX} {d : Nat} {sh : qS} {pt h : qM} {K : Int → qM → Prop} {v1 v2 : Int} (hst : St sh pt)
    (H : RunI X d mX10_isTray [(0, v1)] sh pt h (fun r2 h1 => ((¬ r2 = 0 → (0 ≤ v1 ∧ v1 < 4) ∧ ((¬ (h1 (70 + 2 * v1) 1) = 0 → (0 ≤ v1 ∧ v1 < 4) ∧ RunI X d mX8_hasRange [(2, (70 + 2 * v1)), (0, v2), (0, 1)] sh pt h1 (fun r6 h5 => ((r6 = 0 → K 4 h5) ∧ (¬ r6 = 0 → K 0 h5)))) ∧ ((h1 (70 + 2 * v1) 1) = 0 → K 3 h1))) ∧ (r2 = 0 → K 1 h1)))) :
    RunI X (d + 1) mX10_placeStatus [(2, 0), (0, v1), (0, v2)] sh pt h K := by
  show Ev X (d + 1) 0 0 mX10_placeStatus 0 [(2, 0), (0, v1), (0, v2)] [] (sh, pt, h) (qRI sh pt K)
  refine ev_iload_n 1 rfl dX10_placeStatus_0 rfl rfl ?_
  refine ev_cSI (As := [(0, v1)]) (rest := []) 4 rfl dX10_placeStatus_1 lm_10_101 mm_X10_isTray rfl rfl (Nat.le_of_ble_eq_true rfl) (Nat.le_of_ble_eq_true rfl) (Nat.le_refl _) H ?_
  intro r2 h1 H
  refine ev_if_ne (tgt := 9) 7 rfl dX10_placeStatus_4 (by decide) (fun cd => ?_) (fun cd => ?_)
  · have H := H.1 cd
    refine ev_aload_n 10 rfl dX10_placeStatus_9 rfl rfl ?_
    refine ev_getR (ki := 0) (v := 1) 13 rfl dX10_placeStatus_10 lf_10_11 (s_0 hst) (by decide) rfl (p_0_0 hst) ?_
    refine ev_iload_n 14 rfl dX10_placeStatus_13 rfl rfl ?_
    obtain ⟨b3, H⟩ := H
    refine ev_aaload 15 rfl dX10_placeStatus_14 (s_1 hst) b3.1 b3.2 (pW_at hst b3.1 b3.2) ?_
    refine ev_getI (ki := 1) 18 rfl dX10_placeStatus_15 lf_10_132 (Or.inr rfl) (sW hst (isW_of b3.1 b3.2)) (by decide) rfl ?_
    refine ev_if_ne (tgt := 23) 21 rfl dX10_placeStatus_18 (by decide) (fun cd => ?_) (fun cd => ?_)
    · have H := H.1 cd
      refine ev_aload_n 24 rfl dX10_placeStatus_23 rfl rfl ?_
      refine ev_getR (ki := 0) (v := 1) 27 rfl dX10_placeStatus_24 lf_10_11 (s_0 hst) (by decide) rfl (p_0_0 hst) ?_
      refine ev_iload_n 28 rfl dX10_placeStatus_27 rfl rfl ?_
      obtain ⟨b4, H⟩ := H
      refine ev_aaload 29 rfl dX10_placeStatus_28 (s_1 hst) b4.1 b4.2 (pW_at hst b4.1 b4.2) ?_
      refine ev_iload_n 30 rfl dX10_placeStatus_29 rfl rfl ?_
      refine ev_iconst 31 rfl dX10_placeStatus_30 (by decide) ?_
      refine ev_cVI (As := [(0, v2), (0, 1)]) (rest := []) 34 rfl dX10_placeStatus_31 lm_10_139 mm_X8_hasRange (sW hst (isW_of b4.1 b4.2)) rfl rfl (Nat.le_of_ble_eq_true rfl) (Nat.le_of_ble_eq_true rfl) (Nat.le_refl _) H ?_
      intro r6 h5 H
      refine ev_if_eq (tgt := 41) 37 rfl dX10_placeStatus_34 (by decide) (fun cd => ?_) (fun cd => ?_)
      · have H := H.1 cd
        refine ev_iconst 42 rfl dX10_placeStatus_41 (by decide) ?_
        exact ev_retI dX10_placeStatus_42 rfl H
      · have H := H.2 cd
        refine ev_iconst 38 rfl dX10_placeStatus_37 (by decide) ?_
        refine ev_goto (tgt := 42) dX10_placeStatus_38 (by decide) ?_
        exact ev_retI dX10_placeStatus_42 rfl H
    · have H := H.2 cd
      refine ev_iconst 22 rfl dX10_placeStatus_21 (by decide) ?_
      exact ev_retI dX10_placeStatus_22 rfl H
  · have H := H.2 cd
    refine ev_iconst 8 rfl dX10_placeStatus_7 (by decide) ?_
    exact ev_retI dX10_placeStatus_8 rfl H

set_option maxRecDepth 20000 in
theorem b_X10_isTray {X : qX} {d : Nat} {sh : qS} {pt h : qM} {K : Int → qM → Prop} {v0 : Int} (hst : St sh pt)
    (H : ((v0 < 0 → K 0 h) ∧ (0 ≤ v0 → ((4 ≤ v0 → K 0 h) ∧ (v0 < 4 → K 1 h))))) :
    RunI X d mX10_isTray [(0, v0)] sh pt h K := by
  show Ev X d 0 0 mX10_isTray 0 [(0, v0)] [] (sh, pt, h) (qRI sh pt K)
  refine ev_iload_n 1 rfl dX10_isTray_0 rfl rfl ?_
  refine ev_if_lt (tgt := 13) 4 rfl dX10_isTray_1 (by decide) (fun cd => ?_) (fun cd => ?_)
  · have H := H.1 cd
    refine ev_iconst 14 rfl dX10_isTray_13 (by decide) ?_
    exact ev_retZ dX10_isTray_14 rfl (by decide) H
  · have H := H.2 cd
    refine ev_iload_n 5 rfl dX10_isTray_4 rfl rfl ?_
    refine ev_iconst 6 rfl dX10_isTray_5 (by decide) ?_
    refine ev_icmp_ge (tgt := 13) 9 rfl dX10_isTray_6 (by decide) (fun cd => ?_) (fun cd => ?_)
    · have H := H.1 cd
      refine ev_iconst 14 rfl dX10_isTray_13 (by decide) ?_
      exact ev_retZ dX10_isTray_14 rfl (by decide) H
    · have H := H.2 cd
      refine ev_iconst 10 rfl dX10_isTray_9 (by decide) ?_
      refine ev_goto (tgt := 14) dX10_isTray_10 (by decide) ?_
      exact ev_retZ dX10_isTray_14 rfl (by decide) H

set_option maxRecDepth 20000 in
theorem b_X10_isDay {X : qX} {d : Nat} {sh : qS} {pt h : qM} {K : Int → qM → Prop} {v0 : Int} (hst : St sh pt)
    (H : ((v0 < 0 → K 0 h) ∧ (0 ≤ v0 → ((9999 < v0 → K 0 h) ∧ (v0 ≤ 9999 → K 1 h))))) :
    RunI X d mX10_isDay [(0, v0)] sh pt h K := by
  show Ev X d 0 0 mX10_isDay 0 [(0, v0)] [] (sh, pt, h) (qRI sh pt K)
  refine ev_iload_n 1 rfl dX10_isDay_0 rfl rfl ?_
  refine ev_if_lt (tgt := 15) 4 rfl dX10_isDay_1 (by decide) (fun cd => ?_) (fun cd => ?_)
  · have H := H.1 cd
    refine ev_iconst 16 rfl dX10_isDay_15 (by decide) ?_
    exact ev_retZ dX10_isDay_16 rfl (by decide) H
  · have H := H.2 cd
    refine ev_iload_n 5 rfl dX10_isDay_4 rfl rfl ?_
    refine ev_sipush 8 rfl dX10_isDay_5 (by decide) (by decide) ?_
    refine ev_icmp_gt (tgt := 15) 11 rfl dX10_isDay_8 (by decide) (fun cd => ?_) (fun cd => ?_)
    · have H := H.1 cd
      refine ev_iconst 16 rfl dX10_isDay_15 (by decide) ?_
      exact ev_retZ dX10_isDay_16 rfl (by decide) H
    · have H := H.2 cd
      refine ev_iconst 12 rfl dX10_isDay_11 (by decide) ?_
      refine ev_goto (tgt := 16) dX10_isDay_12 (by decide) ?_
      exact ev_retZ dX10_isDay_16 rfl (by decide) H
