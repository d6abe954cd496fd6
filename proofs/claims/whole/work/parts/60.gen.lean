set_option maxRecDepth 20000 in
theorem b_X9_search_4 {X : qX} {d : Nat} {sh : qS} {pt h : qM} {K : Int → qM → Prop} {v2 v3 v4 : Int} (hst : St sh pt) (hsw0 : Sw sh pt)
    (H : RunV X d mX9_bar [(2, 28), (2, 2), (0, v2)] sh pt h (fun h1 => RunV X d mJ7_fill_031fb [(2, 136), (0, 0)] sh pt h1 (fun h2 => ∀ h3 : qM, h3 = qup h2 28 5 0 → (0 ≤ v2 ∧ v2 < 20) ∧ (0 ≤ v2 ∧ v2 < 20) ∧ RunI X d mX2_spot [(0, (h3 3 v2)), (0, (h3 4 v2))] sh pt h3 (fun r7 h6 => (0 ≤ v2 ∧ v2 < 20) ∧ ∀ x9 : Int, x9 = (qior (qishl r7 3) (h6 5 v2)) → RunV X d mX9_visit [(2, 28), (0, x9), (0, 3)] sh pt h6 (fun h10 => EvI X (d + 1) mX9_search 59 [(2, 28), (8, -1), (8, -1), (0, v3), (0, v4), (8, -1), (0, 0), (8, -1)] [] sh pt h10 K))))) :
    EvI X (d + 1) mX9_search 4 [(2, 28), (2, 2), (0, v2), (0, v3), (0, v4), (8, -1), (8, -1), (8, -1)] [] sh pt h K := by
  show Ev X (d + 1) 0 0 mX9_search 4 [(2, 28), (2, 2), (0, v2), (0, v3), (0, v4), (8, -1), (8, -1), (8, -1)] [] (sh, pt, h) (qRI sh pt K)
  refine ev_aload_n 5 rfl dX9_search_4 rfl rfl ?_
  refine ev_aload_n 6 rfl dX9_search_5 rfl rfl ?_
  refine ev_iload_n 7 rfl dX9_search_6 rfl rfl ?_
  refine ev_cVV (As := [(2, 2), (0, v2)]) (rest := []) 10 rfl dX9_search_7 lm_9_38 mm_X9_bar (s_28 hst) rfl rfl (Nat.le_of_ble_eq_true rfl) (Nat.le_of_ble_eq_true rfl) (Nat.le_refl _) H ?_
  intro h1 H
  refine ev_aload_n 11 rfl dX9_search_10 rfl rfl ?_
  refine ev_getR (ki := 3) (v := 136) 14 rfl dX9_search_11 lf_9_25 (s_28 hst) (by decide) rfl (pw_3 hsw0) ?_
  refine ev_iconst 15 rfl dX9_search_14 (by decide) ?_
  refine ev_cSV (As := [(2, 136), (0, 0)]) (rest := []) 18 rfl dX9_search_15 lm_9_42 mm_J7_fill_031fb rfl rfl (Nat.le_of_ble_eq_true rfl) (Nat.le_of_ble_eq_true rfl) (Nat.le_refl _) H ?_
  intro h2 H
  refine ev_aload_n 19 rfl dX9_search_18 rfl rfl ?_
  refine ev_iconst 20 rfl dX9_search_19 (by decide) ?_
  refine ev_putI (ki := 5) 23 rfl dX9_search_20 lf_9_32 (Or.inl rfl) (s_28 hst) (by decide) rfl ?_
  obtain ⟨h3, eh3⟩ : ∃ z : qM, z = qup h2 28 5 0 := ⟨_, rfl⟩
  rw [← eh3]
  have H := H h3 eh3
  refine ev_aload_n 24 rfl dX9_search_23 rfl rfl ?_
  refine ev_getR (ki := 0) (v := 3) 27 rfl dX9_search_24 lf_9_48 (s_2 hst) (by decide) rfl (p_2_0 hst) ?_
  refine ev_iload_n 28 rfl dX9_search_27 rfl rfl ?_
  obtain ⟨b4, H⟩ := H
  refine ev_iaload 29 rfl dX9_search_28 (s_3 hst) b4.1 b4.2 ?_
  refine ev_aload_n 30 rfl dX9_search_29 rfl rfl ?_
  refine ev_getR (ki := 1) (v := 4) 33 rfl dX9_search_30 lf_9_51 (s_2 hst) (by decide) rfl (p_2_1 hst) ?_
  refine ev_iload_n 34 rfl dX9_search_33 rfl rfl ?_
  obtain ⟨b5, H⟩ := H
  refine ev_iaload 35 rfl dX9_search_34 (s_4 hst) b5.1 b5.2 ?_
  refine ev_cSI (As := [(0, (h3 3 v2)), (0, (h3 4 v2))]) (rest := []) 38 rfl dX9_search_35 lm_9_54 mm_X2_spot rfl rfl (Nat.le_of_ble_eq_true rfl) (Nat.le_of_ble_eq_true rfl) (Nat.le_refl _) H ?_
  intro r7 h6 H
  refine ev_iconst 39 rfl dX9_search_38 (by decide) ?_
  refine ev_ishl 40 rfl dX9_search_39 ?_
  refine ev_aload_n 41 rfl dX9_search_40 rfl rfl ?_
  refine ev_getR (ki := 2) (v := 5) 44 rfl dX9_search_41 lf_9_58 (s_2 hst) (by decide) rfl (p_2_2 hst) ?_
  refine ev_iload_n 45 rfl dX9_search_44 rfl rfl ?_
  obtain ⟨b8, H⟩ := H
  refine ev_iaload 46 rfl dX9_search_45 (s_5 hst) b8.1 b8.2 ?_
  refine ev_ior 47 rfl dX9_search_46 ?_
  obtain ⟨x9, ex9⟩ : ∃ z : Int, z = (qior (qishl r7 3) (h6 5 v2)) := ⟨_, rfl⟩
  rw [← ex9]
  have H := H x9 ex9
  refine ev_istore (L1 := [(2, 28), (2, 2), (0, v2), (0, v3), (0, v4), (0, x9), (8, -1), (8, -1)]) 49 rfl dX9_search_47 (Nat.le_of_ble_eq_true rfl) rfl ?_
  refine ev_aload_n 50 rfl dX9_search_49 rfl rfl ?_
  refine ev_iload 52 rfl dX9_search_50 rfl ?_
  refine ev_iconst 53 rfl dX9_search_52 (by decide) ?_
  refine ev_cVV (As := [(0, x9), (0, 3)]) (rest := []) 56 rfl dX9_search_53 lm_9_61 mm_X9_visit (s_28 hst) rfl rfl (Nat.le_of_ble_eq_true rfl) (Nat.le_of_ble_eq_true rfl) (Nat.le_refl _) H ?_
  intro h10 H
  refine ev_iconst 57 rfl dX9_search_56 (by decide) ?_
  refine ev_istore (L1 := [(2, 28), (2, 2), (0, v2), (0, v3), (0, v4), (0, x9), (0, 0), (8, -1)]) 59 rfl dX9_search_57 (Nat.le_of_ble_eq_true rfl) rfl ?_
  refine Ev.drop [1, 2, 5] rfl ?_
  exact H

set_option maxRecDepth 20000 in
theorem b_X9_search_59 {X : qX} {d : Nat} {sh : qS} {pt h : qM} {K : Int → qM → Prop} {v3 v4 v6 : Int} (hst : St sh pt) (hsw0 : Sw sh pt)
    (H : (((h 28 5) ≤ v6 → K 0 h) ∧ (v6 < (h 28 5) → ((19200 ≤ v6 → K 0 h) ∧ (v6 < 19200 → (0 ≤ v6 ∧ v6 < 19200) ∧ ((¬ (qishr (h 137 v6) 3) = v3 → EvI X (d + 1) mX9_search 117 [(2, 28), (8, -1), (8, -1), (0, v3), (0, v4), (8, -1), (0, v6), (0, (h 137 v6))] [] sh pt h K) ∧ ((qishr (h 137 v6) 3) = v3 → ((v4 = (-1) → RunV X d mX9_keepMoves [(2, 28), (0, (h 137 v6))] sh pt h (fun h2 => K 1 h2)) ∧ (¬ v4 = (-1) → ((¬ (qiand (h 137 v6) 7) = v4 → EvI X (d + 1) mX9_search 117 [(2, 28), (8, -1), (8, -1), (0, v3), (0, v4), (8, -1), (0, v6), (0, (h 137 v6))] [] sh pt h K) ∧ ((qiand (h 137 v6) 7) = v4 → RunV X d mX9_keepMoves [(2, 28), (0, (h 137 v6))] sh pt h (fun h3 => K 1 h3)))))))))))) :
    EvI X (d + 1) mX9_search 59 [(2, 28), (8, -1), (8, -1), (0, v3), (0, v4), (8, -1), (0, v6), (8, -1)] [] sh pt h K := by
  show Ev X (d + 1) 0 0 mX9_search 59 [(2, 28), (8, -1), (8, -1), (0, v3), (0, v4), (8, -1), (0, v6), (8, -1)] [] (sh, pt, h) (qRI sh pt K)
  refine ev_iload 61 rfl dX9_search_59 rfl ?_
  refine ev_aload_n 62 rfl dX9_search_61 rfl rfl ?_
  refine ev_getI (ki := 5) 65 rfl dX9_search_62 lf_9_32 (Or.inl rfl) (s_28 hst) (by decide) rfl ?_
  refine ev_icmp_ge (tgt := 151) 68 rfl dX9_search_65 (by decide) (fun cd => ?_) (fun cd => ?_)
  · have H := H.1 cd
    refine ev_iconst 152 rfl dX9_search_151 (by decide) ?_
    exact ev_retZ dX9_search_152 rfl (by decide) H
  · have H := H.2 cd
    refine ev_iload 70 rfl dX9_search_68 rfl ?_
    refine ev_sipush 73 rfl dX9_search_70 (by decide) (by decide) ?_
    refine ev_icmp_ge (tgt := 151) 76 rfl dX9_search_73 (by decide) (fun cd => ?_) (fun cd => ?_)
    · have H := H.1 cd
      refine ev_iconst 152 rfl dX9_search_151 (by decide) ?_
      exact ev_retZ dX9_search_152 rfl (by decide) H
    · have H := H.2 cd
      refine ev_aload_n 77 rfl dX9_search_76 rfl rfl ?_
      refine ev_getR (ki := 4) (v := 137) 80 rfl dX9_search_77 lf_9_28 (s_28 hst) (by decide) rfl (pw_4 hsw0) ?_
      refine ev_iload 82 rfl dX9_search_80 rfl ?_
      obtain ⟨b1, H⟩ := H
      refine ev_iaload 83 rfl dX9_search_82 (sw_137 hsw0) b1.1 b1.2 ?_
      refine ev_istore (L1 := [(2, 28), (8, -1), (8, -1), (0, v3), (0, v4), (8, -1), (0, v6), (0, (h 137 v6))]) 85 rfl dX9_search_83 (Nat.le_of_ble_eq_true rfl) rfl ?_
      refine ev_iload 87 rfl dX9_search_85 rfl ?_
      refine ev_iconst 88 rfl dX9_search_87 (by decide) ?_
      refine ev_ishr 89 rfl dX9_search_88 ?_
      refine ev_iload_n 90 rfl dX9_search_89 rfl rfl ?_
      refine ev_icmp_ne (tgt := 117) 93 rfl dX9_search_90 (by decide) (fun cd => ?_) (fun cd => ?_)
      · have H := H.1 cd
        exact H
      · have H := H.2 cd
        refine ev_iload 95 rfl dX9_search_93 rfl ?_
        refine ev_iconst 96 rfl dX9_search_95 (by decide) ?_
        refine ev_icmp_eq (tgt := 109) 99 rfl dX9_search_96 (by decide) (fun cd => ?_) (fun cd => ?_)
        · have H := H.1 cd
          refine ev_aload_n 110 rfl dX9_search_109 rfl rfl ?_
          refine ev_iload 112 rfl dX9_search_110 rfl ?_
          refine ev_cVV (As := [(0, (h 137 v6))]) (rest := []) 115 rfl dX9_search_112 lm_9_65 mm_X9_keepMoves (s_28 hst) rfl rfl (Nat.le_of_ble_eq_true rfl) (Nat.le_of_ble_eq_true rfl) (Nat.le_refl _) H ?_
          intro h2 H
          refine ev_iconst 116 rfl dX9_search_115 (by decide) ?_
          exact ev_retZ dX9_search_116 rfl (by decide) H
        · have H := H.2 cd
          refine ev_iload 101 rfl dX9_search_99 rfl ?_
          refine ev_bipush 103 rfl dX9_search_101 (by decide) (by decide) ?_
          refine ev_iand 104 rfl dX9_search_103 ?_
          refine ev_iload 106 rfl dX9_search_104 rfl ?_
          refine ev_icmp_ne (tgt := 117) 109 rfl dX9_search_106 (by decide) (fun cd => ?_) (fun cd => ?_)
          · have H := H.1 cd
            exact H
          · have H := H.2 cd
            refine ev_aload_n 110 rfl dX9_search_109 rfl rfl ?_
            refine ev_iload 112 rfl dX9_search_110 rfl ?_
            refine ev_cVV (As := [(0, (h 137 v6))]) (rest := []) 115 rfl dX9_search_112 lm_9_65 mm_X9_keepMoves (s_28 hst) rfl rfl (Nat.le_of_ble_eq_true rfl) (Nat.le_of_ble_eq_true rfl) (Nat.le_refl _) H ?_
            intro h3 H
            refine ev_iconst 116 rfl dX9_search_115 (by decide) ?_
            exact ev_retZ dX9_search_116 rfl (by decide) H

set_option maxRecDepth 20000 in
theorem b_X9_search_117 {X : qX} {d : Nat} {sh : qS} {pt h : qM} {K : Int → qM → Prop} {v3 v4 v6 v7 : Int} (hst : St sh pt)
    (H : RunV X d mX9_visitAhead [(2, 28), (0, v7)] sh pt h (fun h1 => RunI X d mX9_turned [(0, v7), (0, 1)] sh pt h1 (fun r3 h2 => RunV X d mX9_visit [(2, 28), (0, r3), (0, 1)] sh pt h2 (fun h4 => RunI X d mX9_turned [(0, v7), (0, (-1))] sh pt h4 (fun r6 h5 => RunV X d mX9_visit [(2, 28), (0, r6), (0, 2)] sh pt h5 (fun h7 => (qI (v6 + 1)) ∧ EvI X (d + 1) mX9_search 59 [(2, 28), (8, -1), (8, -1), (0, v3), (0, v4), (8, -1), (0, (v6 + 1)), (8, -1)] [] sh pt h7 K)))))) :
    EvI X (d + 1) mX9_search 117 [(2, 28), (8, -1), (8, -1), (0, v3), (0, v4), (8, -1), (0, v6), (0, v7)] [] sh pt h K := by
  show Ev X (d + 1) 0 0 mX9_search 117 [(2, 28), (8, -1), (8, -1), (0, v3), (0, v4), (8, -1), (0, v6), (0, v7)] [] (sh, pt, h) (qRI sh pt K)
  refine ev_aload_n 118 rfl dX9_search_117 rfl rfl ?_
  refine ev_iload 120 rfl dX9_search_118 rfl ?_
  refine ev_cVV (As := [(0, v7)]) (rest := []) 123 rfl dX9_search_120 lm_9_69 mm_X9_visitAhead (s_28 hst) rfl rfl (Nat.le_of_ble_eq_true rfl) (Nat.le_of_ble_eq_true rfl) (Nat.le_refl _) H ?_
  intro h1 H
  refine ev_aload_n 124 rfl dX9_search_123 rfl rfl ?_
  refine ev_iload 126 rfl dX9_search_124 rfl ?_
  refine ev_iconst 127 rfl dX9_search_126 (by decide) ?_
  refine ev_cSI (As := [(0, v7), (0, 1)]) (rest := [(2, 28)]) 130 rfl dX9_search_127 lm_9_72 mm_X9_turned rfl rfl (Nat.le_of_ble_eq_true rfl) (Nat.le_of_ble_eq_true rfl) (Nat.le_refl _) H ?_
  intro r3 h2 H
  refine ev_iconst 131 rfl dX9_search_130 (by decide) ?_
  refine ev_cVV (As := [(0, r3), (0, 1)]) (rest := []) 134 rfl dX9_search_131 lm_9_61 mm_X9_visit (s_28 hst) rfl rfl (Nat.le_of_ble_eq_true rfl) (Nat.le_of_ble_eq_true rfl) (Nat.le_refl _) H ?_
  intro h4 H
  refine ev_aload_n 135 rfl dX9_search_134 rfl rfl ?_
  refine ev_iload 137 rfl dX9_search_135 rfl ?_
  refine ev_iconst 138 rfl dX9_search_137 (by decide) ?_
  refine ev_cSI (As := [(0, v7), (0, (-1))]) (rest := [(2, 28)]) 141 rfl dX9_search_138 lm_9_72 mm_X9_turned rfl rfl (Nat.le_of_ble_eq_true rfl) (Nat.le_of_ble_eq_true rfl) (Nat.le_refl _) H ?_
  intro r6 h5 H
  refine ev_iconst 142 rfl dX9_search_141 (by decide) ?_
  refine ev_cVV (As := [(0, r6), (0, 2)]) (rest := []) 145 rfl dX9_search_142 lm_9_61 mm_X9_visit (s_28 hst) rfl rfl (Nat.le_of_ble_eq_true rfl) (Nat.le_of_ble_eq_true rfl) (Nat.le_refl _) H ?_
  intro h7 H
  obtain ⟨sd, H⟩ := H
  refine ev_iinc (L1 := [(2, 28), (8, -1), (8, -1), (0, v3), (0, v4), (8, -1), (0, (v6 + 1)), (0, v7)]) 148 rfl dX9_search_145 rfl sd (Nat.le_of_ble_eq_true rfl) rfl ?_
  refine ev_goto (tgt := 59) dX9_search_148 (by decide) ?_
  refine Ev.drop [7] rfl ?_
  exact H

set_option maxRecDepth 20000 in
theorem b_X10_path_64 {X : qX} {d : Nat} {sh : qS} {pt h : qM} {K : Int → qM → Prop} {u0 : Int} (hst : St sh pt)
    (H : ((¬ u0 = 0 → RunI X d mX10_answer [(2, 0), (0, (h 28 0))] sh pt h (fun r2 h1 => K r2 h1)) ∧ (u0 = 0 → RunI X d mX10_none [(2, 0), (0, 8)] sh pt h (fun r4 h3 => K r4 h3)))) :
    EvI X (d + 1) mX10_path 64 [(2, 0), (8, -1), (8, -1), (8, -1), (8, -1)] [(0, u0)] sh pt h K := by
  show Ev X (d + 1) 0 0 mX10_path 64 [(2, 0), (8, -1), (8, -1), (8, -1), (8, -1)] [(0, u0)] (sh, pt, h) (qRI sh pt K)
  refine ev_if_ne (tgt := 74) 67 rfl dX10_path_64 (by decide) (fun cd => ?_) (fun cd => ?_)
  · have H := H.1 cd
    refine ev_aload_n 75 rfl dX10_path_74 rfl rfl ?_
    refine ev_aload_n 76 rfl dX10_path_75 rfl rfl ?_
    refine ev_getR (ki := 5) (v := 28) 79 rfl dX10_path_76 lf_10_46 (s_0 hst) (by decide) rfl (p_0_5 hst) ?_
    refine ev_getI (ki := 0) 82 rfl dX10_path_79 lf_10_316 (Or.inl rfl) (s_28 hst) (by decide) rfl ?_
    refine ev_cVI (As := [(0, (h 28 0))]) (rest := []) 85 rfl dX10_path_82 lm_10_162 mm_X10_answer (s_0 hst) rfl rfl (Nat.le_of_ble_eq_true rfl) (Nat.le_of_ble_eq_true rfl) (Nat.le_refl _) H ?_
    intro r2 h1 H
    exact ev_retI dX10_path_85 rfl H
  · have H := H.2 cd
    refine ev_aload_n 68 rfl dX10_path_67 rfl rfl ?_
    refine ev_bipush 70 rfl dX10_path_68 (by decide) (by decide) ?_
    refine ev_cVI (As := [(0, 8)]) (rest := []) 73 rfl dX10_path_70 lm_10_124 mm_X10_none (s_0 hst) rfl rfl (Nat.le_of_ble_eq_true rfl) (Nat.le_of_ble_eq_true rfl) (Nat.le_refl _) H ?_
    intro r4 h3 H
    exact ev_retI dX10_path_73 rfl H

set_option maxRecDepth 20000 in
theorem c_X10_path {X : qX} {d rc rs : Nat} {sh : qS} {pt h : qM} {Q : Option qV → qG → Prop} {v1 v2 v3 v4 : Int} (hst : St sh pt)
    (H : RunI X d mX2_hasMarcher [(2, 2), (0, v1)] sh pt h (fun r2 h1 => ((¬ r2 = 0 → RunI X d mX2_isSpot [(0, v2), (0, v3)] sh pt h1 (fun r4 h3 => ((r4 = 0 → RunI X d mX10_none [(2, 0), (0, 5)] sh pt h3 (fun r6 h5 => Q (some (0, r6)) (sh, pt, h5))) ∧ (¬ r4 = 0 → ((v4 = (-1) → Ev X (d + 1) rc rs mX10_path 45 [(2, 0), (0, v1), (0, v2), (0, v3), (0, v4)] [] (sh, pt, h3) Q) ∧ (¬ v4 = (-1) → RunI X d mX2_isFace [(0, v4)] sh pt h3 (fun r8 h7 => ((¬ r8 = 0 → Ev X (d + 1) rc rs mX10_path 45 [(2, 0), (0, v1), (0, v2), (0, v3), (0, v4)] [] (sh, pt, h7) Q) ∧ (r8 = 0 → RunI X d mX10_none [(2, 0), (0, 5)] sh pt h7 (fun r10 h9 => Q (some (0, r10)) (sh, pt, h9))))))))))) ∧ (r2 = 0 → RunI X d mX10_none [(2, 0), (0, 2)] sh pt h1 (fun r12 h11 => Q (some (0, r12)) (sh, pt, h11)))))) :
    Ev X (d + 1) rc rs mX10_path 0 [(2, 0), (0, v1), (0, v2), (0, v3), (0, v4)] [] (sh, pt, h) Q := by
  refine ev_aload_n 1 rfl dX10_path_0 rfl rfl ?_
  refine ev_getR (ki := 1) (v := 2) 4 rfl dX10_path_1 lf_10_18 (s_0 hst) (by decide) rfl (p_0_1 hst) ?_
  refine ev_iload_n 5 rfl dX10_path_4 rfl rfl ?_
  refine ev_cVI (As := [(0, v1)]) (rest := []) 8 rfl dX10_path_5 lm_10_309 mm_X2_hasMarcher (s_2 hst) rfl rfl (Nat.le_of_ble_eq_true rfl) (Nat.le_of_ble_eq_true rfl) (Nat.le_refl _) H ?_
  intro r2 h1 H
  refine ev_if_ne (tgt := 17) 11 rfl dX10_path_8 (by decide) (fun cd => ?_) (fun cd => ?_)
  · have H := H.1 cd
    refine ev_iload_n 18 rfl dX10_path_17 rfl rfl ?_
    refine ev_iload_n 19 rfl dX10_path_18 rfl rfl ?_
    refine ev_cSI (As := [(0, v2), (0, v3)]) (rest := []) 22 rfl dX10_path_19 lm_10_149 mm_X2_isSpot rfl rfl (Nat.le_of_ble_eq_true rfl) (Nat.le_of_ble_eq_true rfl) (Nat.le_refl _) H ?_
    intro r4 h3 H
    refine ev_if_eq (tgt := 39) 25 rfl dX10_path_22 (by decide) (fun cd => ?_) (fun cd => ?_)
    · have H := H.1 cd
      refine ev_aload_n 40 rfl dX10_path_39 rfl rfl ?_
      refine ev_iconst 41 rfl dX10_path_40 (by decide) ?_
      refine ev_cVI (As := [(0, 5)]) (rest := []) 44 rfl dX10_path_41 lm_10_124 mm_X10_none (s_0 hst) rfl rfl (Nat.le_of_ble_eq_true rfl) (Nat.le_of_ble_eq_true rfl) (Nat.le_refl _) H ?_
      intro r6 h5 H
      exact ev_ireturn dX10_path_44 (Or.inl rfl) H
    · have H := H.2 cd
      refine ev_iload 27 rfl dX10_path_25 rfl ?_
      refine ev_iconst 28 rfl dX10_path_27 (by decide) ?_
      refine ev_icmp_eq (tgt := 45) 31 rfl dX10_path_28 (by decide) (fun cd => ?_) (fun cd => ?_)
      · have H := H.1 cd
        exact H
      · have H := H.2 cd
        refine ev_iload 33 rfl dX10_path_31 rfl ?_
        refine ev_cSI (As := [(0, v4)]) (rest := []) 36 rfl dX10_path_33 lm_10_152 mm_X2_isFace rfl rfl (Nat.le_of_ble_eq_true rfl) (Nat.le_of_ble_eq_true rfl) (Nat.le_refl _) H ?_
        intro r8 h7 H
        refine ev_if_ne (tgt := 45) 39 rfl dX10_path_36 (by decide) (fun cd => ?_) (fun cd => ?_)
        · have H := H.1 cd
          exact H
        · have H := H.2 cd
          refine ev_aload_n 40 rfl dX10_path_39 rfl rfl ?_
          refine ev_iconst 41 rfl dX10_path_40 (by decide) ?_
          refine ev_cVI (As := [(0, 5)]) (rest := []) 44 rfl dX10_path_41 lm_10_124 mm_X10_none (s_0 hst) rfl rfl (Nat.le_of_ble_eq_true rfl) (Nat.le_of_ble_eq_true rfl) (Nat.le_refl _) H ?_
          intro r10 h9 H
          exact ev_ireturn dX10_path_44 (Or.inl rfl) H
  · have H := H.2 cd
    refine ev_aload_n 12 rfl dX10_path_11 rfl rfl ?_
    refine ev_iconst 13 rfl dX10_path_12 (by decide) ?_
    refine ev_cVI (As := [(0, 2)]) (rest := []) 16 rfl dX10_path_13 lm_10_124 mm_X10_none (s_0 hst) rfl rfl (Nat.le_of_ble_eq_true rfl) (Nat.le_of_ble_eq_true rfl) (Nat.le_refl _) H ?_
    intro r12 h11 H
    exact ev_ireturn dX10_path_16 (Or.inl rfl) H

set_option maxRecDepth 20000 in
theorem c_X10_path_45 {X : qX} {d rc rs : Nat} {sh : qS} {pt h : qM} {Q : Option qV → qG → Prop} {v1 v2 v3 v4 : Int} (hst : St sh pt)
    (H : RunI X d mX2_spot [(0, v2), (0, v3)] sh pt h (fun r2 h1 => Ev X (d + 1) rc rs mX10_path 61 [(2, 0), (8, -1), (8, -1), (8, -1), (8, -1)] [(0, v4), (0, r2), (0, v1), (2, 2), (2, 28)] (sh, pt, h1) Q)) :
    Ev X (d + 1) rc rs mX10_path 45 [(2, 0), (0, v1), (0, v2), (0, v3), (0, v4)] [] (sh, pt, h) Q := by
  refine ev_aload_n 46 rfl dX10_path_45 rfl rfl ?_
  refine ev_getR (ki := 5) (v := 28) 49 rfl dX10_path_46 lf_10_46 (s_0 hst) (by decide) rfl (p_0_5 hst) ?_
  refine ev_aload_n 50 rfl dX10_path_49 rfl rfl ?_
  refine ev_getR (ki := 1) (v := 2) 53 rfl dX10_path_50 lf_10_18 (s_0 hst) (by decide) rfl (p_0_1 hst) ?_
  refine ev_iload_n 54 rfl dX10_path_53 rfl rfl ?_
  refine ev_iload_n 55 rfl dX10_path_54 rfl rfl ?_
  refine ev_iload_n 56 rfl dX10_path_55 rfl rfl ?_
  refine ev_cSI (As := [(0, v2), (0, v3)]) (rest := [(0, v1), (2, 2), (2, 28)]) 59 rfl dX10_path_56 lm_10_310 mm_X2_spot rfl rfl (Nat.le_of_ble_eq_true rfl) (Nat.le_of_ble_eq_true rfl) (Nat.le_refl _) H ?_
  intro r2 h1 H
  refine ev_iload 61 rfl dX10_path_59 rfl ?_
  refine Ev.drop [1, 2, 3, 4] rfl ?_
  exact H
