set_option maxRecDepth 20000 in
theorem b_X4_hasRoomForTwenty {X : qX} {d : Nat} {sh : qS} {pt h : qM} {K : Int → qM → Prop} (hst : St sh pt)
    (H : ((480 < (h 9 1) → K 0 h) ∧ ((h 9 1) ≤ 480 → K 1 h))) :
    RunI X d mX4_hasRoomForTwenty [(2, 9)] sh pt h K := by
  show Ev X d 0 0 mX4_hasRoomForTwenty 0 [(2, 9)] [] (sh, pt, h) (qRI sh pt K)
  refine ev_aload_n 1 rfl dX4_hasRoomForTwenty_0 rfl rfl ?_
  refine ev_getI (ki := 1) 4 rfl dX4_hasRoomForTwenty_1 lf_4_15 (Or.inl rfl) (s_9 hst) (by decide) rfl ?_
  refine ev_sipush 7 rfl dX4_hasRoomForTwenty_4 (by decide) (by decide) ?_
  refine ev_icmp_gt (tgt := 14) 10 rfl dX4_hasRoomForTwenty_7 (by decide) (fun cd => ?_) (fun cd => ?_)
  · have H := H.1 cd
    refine ev_iconst 15 rfl dX4_hasRoomForTwenty_14 (by decide) ?_
    exact ev_retZ dX4_hasRoomForTwenty_15 rfl (by decide) H
  · have H := H.2 cd
    refine ev_iconst 11 rfl dX4_hasRoomForTwenty_10 (by decide) ?_
    refine ev_goto (tgt := 15) dX4_hasRoomForTwenty_11 (by decide) ?_
    exact ev_retZ dX4_hasRoomForTwenty_15 rfl (by decide) H

set_option maxRecDepth 20000 in
theorem b_X4_append {X : qX} {d : Nat} {sh : qS} {pt h : qM} {K : qM → Prop} {v1 : Int} (hst : St sh pt)
    (H : EvV X d mX4_append 3 [(2, 9), (0, v1), (0, 24)] [] sh pt h K) :
    RunV X d mX4_append [(2, 9), (0, v1)] sh pt h K := by
  show Ev X d 0 0 mX4_append 0 [(2, 9), (0, v1), (8, -1)] [] (sh, pt, h) (qRV sh pt K)
  refine ev_bipush 2 rfl dX4_append_0 (by decide) (by decide) ?_
  refine ev_istore_n (L1 := [(2, 9), (0, v1), (0, 24)]) 3 rfl dX4_append_2 rfl (Nat.le_of_ble_eq_true rfl) rfl ?_
  exact H

set_option maxRecDepth 20000 in
theorem b_X4_append_3 {X : qX} {d : Nat} {sh : qS} {pt h : qM} {K : qM → Prop} {v1 v2 : Int} (hst : St sh pt)
    (H : ((v2 < 0 → K h) ∧ (0 ≤ v2 → ((500 ≤ (h 9 1) → K h) ∧ ((h 9 1) < 500 → (0 ≤ (h 9 1) ∧ (h 9 1) < 500) ∧ ∀ h2 : qM, h2 = qup h 10 (h 9 1) (qiand (qiushr v1 v2) 255) → (qI ((h2 9 1) + 1)) ∧ ∀ h3 : qM, h3 = qup h2 9 1 ((h2 9 1) + 1) → (qI (v2 + (-8))) ∧ EvV X d mX4_append 3 [(2, 9), (0, v1), (0, (v2 + (-8)))] [] sh pt h3 K))))) :
    EvV X d mX4_append 3 [(2, 9), (0, v1), (0, v2)] [] sh pt h K := by
  show Ev X d 0 0 mX4_append 3 [(2, 9), (0, v1), (0, v2)] [] (sh, pt, h) (qRV sh pt K)
  refine ev_iload_n 4 rfl dX4_append_3 rfl rfl ?_
  refine ev_if_lt (tgt := 49) 7 rfl dX4_append_4 (by decide) (fun cd => ?_) (fun cd => ?_)
  · have H := H.1 cd
    exact ev_retV dX4_append_49 rfl H
  · have H := H.2 cd
    refine ev_aload_n 8 rfl dX4_append_7 rfl rfl ?_
    refine ev_getI (ki := 1) 11 rfl dX4_append_8 lf_4_15 (Or.inl rfl) (s_9 hst) (by decide) rfl ?_
    refine ev_sipush 14 rfl dX4_append_11 (by decide) (by decide) ?_
    refine ev_icmp_ge (tgt := 49) 17 rfl dX4_append_14 (by decide) (fun cd => ?_) (fun cd => ?_)
    · have H := H.1 cd
      exact ev_retV dX4_append_49 rfl H
    · have H := H.2 cd
      refine ev_aload_n 18 rfl dX4_append_17 rfl rfl ?_
      refine ev_getR (ki := 0) (v := 10) 21 rfl dX4_append_18 lf_4_11 (s_9 hst) (by decide) rfl (p_9_0 hst) ?_
      refine ev_aload_n 22 rfl dX4_append_21 rfl rfl ?_
      refine ev_getI (ki := 1) 25 rfl dX4_append_22 lf_4_15 (Or.inl rfl) (s_9 hst) (by decide) rfl ?_
      refine ev_iload_n 26 rfl dX4_append_25 rfl rfl ?_
      refine ev_iload_n 27 rfl dX4_append_26 rfl rfl ?_
      refine ev_iushr 28 rfl dX4_append_27 ?_
      refine ev_sipush 31 rfl dX4_append_28 (by decide) (by decide) ?_
      refine ev_iand 32 rfl dX4_append_31 ?_
      obtain ⟨b1, H⟩ := H
      refine ev_iastore 33 rfl dX4_append_32 (s_10 hst) b1.1 b1.2 ?_
      obtain ⟨h2, eh2⟩ : ∃ z : qM, z = qup h 10 (h 9 1) (qiand (qiushr v1 v2) 255) := ⟨_, rfl⟩
      rw [← eh2]
      have H := H h2 eh2
      refine ev_aload_n 34 rfl dX4_append_33 rfl rfl ?_
      refine ev_dup 35 rfl dX4_append_34 q21 ?_
      refine ev_getI (ki := 1) 38 rfl dX4_append_35 lf_4_15 (Or.inl rfl) (s_9 hst) (by decide) rfl ?_
      refine ev_iconst 39 rfl dX4_append_38 (by decide) ?_
      obtain ⟨sd, H⟩ := H
      refine ev_iadd 40 rfl dX4_append_39 sd ?_
      refine ev_putI (ki := 1) 43 rfl dX4_append_40 lf_4_15 (Or.inl rfl) (s_9 hst) (by decide) rfl ?_
      obtain ⟨h3, eh3⟩ : ∃ z : qM, z = qup h2 9 1 ((h2 9 1) + 1) := ⟨_, rfl⟩
      rw [← eh3]
      have H := H h3 eh3
      obtain ⟨sd, H⟩ := H
      refine ev_iinc (L1 := [(2, 9), (0, v1), (0, (v2 + (-8)))]) 46 rfl dX4_append_43 rfl sd (Nat.le_of_ble_eq_true rfl) rfl ?_
      refine ev_goto (tgt := 3) dX4_append_46 (by decide) ?_
      exact H

set_option maxRecDepth 20000 in
theorem b_X4_readText {X : qX} {d : Nat} {sh : qS} {pt h : qM} {K : qM → Prop} {v1 t : Int} (hst : St sh pt) (ht : isT t)
    (H : RunI X d mJ9_min_7cf53 [(0, v1), (0, (h 9 1))] sh pt h (fun r2 h1 => ∀ h3 : qM, h3 = qup h1 9 4 r2 → ∀ h4 : qM, h4 = qup h3 9 5 0 → ∀ h5 : qM, h5 = qup h4 9 2 0 → ∀ h6 : qM, h6 = qup h5 9 3 (-1) → ∀ h7 : qM, h7 = qup h6 9 9 0 → ∀ h8 : qM, h8 = qup h7 9 11 0 → ∀ h9 : qM, h9 = qup h8 9 13 0 → ∀ h10 : qM, h10 = qup h9 9 14 0 → RunV X d mX7_clear [(2, t)] sh pt h10 (fun h11 => EvV X (d + 1) mX4_readText 54 [(2, 9), (8, -1), (2, t), (2, 2), (0, 0)] [] sh pt h11 K))) :
    RunV X (d + 1) mX4_readText [(2, 9), (0, v1), (2, t), (2, 2)] sh pt h K := by
  show Ev X (d + 1) 0 0 mX4_readText 0 [(2, 9), (0, v1), (2, t), (2, 2), (8, -1)] [] (sh, pt, h) (qRV sh pt K)
  refine ev_aload_n 1 rfl dX4_readText_0 rfl rfl ?_
  refine ev_iload_n 2 rfl dX4_readText_1 rfl rfl ?_
  refine ev_aload_n 3 rfl dX4_readText_2 rfl rfl ?_
  refine ev_getI (ki := 1) 6 rfl dX4_readText_3 lf_4_15 (Or.inl rfl) (s_9 hst) (by decide) rfl ?_
  refine ev_cSI (As := [(0, v1), (0, (h 9 1))]) (rest := [(2, 9)]) 9 rfl dX4_readText_6 lm_4_60 mm_J9_min_7cf53 rfl rfl (Nat.le_of_ble_eq_true rfl) (Nat.le_of_ble_eq_true rfl) (Nat.le_refl _) H ?_
  intro r2 h1 H
  refine ev_putI (ki := 4) 12 rfl dX4_readText_9 lf_4_25 (Or.inl rfl) (s_9 hst) (by decide) rfl ?_
  obtain ⟨h3, eh3⟩ : ∃ z : qM, z = qup h1 9 4 r2 := ⟨_, rfl⟩
  rw [← eh3]
  have H := H h3 eh3
  refine ev_aload_n 13 rfl dX4_readText_12 rfl rfl ?_
  refine ev_iconst 14 rfl dX4_readText_13 (by decide) ?_
  refine ev_putI (ki := 5) 17 rfl dX4_readText_14 lf_4_28 (Or.inl rfl) (s_9 hst) (by decide) rfl ?_
  obtain ⟨h4, eh4⟩ : ∃ z : qM, z = qup h3 9 5 0 := ⟨_, rfl⟩
  rw [← eh4]
  have H := H h4 eh4
  refine ev_aload_n 18 rfl dX4_readText_17 rfl rfl ?_
  refine ev_iconst 19 rfl dX4_readText_18 (by decide) ?_
  refine ev_putI (ki := 2) 22 rfl dX4_readText_19 lf_4_19 (Or.inl rfl) (s_9 hst) (by decide) rfl ?_
  obtain ⟨h5, eh5⟩ : ∃ z : qM, z = qup h4 9 2 0 := ⟨_, rfl⟩
  rw [← eh5]
  have H := H h5 eh5
  refine ev_aload_n 23 rfl dX4_readText_22 rfl rfl ?_
  refine ev_iconst 24 rfl dX4_readText_23 (by decide) ?_
  refine ev_putI (ki := 3) 27 rfl dX4_readText_24 lf_4_22 (Or.inl rfl) (s_9 hst) (by decide) rfl ?_
  obtain ⟨h6, eh6⟩ : ∃ z : qM, z = qup h5 9 3 (-1) := ⟨_, rfl⟩
  rw [← eh6]
  have H := H h6 eh6
  refine ev_aload_n 28 rfl dX4_readText_27 rfl rfl ?_
  refine ev_iconst 29 rfl dX4_readText_28 (by decide) ?_
  refine ev_putI (ki := 9) 32 rfl dX4_readText_29 lf_4_41 (Or.inl rfl) (s_9 hst) (by decide) rfl ?_
  obtain ⟨h7, eh7⟩ : ∃ z : qM, z = qup h6 9 9 0 := ⟨_, rfl⟩
  rw [← eh7]
  have H := H h7 eh7
  refine ev_aload_n 33 rfl dX4_readText_32 rfl rfl ?_
  refine ev_iconst 34 rfl dX4_readText_33 (by decide) ?_
  refine ev_putI (ki := 11) 37 rfl dX4_readText_34 lf_4_47 (Or.inr ⟨rfl, by decide, by decide⟩) (s_9 hst) (by decide) rfl ?_
  obtain ⟨h8, eh8⟩ : ∃ z : qM, z = qup h7 9 11 0 := ⟨_, rfl⟩
  rw [← eh8]
  have H := H h8 eh8
  refine ev_aload_n 38 rfl dX4_readText_37 rfl rfl ?_
  refine ev_iconst 39 rfl dX4_readText_38 (by decide) ?_
  refine ev_putI (ki := 13) 42 rfl dX4_readText_39 lf_4_54 (Or.inl rfl) (s_9 hst) (by decide) rfl ?_
  obtain ⟨h9, eh9⟩ : ∃ z : qM, z = qup h8 9 13 0 := ⟨_, rfl⟩
  rw [← eh9]
  have H := H h9 eh9
  refine ev_aload_n 43 rfl dX4_readText_42 rfl rfl ?_
  refine ev_iconst 44 rfl dX4_readText_43 (by decide) ?_
  refine ev_putI (ki := 14) 47 rfl dX4_readText_44 lf_4_57 (Or.inl rfl) (s_9 hst) (by decide) rfl ?_
  obtain ⟨h10, eh10⟩ : ∃ z : qM, z = qup h9 9 14 0 := ⟨_, rfl⟩
  rw [← eh10]
  have H := H h10 eh10
  refine ev_aload_n 48 rfl dX4_readText_47 rfl rfl ?_
  refine ev_cVV (As := []) (rest := []) 51 rfl dX4_readText_48 lm_4_66 mm_X7_clear (sT hst ht) rfl rfl (Nat.le_of_ble_eq_true rfl) (Nat.le_of_ble_eq_true rfl) (Nat.le_refl _) H ?_
  intro h11 H
  refine ev_iconst 52 rfl dX4_readText_51 (by decide) ?_
  refine ev_istore (L1 := [(2, 9), (0, v1), (2, t), (2, 2), (0, 0)]) 54 rfl dX4_readText_52 (Nat.le_of_ble_eq_true rfl) rfl ?_
  refine Ev.drop [1] rfl ?_
  exact H

set_option maxRecDepth 20000 in
theorem b_X4_readText_54 {X : qX} {d : Nat} {sh : qS} {pt h : qM} {K : qM → Prop} {t v4 : Int} (hst : St sh pt) (ht : isT t)
    (H : ((500 < v4 → ((¬ (h 9 2) = 0 → ∀ h1 : qM, h1 = qup h t 10 0 → K h1) ∧ ((h 9 2) = 0 → ∀ h2 : qM, h2 = qup h t 10 1 → K h2))) ∧ (v4 ≤ 500 → ((¬ (h 9 2) = 0 → ((¬ (h 9 2) = 0 → ∀ h3 : qM, h3 = qup h t 10 0 → K h3) ∧ ((h 9 2) = 0 → ∀ h4 : qM, h4 = qup h t 10 1 → K h4))) ∧ ((h 9 2) = 0 → RunV X d mX4_nextToken [(2, 9)] sh pt h (fun h5 => ((¬ (h5 9 6) = 1 → RunV X d mX4_takeToken [(2, 9), (2, t), (2, 2)] sh pt h5 (fun h6 => (qI (v4 + 1)) ∧ EvV X (d + 1) mX4_readText 54 [(2, 9), (8, -1), (2, t), (2, 2), (0, (v4 + 1))] [] sh pt h6 K)) ∧ ((h5 9 6) = 1 → ((¬ (h5 9 9) = 0 → RunV X d mX4_takeToken [(2, 9), (2, t), (2, 2)] sh pt h5 (fun h7 => (qI (v4 + 1)) ∧ EvV X (d + 1) mX4_readText 54 [(2, 9), (8, -1), (2, t), (2, 2), (0, (v4 + 1))] [] sh pt h7 K)) ∧ ((h5 9 9) = 0 → ((¬ (h5 9 2) = 0 → ∀ h8 : qM, h8 = qup h5 t 10 0 → K h8) ∧ ((h5 9 2) = 0 → ∀ h9 : qM, h9 = qup h5 t 10 1 → K h9)))))))))))) :
    EvV X (d + 1) mX4_readText 54 [(2, 9), (8, -1), (2, t), (2, 2), (0, v4)] [] sh pt h K := by
  show Ev X (d + 1) 0 0 mX4_readText 54 [(2, 9), (8, -1), (2, t), (2, 2), (0, v4)] [] (sh, pt, h) (qRV sh pt K)
  refine ev_iload 56 rfl dX4_readText_54 rfl ?_
  refine ev_sipush 59 rfl dX4_readText_56 (by decide) (by decide) ?_
  refine ev_icmp_gt (tgt := 103) 62 rfl dX4_readText_59 (by decide) (fun cd => ?_) (fun cd => ?_)
  · have H := H.1 cd
    refine ev_aload_n 104 rfl dX4_readText_103 rfl rfl ?_
    refine ev_aload_n 105 rfl dX4_readText_104 rfl rfl ?_
    refine ev_getI (ki := 2) 108 rfl dX4_readText_105 lf_4_19 (Or.inl rfl) (s_9 hst) (by decide) rfl ?_
    refine ev_if_ne (tgt := 115) 111 rfl dX4_readText_108 (by decide) (fun cd => ?_) (fun cd => ?_)
    · have H := H.1 cd
      refine ev_iconst 116 rfl dX4_readText_115 (by decide) ?_
      refine ev_putI (ki := 10) 119 rfl dX4_readText_116 lf_4_78 (Or.inr ⟨rfl, by decide, by decide⟩) (sT hst ht) (by decide) rfl ?_
      obtain ⟨h1, eh1⟩ : ∃ z : qM, z = qup h t 10 0 := ⟨_, rfl⟩
      rw [← eh1]
      have H := H h1 eh1
      exact ev_retV dX4_readText_119 rfl H
    · have H := H.2 cd
      refine ev_iconst 112 rfl dX4_readText_111 (by decide) ?_
      refine ev_goto (tgt := 116) dX4_readText_112 (by decide) ?_
      refine ev_putI (ki := 10) 119 rfl dX4_readText_116 lf_4_78 (Or.inr ⟨rfl, by decide, by decide⟩) (sT hst ht) (by decide) rfl ?_
      obtain ⟨h2, eh2⟩ : ∃ z : qM, z = qup h t 10 1 := ⟨_, rfl⟩
      rw [← eh2]
      have H := H h2 eh2
      exact ev_retV dX4_readText_119 rfl H
  · have H := H.2 cd
    refine ev_aload_n 63 rfl dX4_readText_62 rfl rfl ?_
    refine ev_getI (ki := 2) 66 rfl dX4_readText_63 lf_4_19 (Or.inl rfl) (s_9 hst) (by decide) rfl ?_
    refine ev_if_ne (tgt := 103) 69 rfl dX4_readText_66 (by decide) (fun cd => ?_) (fun cd => ?_)
    · have H := H.1 cd
      refine ev_aload_n 104 rfl dX4_readText_103 rfl rfl ?_
      refine ev_aload_n 105 rfl dX4_readText_104 rfl rfl ?_
      refine ev_getI (ki := 2) 108 rfl dX4_readText_105 lf_4_19 (Or.inl rfl) (s_9 hst) (by decide) rfl ?_
      refine ev_if_ne (tgt := 115) 111 rfl dX4_readText_108 (by decide) (fun cd => ?_) (fun cd => ?_)
      · have H := H.1 cd
        refine ev_iconst 116 rfl dX4_readText_115 (by decide) ?_
        refine ev_putI (ki := 10) 119 rfl dX4_readText_116 lf_4_78 (Or.inr ⟨rfl, by decide, by decide⟩) (sT hst ht) (by decide) rfl ?_
        obtain ⟨h3, eh3⟩ : ∃ z : qM, z = qup h t 10 0 := ⟨_, rfl⟩
        rw [← eh3]
        have H := H h3 eh3
        exact ev_retV dX4_readText_119 rfl H
      · have H := H.2 cd
        refine ev_iconst 112 rfl dX4_readText_111 (by decide) ?_
        refine ev_goto (tgt := 116) dX4_readText_112 (by decide) ?_
        refine ev_putI (ki := 10) 119 rfl dX4_readText_116 lf_4_78 (Or.inr ⟨rfl, by decide, by decide⟩) (sT hst ht) (by decide) rfl ?_
        obtain ⟨h4, eh4⟩ : ∃ z : qM, z = qup h t 10 1 := ⟨_, rfl⟩
        rw [← eh4]
        have H := H h4 eh4
        exact ev_retV dX4_readText_119 rfl H
    · have H := H.2 cd
      refine ev_aload_n 70 rfl dX4_readText_69 rfl rfl ?_
      refine ev_cVV (As := []) (rest := []) 73 rfl dX4_readText_70 lm_4_71 mm_X4_nextToken (s_9 hst) rfl rfl (Nat.le_of_ble_eq_true rfl) (Nat.le_of_ble_eq_true rfl) (Nat.le_refl _) H ?_
      intro h5 H
      refine ev_aload_n 74 rfl dX4_readText_73 rfl rfl ?_
      refine ev_getI (ki := 6) 77 rfl dX4_readText_74 lf_4_31 (Or.inl rfl) (s_9 hst) (by decide) rfl ?_
      refine ev_iconst 78 rfl dX4_readText_77 (by decide) ?_
      refine ev_icmp_ne (tgt := 91) 81 rfl dX4_readText_78 (by decide) (fun cd => ?_) (fun cd => ?_)
      · have H := H.1 cd
        refine ev_aload_n 92 rfl dX4_readText_91 rfl rfl ?_
        refine ev_aload_n 93 rfl dX4_readText_92 rfl rfl ?_
        refine ev_aload_n 94 rfl dX4_readText_93 rfl rfl ?_
        refine ev_cVV (As := [(2, t), (2, 2)]) (rest := []) 97 rfl dX4_readText_94 lm_4_74 mm_X4_takeToken (s_9 hst) rfl rfl (Nat.le_of_ble_eq_true rfl) (Nat.le_of_ble_eq_true rfl) (Nat.le_refl _) H ?_
        intro h6 H
        obtain ⟨sd, H⟩ := H
        refine ev_iinc (L1 := [(2, 9), (8, -1), (2, t), (2, 2), (0, (v4 + 1))]) 100 rfl dX4_readText_97 rfl sd (Nat.le_of_ble_eq_true rfl) rfl ?_
        refine ev_goto (tgt := 54) dX4_readText_100 (by decide) ?_
        exact H
      · have H := H.2 cd
        refine ev_aload_n 82 rfl dX4_readText_81 rfl rfl ?_
        refine ev_getI (ki := 9) 85 rfl dX4_readText_82 lf_4_41 (Or.inl rfl) (s_9 hst) (by decide) rfl ?_
        refine ev_if_ne (tgt := 91) 88 rfl dX4_readText_85 (by decide) (fun cd => ?_) (fun cd => ?_)
        · have H := H.1 cd
          refine ev_aload_n 92 rfl dX4_readText_91 rfl rfl ?_
          refine ev_aload_n 93 rfl dX4_readText_92 rfl rfl ?_
          refine ev_aload_n 94 rfl dX4_readText_93 rfl rfl ?_
          refine ev_cVV (As := [(2, t), (2, 2)]) (rest := []) 97 rfl dX4_readText_94 lm_4_74 mm_X4_takeToken (s_9 hst) rfl rfl (Nat.le_of_ble_eq_true rfl) (Nat.le_of_ble_eq_true rfl) (Nat.le_refl _) H ?_
          intro h7 H
          obtain ⟨sd, H⟩ := H
          refine ev_iinc (L1 := [(2, 9), (8, -1), (2, t), (2, 2), (0, (v4 + 1))]) 100 rfl dX4_readText_97 rfl sd (Nat.le_of_ble_eq_true rfl) rfl ?_
          refine ev_goto (tgt := 54) dX4_readText_100 (by decide) ?_
          exact H
        · have H := H.2 cd
          refine ev_goto (tgt := 103) dX4_readText_88 (by decide) ?_
          refine ev_aload_n 104 rfl dX4_readText_103 rfl rfl ?_
          refine ev_aload_n 105 rfl dX4_readText_104 rfl rfl ?_
          refine ev_getI (ki := 2) 108 rfl dX4_readText_105 lf_4_19 (Or.inl rfl) (s_9 hst) (by decide) rfl ?_
          refine ev_if_ne (tgt := 115) 111 rfl dX4_readText_108 (by decide) (fun cd => ?_) (fun cd => ?_)
          · have H := H.1 cd
            refine ev_iconst 116 rfl dX4_readText_115 (by decide) ?_
            refine ev_putI (ki := 10) 119 rfl dX4_readText_116 lf_4_78 (Or.inr ⟨rfl, by decide, by decide⟩) (sT hst ht) (by decide) rfl ?_
            obtain ⟨h8, eh8⟩ : ∃ z : qM, z = qup h5 t 10 0 := ⟨_, rfl⟩
            rw [← eh8]
            have H := H h8 eh8
            exact ev_retV dX4_readText_119 rfl H
          · have H := H.2 cd
            refine ev_iconst 112 rfl dX4_readText_111 (by decide) ?_
            refine ev_goto (tgt := 116) dX4_readText_112 (by decide) ?_
            refine ev_putI (ki := 10) 119 rfl dX4_readText_116 lf_4_78 (Or.inr ⟨rfl, by decide, by decide⟩) (sT hst ht) (by decide) rfl ?_
            obtain ⟨h9, eh9⟩ : ∃ z : qM, z = qup h5 t 10 1 := ⟨_, rfl⟩
            rw [← eh9]
            have H := H h9 eh9
            exact ev_retV dX4_readText_119 rfl H

set_option maxRecDepth 20000 in
theorem b_X4_takeToken {X : qX} {d : Nat} {sh : qS} {pt h : qM} {K : qM → Prop} {t : Int} (hst : St sh pt) (ht : isT t)
    (H : ((¬ (h 9 6) = 0 → (((h 9 9) = 0 → RunV X d mX4_takeName [(2, 9), (2, t), (2, 2)] sh pt h (fun h1 => K h1)) ∧ ((h 9 9) = 1 → RunV X d mX4_takeColon [(2, 9)] sh pt h (fun h2 => K h2)) ∧ ((h 9 9) = 2 → RunV X d mX4_takeOrder [(2, 9), (2, t)] sh pt h (fun h3 => K h3)) ∧ ((h 9 9) = 3 → RunV X d mX4_takeBrace [(2, 9)] sh pt h (fun h4 => K h4)) ∧ ((h 9 9) = 4 → RunV X d mX4_takeSide [(2, 9), (2, t)] sh pt h (fun h5 => K h5)) ∧ (((h 9 9) < 0 ∨ 4 < (h 9 9)) → RunV X d mX4_takeNumber [(2, 9), (2, t)] sh pt h (fun h6 => K h6)))) ∧ ((h 9 6) = 0 → RunV X d mX4_fail [(2, 9), (0, 1)] sh pt h (fun h7 => K h7)))) :
    RunV X (d + 1) mX4_takeToken [(2, 9), (2, t), (2, 2)] sh pt h K := by
  show Ev X (d + 1) 0 0 mX4_takeToken 0 [(2, 9), (2, t), (2, 2)] [] (sh, pt, h) (qRV sh pt K)
  refine ev_aload_n 1 rfl dX4_takeToken_0 rfl rfl ?_
  refine ev_getI (ki := 6) 4 rfl dX4_takeToken_1 lf_4_31 (Or.inl rfl) (s_9 hst) (by decide) rfl ?_
  refine ev_if_ne (tgt := 13) 7 rfl dX4_takeToken_4 (by decide) (fun cd => ?_) (fun cd => ?_)
  · have H := H.1 cd
    refine ev_aload_n 14 rfl dX4_takeToken_13 rfl rfl ?_
    refine ev_getI (ki := 9) 17 rfl dX4_takeToken_14 lf_4_41 (Or.inl rfl) (s_9 hst) (by decide) rfl ?_
    have hsw : (h 9 9) = 0 ∨ (h 9 9) = 1 ∨ (h 9 9) = 2 ∨ (h 9 9) = 3 ∨ (h 9 9) = 4 ∨ ((h 9 9) < 0 ∨ 4 < (h 9 9)) := by omega
    rcases hsw with cd | cd | cd | cd | cd | cd
    · have H := H.1 cd
      refine ev_tableIn (off := 35) (tgt := 52) dX4_takeToken_17 (by omega) (by omega) (by rw [cd]; rfl) (by decide) ?_
      refine ev_aload_n 53 rfl dX4_takeToken_52 rfl rfl ?_
      refine ev_aload_n 54 rfl dX4_takeToken_53 rfl rfl ?_
      refine ev_aload_n 55 rfl dX4_takeToken_54 rfl rfl ?_
      refine ev_cVV (As := [(2, t), (2, 2)]) (rest := []) 58 rfl dX4_takeToken_55 lm_4_85 mm_X4_takeName (s_9 hst) rfl rfl (Nat.le_of_ble_eq_true rfl) (Nat.le_of_ble_eq_true rfl) (Nat.le_refl _) H ?_
      intro h1 H
      refine ev_goto (tgt := 96) dX4_takeToken_58 (by decide) ?_
      exact ev_retV dX4_takeToken_96 rfl H
    · have H := H.2.1 cd
      refine ev_tableIn (off := 44) (tgt := 61) dX4_takeToken_17 (by omega) (by omega) (by rw [cd]; rfl) (by decide) ?_
      refine ev_aload_n 62 rfl dX4_takeToken_61 rfl rfl ?_
      refine ev_cVV (As := []) (rest := []) 65 rfl dX4_takeToken_62 lm_4_88 mm_X4_takeColon (s_9 hst) rfl rfl (Nat.le_of_ble_eq_true rfl) (Nat.le_of_ble_eq_true rfl) (Nat.le_refl _) H ?_
      intro h2 H
      refine ev_goto (tgt := 96) dX4_takeToken_65 (by decide) ?_
      exact ev_retV dX4_takeToken_96 rfl H
    · have H := H.2.2.1 cd
      refine ev_tableIn (off := 51) (tgt := 68) dX4_takeToken_17 (by omega) (by omega) (by rw [cd]; rfl) (by decide) ?_
      refine ev_aload_n 69 rfl dX4_takeToken_68 rfl rfl ?_
      refine ev_aload_n 70 rfl dX4_takeToken_69 rfl rfl ?_
      refine ev_cVV (As := [(2, t)]) (rest := []) 73 rfl dX4_takeToken_70 lm_4_91 mm_X4_takeOrder (s_9 hst) rfl rfl (Nat.le_of_ble_eq_true rfl) (Nat.le_of_ble_eq_true rfl) (Nat.le_refl _) H ?_
      intro h3 H
      refine ev_goto (tgt := 96) dX4_takeToken_73 (by decide) ?_
      exact ev_retV dX4_takeToken_96 rfl H
    · have H := H.2.2.2.1 cd
      refine ev_tableIn (off := 59) (tgt := 76) dX4_takeToken_17 (by omega) (by omega) (by rw [cd]; rfl) (by decide) ?_
      refine ev_aload_n 77 rfl dX4_takeToken_76 rfl rfl ?_
      refine ev_cVV (As := []) (rest := []) 80 rfl dX4_takeToken_77 lm_4_95 mm_X4_takeBrace (s_9 hst) rfl rfl (Nat.le_of_ble_eq_true rfl) (Nat.le_of_ble_eq_true rfl) (Nat.le_refl _) H ?_
      intro h4 H
      refine ev_goto (tgt := 96) dX4_takeToken_80 (by decide) ?_
      exact ev_retV dX4_takeToken_96 rfl H
    · have H := H.2.2.2.2.1 cd
      refine ev_tableIn (off := 66) (tgt := 83) dX4_takeToken_17 (by omega) (by omega) (by rw [cd]; rfl) (by decide) ?_
      refine ev_aload_n 84 rfl dX4_takeToken_83 rfl rfl ?_
      refine ev_aload_n 85 rfl dX4_takeToken_84 rfl rfl ?_
      refine ev_cVV (As := [(2, t)]) (rest := []) 88 rfl dX4_takeToken_85 lm_4_98 mm_X4_takeSide (s_9 hst) rfl rfl (Nat.le_of_ble_eq_true rfl) (Nat.le_of_ble_eq_true rfl) (Nat.le_refl _) H ?_
      intro h5 H
      refine ev_goto (tgt := 96) dX4_takeToken_88 (by decide) ?_
      exact ev_retV dX4_takeToken_96 rfl H
    · have H := H.2.2.2.2.2 cd
      refine ev_tableOut (tgt := 91) dX4_takeToken_17 cd (by decide) ?_
      refine ev_aload_n 92 rfl dX4_takeToken_91 rfl rfl ?_
      refine ev_aload_n 93 rfl dX4_takeToken_92 rfl rfl ?_
      refine ev_cVV (As := [(2, t)]) (rest := []) 96 rfl dX4_takeToken_93 lm_4_101 mm_X4_takeNumber (s_9 hst) rfl rfl (Nat.le_of_ble_eq_true rfl) (Nat.le_of_ble_eq_true rfl) (Nat.le_refl _) H ?_
      intro h6 H
      exact ev_retV dX4_takeToken_96 rfl H
  · have H := H.2 cd
    refine ev_aload_n 8 rfl dX4_takeToken_7 rfl rfl ?_
    refine ev_iconst 9 rfl dX4_takeToken_8 (by decide) ?_
    refine ev_cVV (As := [(0, 1)]) (rest := []) 12 rfl dX4_takeToken_9 lm_4_81 mm_X4_fail (s_9 hst) rfl rfl (Nat.le_of_ble_eq_true rfl) (Nat.le_of_ble_eq_true rfl) (Nat.le_refl _) H ?_
    intro h7 H
    exact ev_retV dX4_takeToken_12 rfl H

set_option maxRecDepth 20000 in
theorem b_X4_takeName {X : qX} {d : Nat} {sh : qS} {pt h : qM} {K : qM → Prop} {t : Int} (hst : St sh pt) (ht : isT t)
    (H : (((h 9 6) = 2 → RunI X d mX2_groupNamed [(2, 2), (1, (h 9 8))] sh pt h (fun r2 h1 => ((r2 = (-1) → RunV X d mX4_fail [(2, 9), (0, 3)] sh pt h1 (fun h3 => K h3)) ∧ (¬ r2 = (-1) → (((qiand (qiushr (h1 9 14) r2) 1) = 0 → ∀ h4 : qM, h4 = qup h1 9 14 (qior (h1 9 14) (qishl 1 r2)) → (0 ≤ r2 ∧ r2 < 8) ∧ RunV X d mX7_beginLine [(2, t), (0, (h4 8 r2))] sh pt h4 (fun h6 => ∀ h7 : qM, h7 = qup h6 9 9 1 → K h7)) ∧ (¬ (qiand (qiushr (h1 9 14) r2) 1) = 0 → RunV X d mX4_fail [(2, 9), (0, 3)] sh pt h1 (fun h8 => K h8))))))) ∧ (¬ (h 9 6) = 2 → RunV X d mX4_fail [(2, 9), (0, 2)] sh pt h (fun h9 => K h9)))) :
    RunV X (d + 1) mX4_takeName [(2, 9), (2, t), (2, 2)] sh pt h K := by
  show Ev X (d + 1) 0 0 mX4_takeName 0 [(2, 9), (2, t), (2, 2), (8, -1)] [] (sh, pt, h) (qRV sh pt K)
  refine ev_aload_n 1 rfl dX4_takeName_0 rfl rfl ?_
  refine ev_getI (ki := 6) 4 rfl dX4_takeName_1 lf_4_31 (Or.inl rfl) (s_9 hst) (by decide) rfl ?_
  refine ev_iconst 5 rfl dX4_takeName_4 (by decide) ?_
  refine ev_icmp_eq (tgt := 14) 8 rfl dX4_takeName_5 (by decide) (fun cd => ?_) (fun cd => ?_)
  · have H := H.1 cd
    refine ev_aload_n 15 rfl dX4_takeName_14 rfl rfl ?_
    refine ev_aload_n 16 rfl dX4_takeName_15 rfl rfl ?_
    refine ev_getL (ki := 8) 19 rfl dX4_takeName_16 lf_4_37 (s_9 hst) (by decide) rfl ?_
    refine ev_cVI (As := [(1, (h 9 8))]) (rest := []) 22 rfl dX4_takeName_19 lm_4_104 mm_X2_groupNamed (s_2 hst) rfl rfl (Nat.le_of_ble_eq_true rfl) (Nat.le_of_ble_eq_true rfl) (Nat.le_refl _) H ?_
    intro r2 h1 H
    refine ev_istore_n (L1 := [(2, 9), (2, t), (2, 2), (0, r2)]) 23 rfl dX4_takeName_22 rfl (Nat.le_of_ble_eq_true rfl) rfl ?_
    refine ev_iload_n 24 rfl dX4_takeName_23 rfl rfl ?_
    refine ev_iconst 25 rfl dX4_takeName_24 (by decide) ?_
    refine ev_icmp_eq (tgt := 39) 28 rfl dX4_takeName_25 (by decide) (fun cd => ?_) (fun cd => ?_)
    · have H := H.1 cd
      refine ev_aload_n 40 rfl dX4_takeName_39 rfl rfl ?_
      refine ev_iconst 41 rfl dX4_takeName_40 (by decide) ?_
      refine ev_cVV (As := [(0, 3)]) (rest := []) 44 rfl dX4_takeName_41 lm_4_81 mm_X4_fail (s_9 hst) rfl rfl (Nat.le_of_ble_eq_true rfl) (Nat.le_of_ble_eq_true rfl) (Nat.le_refl _) H ?_
      intro h3 H
      exact ev_retV dX4_takeName_44 rfl H
    · have H := H.2 cd
      refine ev_aload_n 29 rfl dX4_takeName_28 rfl rfl ?_
      refine ev_getI (ki := 14) 32 rfl dX4_takeName_29 lf_4_57 (Or.inl rfl) (s_9 hst) (by decide) rfl ?_
      refine ev_iload_n 33 rfl dX4_takeName_32 rfl rfl ?_
      refine ev_iushr 34 rfl dX4_takeName_33 ?_
      refine ev_iconst 35 rfl dX4_takeName_34 (by decide) ?_
      refine ev_iand 36 rfl dX4_takeName_35 ?_
      refine ev_if_eq (tgt := 45) 39 rfl dX4_takeName_36 (by decide) (fun cd => ?_) (fun cd => ?_)
      · have H := H.1 cd
        refine ev_aload_n 46 rfl dX4_takeName_45 rfl rfl ?_
        refine ev_dup 47 rfl dX4_takeName_46 q21 ?_
        refine ev_getI (ki := 14) 50 rfl dX4_takeName_47 lf_4_57 (Or.inl rfl) (s_9 hst) (by decide) rfl ?_
        refine ev_iconst 51 rfl dX4_takeName_50 (by decide) ?_
        refine ev_iload_n 52 rfl dX4_takeName_51 rfl rfl ?_
        refine ev_ishl 53 rfl dX4_takeName_52 ?_
        refine ev_ior 54 rfl dX4_takeName_53 ?_
        refine ev_putI (ki := 14) 57 rfl dX4_takeName_54 lf_4_57 (Or.inl rfl) (s_9 hst) (by decide) rfl ?_
        obtain ⟨h4, eh4⟩ : ∃ z : qM, z = qup h1 9 14 (qior (h1 9 14) (qishl 1 r2)) := ⟨_, rfl⟩
        rw [← eh4]
        have H := H h4 eh4
        refine ev_aload_n 58 rfl dX4_takeName_57 rfl rfl ?_
        refine ev_aload_n 59 rfl dX4_takeName_58 rfl rfl ?_
        refine ev_getR (ki := 7) (v := 8) 62 rfl dX4_takeName_59 lf_4_110 (s_2 hst) (by decide) rfl (p_2_7 hst) ?_
        refine ev_iload_n 63 rfl dX4_takeName_62 rfl rfl ?_
        obtain ⟨b5, H⟩ := H
        refine ev_iaload 64 rfl dX4_takeName_63 (s_8 hst) b5.1 b5.2 ?_
        refine ev_cVV (As := [(0, (h4 8 r2))]) (rest := []) 67 rfl dX4_takeName_64 lm_4_113 mm_X7_beginLine (sT hst ht) rfl rfl (Nat.le_of_ble_eq_true rfl) (Nat.le_of_ble_eq_true rfl) (Nat.le_refl _) H ?_
        intro h6 H
        refine ev_aload_n 68 rfl dX4_takeName_67 rfl rfl ?_
        refine ev_iconst 69 rfl dX4_takeName_68 (by decide) ?_
        refine ev_putI (ki := 9) 72 rfl dX4_takeName_69 lf_4_41 (Or.inl rfl) (s_9 hst) (by decide) rfl ?_
        obtain ⟨h7, eh7⟩ : ∃ z : qM, z = qup h6 9 9 1 := ⟨_, rfl⟩
        rw [← eh7]
        have H := H h7 eh7
        exact ev_retV dX4_takeName_72 rfl H
      · have H := H.2 cd
        refine ev_aload_n 40 rfl dX4_takeName_39 rfl rfl ?_
        refine ev_iconst 41 rfl dX4_takeName_40 (by decide) ?_
        refine ev_cVV (As := [(0, 3)]) (rest := []) 44 rfl dX4_takeName_41 lm_4_81 mm_X4_fail (s_9 hst) rfl rfl (Nat.le_of_ble_eq_true rfl) (Nat.le_of_ble_eq_true rfl) (Nat.le_refl _) H ?_
        intro h8 H
        exact ev_retV dX4_takeName_44 rfl H
  · have H := H.2 cd
    refine ev_aload_n 9 rfl dX4_takeName_8 rfl rfl ?_
    refine ev_iconst 10 rfl dX4_takeName_9 (by decide) ?_
    refine ev_cVV (As := [(0, 2)]) (rest := []) 13 rfl dX4_takeName_10 lm_4_81 mm_X4_fail (s_9 hst) rfl rfl (Nat.le_of_ble_eq_true rfl) (Nat.le_of_ble_eq_true rfl) (Nat.le_refl _) H ?_
    intro h9 H
    exact ev_retV dX4_takeName_13 rfl H

set_option maxRecDepth 20000 in
theorem b_X4_takeColon {X : qX} {d : Nat} {sh : qS} {pt h : qM} {K : qM → Prop} (hst : St sh pt)
    (H : RunI X d mX4_isSign [(2, 9), (0, 58)] sh pt h (fun r2 h1 => ((¬ r2 = 0 → ∀ h3 : qM, h3 = qup h1 9 9 2 → K h3) ∧ (r2 = 0 → RunV X d mX4_fail [(2, 9), (0, 2)] sh pt h1 (fun h4 => K h4))))) :
    RunV X (d + 1) mX4_takeColon [(2, 9)] sh pt h K := by
  show Ev X (d + 1) 0 0 mX4_takeColon 0 [(2, 9)] [] (sh, pt, h) (qRV sh pt K)
  refine ev_aload_n 1 rfl dX4_takeColon_0 rfl rfl ?_
  refine ev_bipush 3 rfl dX4_takeColon_1 (by decide) (by decide) ?_
  refine ev_cVI (As := [(0, 58)]) (rest := []) 6 rfl dX4_takeColon_3 lm_4_116 mm_X4_isSign (s_9 hst) rfl rfl (Nat.le_of_ble_eq_true rfl) (Nat.le_of_ble_eq_true rfl) (Nat.le_refl _) H ?_
  intro r2 h1 H
  refine ev_if_ne (tgt := 15) 9 rfl dX4_takeColon_6 (by decide) (fun cd => ?_) (fun cd => ?_)
  · have H := H.1 cd
    refine ev_aload_n 16 rfl dX4_takeColon_15 rfl rfl ?_
    refine ev_iconst 17 rfl dX4_takeColon_16 (by decide) ?_
    refine ev_putI (ki := 9) 20 rfl dX4_takeColon_17 lf_4_41 (Or.inl rfl) (s_9 hst) (by decide) rfl ?_
    obtain ⟨h3, eh3⟩ : ∃ z : qM, z = qup h1 9 9 2 := ⟨_, rfl⟩
    rw [← eh3]
    have H := H h3 eh3
    exact ev_retV dX4_takeColon_20 rfl H
  · have H := H.2 cd
    refine ev_aload_n 10 rfl dX4_takeColon_9 rfl rfl ?_
    refine ev_iconst 11 rfl dX4_takeColon_10 (by decide) ?_
    refine ev_cVV (As := [(0, 2)]) (rest := []) 14 rfl dX4_takeColon_11 lm_4_81 mm_X4_fail (s_9 hst) rfl rfl (Nat.le_of_ble_eq_true rfl) (Nat.le_of_ble_eq_true rfl) (Nat.le_refl _) H ?_
    intro h4 H
    exact ev_retV dX4_takeColon_14 rfl H

set_option maxRecDepth 20000 in
theorem b_X4_takeOrder {X : qX} {d : Nat} {sh : qS} {pt h : qM} {K : qM → Prop} {t : Int} (hst : St sh pt) (ht : isT t)
    (H : ((¬ (h 9 13) = 0 → EvV X (d + 1) mX4_takeOrder 28 [(2, 9), (2, t)] [] sh pt h K) ∧ ((h 9 13) = 0 → RunI X d mX4_isSign [(2, 9), (0, 59)] sh pt h (fun r2 h1 => ((r2 = 0 → EvV X (d + 1) mX4_takeOrder 28 [(2, 9), (2, t)] [] sh pt h1 K) ∧ (¬ r2 = 0 → RunV X d mX7_endLine [(2, t)] sh pt h1 (fun h3 => ∀ h4 : qM, h4 = qup h3 9 9 0 → K h4))))))) :
    RunV X (d + 1) mX4_takeOrder [(2, 9), (2, t)] sh pt h K := by
  show Ev X (d + 1) 0 0 mX4_takeOrder 0 [(2, 9), (2, t)] [] (sh, pt, h) (qRV sh pt K)
  refine ev_aload_n 1 rfl dX4_takeOrder_0 rfl rfl ?_
  refine ev_getI (ki := 13) 4 rfl dX4_takeOrder_1 lf_4_54 (Or.inl rfl) (s_9 hst) (by decide) rfl ?_
  refine ev_if_ne (tgt := 28) 7 rfl dX4_takeOrder_4 (by decide) (fun cd => ?_) (fun cd => ?_)
  · have H := H.1 cd
    exact H
  · have H := H.2 cd
    refine ev_aload_n 8 rfl dX4_takeOrder_7 rfl rfl ?_
    refine ev_bipush 10 rfl dX4_takeOrder_8 (by decide) (by decide) ?_
    refine ev_cVI (As := [(0, 59)]) (rest := []) 13 rfl dX4_takeOrder_10 lm_4_116 mm_X4_isSign (s_9 hst) rfl rfl (Nat.le_of_ble_eq_true rfl) (Nat.le_of_ble_eq_true rfl) (Nat.le_refl _) H ?_
    intro r2 h1 H
    refine ev_if_eq (tgt := 28) 16 rfl dX4_takeOrder_13 (by decide) (fun cd => ?_) (fun cd => ?_)
    · have H := H.1 cd
      exact H
    · have H := H.2 cd
      refine ev_aload_n 17 rfl dX4_takeOrder_16 rfl rfl ?_
      refine ev_cVV (As := []) (rest := []) 20 rfl dX4_takeOrder_17 lm_4_120 mm_X7_endLine (sT hst ht) rfl rfl (Nat.le_of_ble_eq_true rfl) (Nat.le_of_ble_eq_true rfl) (Nat.le_refl _) H ?_
      intro h3 H
      refine ev_aload_n 21 rfl dX4_takeOrder_20 rfl rfl ?_
      refine ev_iconst 22 rfl dX4_takeOrder_21 (by decide) ?_
      refine ev_putI (ki := 9) 25 rfl dX4_takeOrder_22 lf_4_41 (Or.inl rfl) (s_9 hst) (by decide) rfl ?_
      obtain ⟨h4, eh4⟩ : ∃ z : qM, z = qup h3 9 9 0 := ⟨_, rfl⟩
      rw [← eh4]
      have H := H h4 eh4
      refine ev_goto (tgt := 99) dX4_takeOrder_25 (by decide) ?_
      exact ev_retV dX4_takeOrder_99 rfl H

set_option maxRecDepth 20000 in
theorem b_X4_takeOrder_28 {X : qX} {d : Nat} {sh : qS} {pt h : qM} {K : qM → Prop} {t : Int} (hst : St sh pt) (ht : isT t)
    (H : (((h 9 13) ≤ 0 → EvV X (d + 1) mX4_takeOrder 75 [(2, 9), (2, t)] [] sh pt h K) ∧ (0 < (h 9 13) → RunI X d mX4_isSign [(2, 9), (0, 125)] sh pt h (fun r2 h1 => ((r2 = 0 → EvV X (d + 1) mX4_takeOrder 75 [(2, 9), (2, t)] [] sh pt h1 K) ∧ (¬ r2 = 0 → (qI ((h1 9 13) - 1)) ∧ ∀ h3 : qM, h3 = qup h1 9 13 ((h1 9 13) - 1) → (0 ≤ (h3 9 13) ∧ (h3 9 13) < 3) ∧ (0 ≤ (h3 11 (h3 9 13)) ∧ (h3 11 (h3 9 13)) < 60) ∧ ∀ h6 : qM, h6 = qup h3 (t + 6) (h3 11 (h3 9 13)) (h3 t 8) → K h6)))))) :
    EvV X (d + 1) mX4_takeOrder 28 [(2, 9), (2, t)] [] sh pt h K := by
  show Ev X (d + 1) 0 0 mX4_takeOrder 28 [(2, 9), (2, t)] [] (sh, pt, h) (qRV sh pt K)
  refine ev_aload_n 29 rfl dX4_takeOrder_28 rfl rfl ?_
  refine ev_getI (ki := 13) 32 rfl dX4_takeOrder_29 lf_4_54 (Or.inl rfl) (s_9 hst) (by decide) rfl ?_
  refine ev_if_le (tgt := 75) 35 rfl dX4_takeOrder_32 (by decide) (fun cd => ?_) (fun cd => ?_)
  · have H := H.1 cd
    exact H
  · have H := H.2 cd
    refine ev_aload_n 36 rfl dX4_takeOrder_35 rfl rfl ?_
    refine ev_bipush 38 rfl dX4_takeOrder_36 (by decide) (by decide) ?_
    refine ev_cVI (As := [(0, 125)]) (rest := []) 41 rfl dX4_takeOrder_38 lm_4_116 mm_X4_isSign (s_9 hst) rfl rfl (Nat.le_of_ble_eq_true rfl) (Nat.le_of_ble_eq_true rfl) (Nat.le_refl _) H ?_
    intro r2 h1 H
    refine ev_if_eq (tgt := 75) 44 rfl dX4_takeOrder_41 (by decide) (fun cd => ?_) (fun cd => ?_)
    · have H := H.1 cd
      exact H
    · have H := H.2 cd
      refine ev_aload_n 45 rfl dX4_takeOrder_44 rfl rfl ?_
      refine ev_dup 46 rfl dX4_takeOrder_45 q21 ?_
      refine ev_getI (ki := 13) 49 rfl dX4_takeOrder_46 lf_4_54 (Or.inl rfl) (s_9 hst) (by decide) rfl ?_
      refine ev_iconst 50 rfl dX4_takeOrder_49 (by decide) ?_
      obtain ⟨sd, H⟩ := H
      refine ev_isub 51 rfl dX4_takeOrder_50 sd ?_
      refine ev_putI (ki := 13) 54 rfl dX4_takeOrder_51 lf_4_54 (Or.inl rfl) (s_9 hst) (by decide) rfl ?_
      obtain ⟨h3, eh3⟩ : ∃ z : qM, z = qup h1 9 13 ((h1 9 13) - 1) := ⟨_, rfl⟩
      rw [← eh3]
      have H := H h3 eh3
      refine ev_aload_n 55 rfl dX4_takeOrder_54 rfl rfl ?_
      refine ev_getR (ki := 5) (v := (t + 6)) 58 rfl dX4_takeOrder_55 lf_4_123 (sT hst ht) (by decide) rfl (pT5 hst ht) ?_
      refine ev_aload_n 59 rfl dX4_takeOrder_58 rfl rfl ?_
      refine ev_getR (ki := 12) (v := 11) 62 rfl dX4_takeOrder_59 lf_4_51 (s_9 hst) (by decide) rfl (p_9_12 hst) ?_
      refine ev_aload_n 63 rfl dX4_takeOrder_62 rfl rfl ?_
      refine ev_getI (ki := 13) 66 rfl dX4_takeOrder_63 lf_4_54 (Or.inl rfl) (s_9 hst) (by decide) rfl ?_
      obtain ⟨b4, H⟩ := H
      refine ev_iaload 67 rfl dX4_takeOrder_66 (s_11 hst) b4.1 b4.2 ?_
      refine ev_aload_n 68 rfl dX4_takeOrder_67 rfl rfl ?_
      refine ev_getI (ki := 8) 71 rfl dX4_takeOrder_68 lf_4_126 (Or.inl rfl) (sT hst ht) (by decide) rfl ?_
      obtain ⟨b5, H⟩ := H
      refine ev_iastore 72 rfl dX4_takeOrder_71 (sT5 hst ht) b5.1 b5.2 ?_
      obtain ⟨h6, eh6⟩ : ∃ z : qM, z = qup h3 (t + 6) (h3 11 (h3 9 13)) (h3 t 8) := ⟨_, rfl⟩
      rw [← eh6]
      have H := H h6 eh6
      refine ev_goto (tgt := 99) dX4_takeOrder_72 (by decide) ?_
      exact ev_retV dX4_takeOrder_99 rfl H

set_option maxRecDepth 20000 in
theorem b_X4_takeOrder_75 {X : qX} {d : Nat} {sh : qS} {pt h : qM} {K : qM → Prop} {t : Int} (hst : St sh pt) (ht : isT t)
    (H : ((¬ (h 9 6) = 2 → RunV X d mX4_takeOrderWord [(2, 9), (2, t), (0, (-1))] sh pt h (fun h1 => K h1)) ∧ ((h 9 6) = 2 → RunI X d mX4_kindOf [(1, (h 9 8))] sh pt h (fun r3 h2 => RunV X d mX4_takeOrderWord [(2, 9), (2, t), (0, r3)] sh pt h2 (fun h4 => K h4))))) :
    EvV X (d + 1) mX4_takeOrder 75 [(2, 9), (2, t)] [] sh pt h K := by
  show Ev X (d + 1) 0 0 mX4_takeOrder 75 [(2, 9), (2, t)] [] (sh, pt, h) (qRV sh pt K)
  refine ev_aload_n 76 rfl dX4_takeOrder_75 rfl rfl ?_
  refine ev_aload_n 77 rfl dX4_takeOrder_76 rfl rfl ?_
  refine ev_aload_n 78 rfl dX4_takeOrder_77 rfl rfl ?_
  refine ev_getI (ki := 6) 81 rfl dX4_takeOrder_78 lf_4_31 (Or.inl rfl) (s_9 hst) (by decide) rfl ?_
  refine ev_iconst 82 rfl dX4_takeOrder_81 (by decide) ?_
  refine ev_icmp_ne (tgt := 95) 85 rfl dX4_takeOrder_82 (by decide) (fun cd => ?_) (fun cd => ?_)
  · have H := H.1 cd
    refine ev_iconst 96 rfl dX4_takeOrder_95 (by decide) ?_
    refine ev_cVV (As := [(2, t), (0, (-1))]) (rest := []) 99 rfl dX4_takeOrder_96 lm_4_132 mm_X4_takeOrderWord (s_9 hst) rfl rfl (Nat.le_of_ble_eq_true rfl) (Nat.le_of_ble_eq_true rfl) (Nat.le_refl _) H ?_
    intro h1 H
    exact ev_retV dX4_takeOrder_99 rfl H
  · have H := H.2 cd
    refine ev_aload_n 86 rfl dX4_takeOrder_85 rfl rfl ?_
    refine ev_getL (ki := 8) 89 rfl dX4_takeOrder_86 lf_4_37 (s_9 hst) (by decide) rfl ?_
    refine ev_cSI (As := [(1, (h 9 8))]) (rest := [(2, t), (2, 9)]) 92 rfl dX4_takeOrder_89 lm_4_129 mm_X4_kindOf rfl rfl (Nat.le_of_ble_eq_true rfl) (Nat.le_of_ble_eq_true rfl) (Nat.le_refl _) H ?_
    intro r3 h2 H
    refine ev_goto (tgt := 96) dX4_takeOrder_92 (by decide) ?_
    refine ev_cVV (As := [(2, t), (0, r3)]) (rest := []) 99 rfl dX4_takeOrder_96 lm_4_132 mm_X4_takeOrderWord (s_9 hst) rfl rfl (Nat.le_of_ble_eq_true rfl) (Nat.le_of_ble_eq_true rfl) (Nat.le_refl _) H ?_
    intro h4 H
    exact ev_retV dX4_takeOrder_99 rfl H

set_option maxRecDepth 20000 in
theorem b_X4_takeOrderWord {X : qX} {d : Nat} {sh : qS} {pt h : qM} {K : qM → Prop} {t v2 : Int} (hst : St sh pt) (ht : isT t)
    (H : ((¬ v2 = (-1) → (((h t 8) < 60 → ((¬ v2 = 10 → EvV X (d + 1) mX4_takeOrderWord 53 [(2, 9), (2, t), (0, v2)] [] sh pt h K) ∧ (v2 = 10 → (((h 9 13) < 3 → EvV X (d + 1) mX4_takeOrderWord 53 [(2, 9), (2, t), (0, v2)] [] sh pt h K) ∧ (3 ≤ (h 9 13) → RunV X d mX4_fail [(2, 9), (0, 6)] sh pt h (fun h1 => K h1)))))) ∧ (60 ≤ (h t 8) → RunV X d mX4_fail [(2, 9), (0, 5)] sh pt h (fun h2 => K h2)))) ∧ (v2 = (-1) → RunV X d mX4_fail [(2, 9), (0, 2)] sh pt h (fun h3 => K h3)))) :
    RunV X (d + 1) mX4_takeOrderWord [(2, 9), (2, t), (0, v2)] sh pt h K := by
  show Ev X (d + 1) 0 0 mX4_takeOrderWord 0 [(2, 9), (2, t), (0, v2)] [] (sh, pt, h) (qRV sh pt K)
  refine ev_iload_n 1 rfl dX4_takeOrderWord_0 rfl rfl ?_
  refine ev_iconst 2 rfl dX4_takeOrderWord_1 (by decide) ?_
  refine ev_icmp_ne (tgt := 13) 5 rfl dX4_takeOrderWord_2 (by decide) (fun cd => ?_) (fun cd => ?_)
  · have H := H.1 cd
    refine ev_aload_n 14 rfl dX4_takeOrderWord_13 rfl rfl ?_
    refine ev_getI (ki := 8) 17 rfl dX4_takeOrderWord_14 lf_4_126 (Or.inl rfl) (sT hst ht) (by decide) rfl ?_
    refine ev_bipush 19 rfl dX4_takeOrderWord_17 (by decide) (by decide) ?_
    refine ev_icmp_lt (tgt := 30) 22 rfl dX4_takeOrderWord_19 (by decide) (fun cd => ?_) (fun cd => ?_)
    · have H := H.1 cd
      refine ev_iload_n 31 rfl dX4_takeOrderWord_30 rfl rfl ?_
      refine ev_bipush 33 rfl dX4_takeOrderWord_31 (by decide) (by decide) ?_
      refine ev_icmp_ne (tgt := 53) 36 rfl dX4_takeOrderWord_33 (by decide) (fun cd => ?_) (fun cd => ?_)
      · have H := H.1 cd
        exact H
      · have H := H.2 cd
        refine ev_aload_n 37 rfl dX4_takeOrderWord_36 rfl rfl ?_
        refine ev_getI (ki := 13) 40 rfl dX4_takeOrderWord_37 lf_4_54 (Or.inl rfl) (s_9 hst) (by decide) rfl ?_
        refine ev_iconst 41 rfl dX4_takeOrderWord_40 (by decide) ?_
        refine ev_icmp_lt (tgt := 53) 44 rfl dX4_takeOrderWord_41 (by decide) (fun cd => ?_) (fun cd => ?_)
        · have H := H.1 cd
          exact H
        · have H := H.2 cd
          refine ev_aload_n 45 rfl dX4_takeOrderWord_44 rfl rfl ?_
          refine ev_bipush 47 rfl dX4_takeOrderWord_45 (by decide) (by decide) ?_
          refine ev_cVV (As := [(0, 6)]) (rest := []) 50 rfl dX4_takeOrderWord_47 lm_4_81 mm_X4_fail (s_9 hst) rfl rfl (Nat.le_of_ble_eq_true rfl) (Nat.le_of_ble_eq_true rfl) (Nat.le_refl _) H ?_
          intro h1 H
          refine ev_goto (tgt := 74) dX4_takeOrderWord_50 (by decide) ?_
          exact ev_retV dX4_takeOrderWord_74 rfl H
    · have H := H.2 cd
      refine ev_aload_n 23 rfl dX4_takeOrderWord_22 rfl rfl ?_
      refine ev_iconst 24 rfl dX4_takeOrderWord_23 (by decide) ?_
      refine ev_cVV (As := [(0, 5)]) (rest := []) 27 rfl dX4_takeOrderWord_24 lm_4_81 mm_X4_fail (s_9 hst) rfl rfl (Nat.le_of_ble_eq_true rfl) (Nat.le_of_ble_eq_true rfl) (Nat.le_refl _) H ?_
      intro h2 H
      refine ev_goto (tgt := 74) dX4_takeOrderWord_27 (by decide) ?_
      exact ev_retV dX4_takeOrderWord_74 rfl H
  · have H := H.2 cd
    refine ev_aload_n 6 rfl dX4_takeOrderWord_5 rfl rfl ?_
    refine ev_iconst 7 rfl dX4_takeOrderWord_6 (by decide) ?_
    refine ev_cVV (As := [(0, 2)]) (rest := []) 10 rfl dX4_takeOrderWord_7 lm_4_81 mm_X4_fail (s_9 hst) rfl rfl (Nat.le_of_ble_eq_true rfl) (Nat.le_of_ble_eq_true rfl) (Nat.le_refl _) H ?_
    intro h3 H
    refine ev_goto (tgt := 74) dX4_takeOrderWord_10 (by decide) ?_
    exact ev_retV dX4_takeOrderWord_74 rfl H

set_option maxRecDepth 20000 in
theorem b_X4_takeOrderWord_53 {X : qX} {d : Nat} {sh : qS} {pt h : qM} {K : qM → Prop} {t v2 : Int} (hst : St sh pt) (ht : isT t)
    (H : RunI X d mX7_addOrder [(2, t), (0, v2), (0, (h 9 7))] sh pt h (fun r2 h1 => ∀ h3 : qM, h3 = qup h1 9 10 r2 → RunI X d mX4_wantedBehindWord [(0, v2)] sh pt h3 (fun r5 h4 => ∀ h6 : qM, h6 = qup h4 9 9 r5 → K h6))) :
    EvV X (d + 1) mX4_takeOrderWord 53 [(2, 9), (2, t), (0, v2)] [] sh pt h K := by
  show Ev X (d + 1) 0 0 mX4_takeOrderWord 53 [(2, 9), (2, t), (0, v2)] [] (sh, pt, h) (qRV sh pt K)
  refine ev_aload_n 54 rfl dX4_takeOrderWord_53 rfl rfl ?_
  refine ev_aload_n 55 rfl dX4_takeOrderWord_54 rfl rfl ?_
  refine ev_iload_n 56 rfl dX4_takeOrderWord_55 rfl rfl ?_
  refine ev_aload_n 57 rfl dX4_takeOrderWord_56 rfl rfl ?_
  refine ev_getI (ki := 7) 60 rfl dX4_takeOrderWord_57 lf_4_34 (Or.inl rfl) (s_9 hst) (by decide) rfl ?_
  refine ev_cVI (As := [(0, v2), (0, (h 9 7))]) (rest := [(2, 9)]) 63 rfl dX4_takeOrderWord_60 lm_4_136 mm_X7_addOrder (sT hst ht) rfl rfl (Nat.le_of_ble_eq_true rfl) (Nat.le_of_ble_eq_true rfl) (Nat.le_refl _) H ?_
  intro r2 h1 H
  refine ev_putI (ki := 10) 66 rfl dX4_takeOrderWord_63 lf_4_44 (Or.inl rfl) (s_9 hst) (by decide) rfl ?_
  obtain ⟨h3, eh3⟩ : ∃ z : qM, z = qup h1 9 10 r2 := ⟨_, rfl⟩
  rw [← eh3]
  have H := H h3 eh3
  refine ev_aload_n 67 rfl dX4_takeOrderWord_66 rfl rfl ?_
  refine ev_iload_n 68 rfl dX4_takeOrderWord_67 rfl rfl ?_
  refine ev_cSI (As := [(0, v2)]) (rest := [(2, 9)]) 71 rfl dX4_takeOrderWord_68 lm_4_139 mm_X4_wantedBehindWord rfl rfl (Nat.le_of_ble_eq_true rfl) (Nat.le_of_ble_eq_true rfl) (Nat.le_refl _) H ?_
  intro r5 h4 H
  refine ev_putI (ki := 9) 74 rfl dX4_takeOrderWord_71 lf_4_41 (Or.inl rfl) (s_9 hst) (by decide) rfl ?_
  obtain ⟨h6, eh6⟩ : ∃ z : qM, z = qup h4 9 9 r5 := ⟨_, rfl⟩
  rw [← eh6]
  have H := H h6 eh6
  exact ev_retV dX4_takeOrderWord_74 rfl H

set_option maxRecDepth 20000 in
theorem b_X4_wantedBehindWord {X : qX} {d : Nat} {sh : qS} {pt h : qM} {K : Int → qM → Prop} {v0 : Int} (hst : St sh pt)
    (H : ((v0 = 5 → K 6 h) ∧ (v0 = 6 → K 4 h) ∧ (v0 = 7 → K 7 h) ∧ (v0 = 8 → K 7 h) ∧ (v0 = 9 → K 8 h) ∧ (v0 = 10 → K 10 h) ∧ ((v0 < 5 ∨ 10 < v0) → K 5 h))) :
    RunI X d mX4_wantedBehindWord [(0, v0)] sh pt h K := by
  show Ev X d 0 0 mX4_wantedBehindWord 0 [(0, v0)] [] (sh, pt, h) (qRI sh pt K)
  refine ev_iload_n 1 rfl dX4_wantedBehindWord_0 rfl rfl ?_
  have hsw : v0 = 5 ∨ v0 = 6 ∨ v0 = 7 ∨ v0 = 8 ∨ v0 = 9 ∨ v0 = 10 ∨ (v0 < 5 ∨ 10 < v0) := by omega
  rcases hsw with cd | cd | cd | cd | cd | cd | cd
  · have H := H.1 cd
    refine ev_tableIn (off := 39) (tgt := 40) dX4_wantedBehindWord_1 (by omega) (by omega) (by rw [cd]; rfl) (by decide) ?_
    refine ev_bipush 42 rfl dX4_wantedBehindWord_40 (by decide) (by decide) ?_
    exact ev_retI dX4_wantedBehindWord_42 rfl H
  · have H := H.2.1 cd
    refine ev_tableIn (off := 42) (tgt := 43) dX4_wantedBehindWord_1 (by omega) (by omega) (by rw [cd]; rfl) (by decide) ?_
    refine ev_iconst 44 rfl dX4_wantedBehindWord_43 (by decide) ?_
    exact ev_retI dX4_wantedBehindWord_44 rfl H
  · have H := H.2.2.1 cd
    refine ev_tableIn (off := 44) (tgt := 45) dX4_wantedBehindWord_1 (by omega) (by omega) (by rw [cd]; rfl) (by decide) ?_
    refine ev_bipush 47 rfl dX4_wantedBehindWord_45 (by decide) (by decide) ?_
    exact ev_retI dX4_wantedBehindWord_47 rfl H
  · have H := H.2.2.2.1 cd
    refine ev_tableIn (off := 44) (tgt := 45) dX4_wantedBehindWord_1 (by omega) (by omega) (by rw [cd]; rfl) (by decide) ?_
    refine ev_bipush 47 rfl dX4_wantedBehindWord_45 (by decide) (by decide) ?_
    exact ev_retI dX4_wantedBehindWord_47 rfl H
  · have H := H.2.2.2.2.1 cd
    refine ev_tableIn (off := 47) (tgt := 48) dX4_wantedBehindWord_1 (by omega) (by omega) (by rw [cd]; rfl) (by decide) ?_
    refine ev_bipush 50 rfl dX4_wantedBehindWord_48 (by decide) (by decide) ?_
    exact ev_retI dX4_wantedBehindWord_50 rfl H
  · have H := H.2.2.2.2.2.1 cd
    refine ev_tableIn (off := 50) (tgt := 51) dX4_wantedBehindWord_1 (by omega) (by omega) (by rw [cd]; rfl) (by decide) ?_
    refine ev_bipush 53 rfl dX4_wantedBehindWord_51 (by decide) (by decide) ?_
    exact ev_retI dX4_wantedBehindWord_53 rfl H
  · have H := H.2.2.2.2.2.2 cd
    refine ev_tableOut (tgt := 54) dX4_wantedBehindWord_1 cd (by decide) ?_
    refine ev_iconst 55 rfl dX4_wantedBehindWord_54 (by decide) ?_
    exact ev_retI dX4_wantedBehindWord_55 rfl H

set_option maxRecDepth 20000 in
theorem b_X4_takeBrace {X : qX} {d : Nat} {sh : qS} {pt h : qM} {K : qM → Prop} (hst : St sh pt)
    (H : RunI X d mX4_isSign [(2, 9), (0, 123)] sh pt h (fun r2 h1 => ((r2 = 0 → RunV X d mX4_fail [(2, 9), (0, 2)] sh pt h1 (fun h3 => K h3)) ∧ (¬ r2 = 0 → (((h1 9 13) < 3 → (0 ≤ (h1 9 13) ∧ (h1 9 13) < 3) ∧ ∀ h5 : qM, h5 = qup h1 11 (h1 9 13) (h1 9 10) → (qI ((h5 9 13) + 1)) ∧ ∀ h6 : qM, h6 = qup h5 9 13 ((h5 9 13) + 1) → ∀ h7 : qM, h7 = qup h6 9 9 2 → K h7) ∧ (3 ≤ (h1 9 13) → RunV X d mX4_fail [(2, 9), (0, 2)] sh pt h1 (fun h8 => K h8))))))) :
    RunV X (d + 1) mX4_takeBrace [(2, 9)] sh pt h K := by
  show Ev X (d + 1) 0 0 mX4_takeBrace 0 [(2, 9)] [] (sh, pt, h) (qRV sh pt K)
  refine ev_aload_n 1 rfl dX4_takeBrace_0 rfl rfl ?_
  refine ev_bipush 3 rfl dX4_takeBrace_1 (by decide) (by decide) ?_
  refine ev_cVI (As := [(0, 123)]) (rest := []) 6 rfl dX4_takeBrace_3 lm_4_116 mm_X4_isSign (s_9 hst) rfl rfl (Nat.le_of_ble_eq_true rfl) (Nat.le_of_ble_eq_true rfl) (Nat.le_refl _) H ?_
  intro r2 h1 H
  refine ev_if_eq (tgt := 17) 9 rfl dX4_takeBrace_6 (by decide) (fun cd => ?_) (fun cd => ?_)
  · have H := H.1 cd
    refine ev_aload_n 18 rfl dX4_takeBrace_17 rfl rfl ?_
    refine ev_iconst 19 rfl dX4_takeBrace_18 (by decide) ?_
    refine ev_cVV (As := [(0, 2)]) (rest := []) 22 rfl dX4_takeBrace_19 lm_4_81 mm_X4_fail (s_9 hst) rfl rfl (Nat.le_of_ble_eq_true rfl) (Nat.le_of_ble_eq_true rfl) (Nat.le_refl _) H ?_
    intro h3 H
    exact ev_retV dX4_takeBrace_22 rfl H
  · have H := H.2 cd
    refine ev_aload_n 10 rfl dX4_takeBrace_9 rfl rfl ?_
    refine ev_getI (ki := 13) 13 rfl dX4_takeBrace_10 lf_4_54 (Or.inl rfl) (s_9 hst) (by decide) rfl ?_
    refine ev_iconst 14 rfl dX4_takeBrace_13 (by decide) ?_
    refine ev_icmp_lt (tgt := 23) 17 rfl dX4_takeBrace_14 (by decide) (fun cd => ?_) (fun cd => ?_)
    · have H := H.1 cd
      refine ev_aload_n 24 rfl dX4_takeBrace_23 rfl rfl ?_
      refine ev_getR (ki := 12) (v := 11) 27 rfl dX4_takeBrace_24 lf_4_51 (s_9 hst) (by decide) rfl (p_9_12 hst) ?_
      refine ev_aload_n 28 rfl dX4_takeBrace_27 rfl rfl ?_
      refine ev_getI (ki := 13) 31 rfl dX4_takeBrace_28 lf_4_54 (Or.inl rfl) (s_9 hst) (by decide) rfl ?_
      refine ev_aload_n 32 rfl dX4_takeBrace_31 rfl rfl ?_
      refine ev_getI (ki := 10) 35 rfl dX4_takeBrace_32 lf_4_44 (Or.inl rfl) (s_9 hst) (by decide) rfl ?_
      obtain ⟨b4, H⟩ := H
      refine ev_iastore 36 rfl dX4_takeBrace_35 (s_11 hst) b4.1 b4.2 ?_
      obtain ⟨h5, eh5⟩ : ∃ z : qM, z = qup h1 11 (h1 9 13) (h1 9 10) := ⟨_, rfl⟩
      rw [← eh5]
      have H := H h5 eh5
      refine ev_aload_n 37 rfl dX4_takeBrace_36 rfl rfl ?_
      refine ev_dup 38 rfl dX4_takeBrace_37 q21 ?_
      refine ev_getI (ki := 13) 41 rfl dX4_takeBrace_38 lf_4_54 (Or.inl rfl) (s_9 hst) (by decide) rfl ?_
      refine ev_iconst 42 rfl dX4_takeBrace_41 (by decide) ?_
      obtain ⟨sd, H⟩ := H
      refine ev_iadd 43 rfl dX4_takeBrace_42 sd ?_
      refine ev_putI (ki := 13) 46 rfl dX4_takeBrace_43 lf_4_54 (Or.inl rfl) (s_9 hst) (by decide) rfl ?_
      obtain ⟨h6, eh6⟩ : ∃ z : qM, z = qup h5 9 13 ((h5 9 13) + 1) := ⟨_, rfl⟩
      rw [← eh6]
      have H := H h6 eh6
      refine ev_aload_n 47 rfl dX4_takeBrace_46 rfl rfl ?_
      refine ev_iconst 48 rfl dX4_takeBrace_47 (by decide) ?_
      refine ev_putI (ki := 9) 51 rfl dX4_takeBrace_48 lf_4_41 (Or.inl rfl) (s_9 hst) (by decide) rfl ?_
      obtain ⟨h7, eh7⟩ : ∃ z : qM, z = qup h6 9 9 2 := ⟨_, rfl⟩
      rw [← eh7]
      have H := H h7 eh7
      exact ev_retV dX4_takeBrace_51 rfl H
    · have H := H.2 cd
      refine ev_aload_n 18 rfl dX4_takeBrace_17 rfl rfl ?_
      refine ev_iconst 19 rfl dX4_takeBrace_18 (by decide) ?_
      refine ev_cVV (As := [(0, 2)]) (rest := []) 22 rfl dX4_takeBrace_19 lm_4_81 mm_X4_fail (s_9 hst) rfl rfl (Nat.le_of_ble_eq_true rfl) (Nat.le_of_ble_eq_true rfl) (Nat.le_refl _) H ?_
      intro h8 H
      exact ev_retV dX4_takeBrace_22 rfl H

set_option maxRecDepth 20000 in
theorem b_X4_takeSide {X : qX} {d : Nat} {sh : qS} {pt h : qM} {K : qM → Prop} {t : Int} (hst : St sh pt) (ht : isT t)
    (H : ((¬ (h 9 6) = 2 → RunV X d mX4_fail [(2, 9), (0, 2)] sh pt h (fun h1 => K h1)) ∧ ((h 9 6) = 2 → (((h 9 8) = 398548 → EvV X (d + 1) mX4_takeSide 36 [(2, 9), (2, t)] [] sh pt h K) ∧ (¬ (h 9 8) = 398548 → (((h 9 8) = 19176724 → EvV X (d + 1) mX4_takeSide 36 [(2, 9), (2, t)] [] sh pt h K) ∧ (¬ (h 9 8) = 19176724 → RunV X d mX4_fail [(2, 9), (0, 2)] sh pt h (fun h2 => K h2)))))))) :
    RunV X (d + 1) mX4_takeSide [(2, 9), (2, t)] sh pt h K := by
  show Ev X (d + 1) 0 0 mX4_takeSide 0 [(2, 9), (2, t)] [] (sh, pt, h) (qRV sh pt K)
  refine ev_aload_n 1 rfl dX4_takeSide_0 rfl rfl ?_
  refine ev_getI (ki := 6) 4 rfl dX4_takeSide_1 lf_4_31 (Or.inl rfl) (s_9 hst) (by decide) rfl ?_
  refine ev_iconst 5 rfl dX4_takeSide_4 (by decide) ?_
  refine ev_icmp_ne (tgt := 30) 8 rfl dX4_takeSide_5 (by decide) (fun cd => ?_) (fun cd => ?_)
  · have H := H.1 cd
    refine ev_aload_n 31 rfl dX4_takeSide_30 rfl rfl ?_
    refine ev_iconst 32 rfl dX4_takeSide_31 (by decide) ?_
    refine ev_cVV (As := [(0, 2)]) (rest := []) 35 rfl dX4_takeSide_32 lm_4_81 mm_X4_fail (s_9 hst) rfl rfl (Nat.le_of_ble_eq_true rfl) (Nat.le_of_ble_eq_true rfl) (Nat.le_refl _) H ?_
    intro h1 H
    exact ev_retV dX4_takeSide_35 rfl H
  · have H := H.2 cd
    refine ev_aload_n 9 rfl dX4_takeSide_8 rfl rfl ?_
    refine ev_getL (ki := 8) 12 rfl dX4_takeSide_9 lf_4_37 (s_9 hst) (by decide) rfl ?_
    refine ev_ldc2 15 rfl dX4_takeSide_12 kl_4_143 (by decide) ?_
    refine ev_lc_eq (tgt := 36) 19 rfl dX4_takeSide_15 dX4_takeSide_16 (by decide) (fun cd => ?_) (fun cd => ?_)
    · have H := H.1 cd
      exact H
    · have H := H.2 cd
      refine ev_aload_n 20 rfl dX4_takeSide_19 rfl rfl ?_
      refine ev_getL (ki := 8) 23 rfl dX4_takeSide_20 lf_4_37 (s_9 hst) (by decide) rfl ?_
      refine ev_ldc2 26 rfl dX4_takeSide_23 kl_4_145 (by decide) ?_
      refine ev_lc_eq (tgt := 36) 30 rfl dX4_takeSide_26 dX4_takeSide_27 (by decide) (fun cd => ?_) (fun cd => ?_)
      · have H := H.1 cd
        exact H
      · have H := H.2 cd
        refine ev_aload_n 31 rfl dX4_takeSide_30 rfl rfl ?_
        refine ev_iconst 32 rfl dX4_takeSide_31 (by decide) ?_
        refine ev_cVV (As := [(0, 2)]) (rest := []) 35 rfl dX4_takeSide_32 lm_4_81 mm_X4_fail (s_9 hst) rfl rfl (Nat.le_of_ble_eq_true rfl) (Nat.le_of_ble_eq_true rfl) (Nat.le_refl _) H ?_
        intro h2 H
        exact ev_retV dX4_takeSide_35 rfl H

set_option maxRecDepth 20000 in
theorem b_X4_takeSide_36 {X : qX} {d : Nat} {sh : qS} {pt h : qM} {K : qM → Prop} {t : Int} (hst : St sh pt) (ht : isT t)
    (H : ((¬ (h 9 8) = 398548 → (0 ≤ (h 9 10) ∧ (h 9 10) < 60) ∧ ∀ h2 : qM, h2 = qup h (t + 3) (h 9 10) 1 → ∀ h3 : qM, h3 = qup h2 9 9 5 → K h3) ∧ ((h 9 8) = 398548 → (0 ≤ (h 9 10) ∧ (h 9 10) < 60) ∧ ∀ h5 : qM, h5 = qup h (t + 3) (h 9 10) 0 → ∀ h6 : qM, h6 = qup h5 9 9 5 → K h6))) :
    EvV X (d + 1) mX4_takeSide 36 [(2, 9), (2, t)] [] sh pt h K := by
  show Ev X (d + 1) 0 0 mX4_takeSide 36 [(2, 9), (2, t)] [] (sh, pt, h) (qRV sh pt K)
  refine ev_aload_n 37 rfl dX4_takeSide_36 rfl rfl ?_
  refine ev_getR (ki := 2) (v := (t + 3)) 40 rfl dX4_takeSide_37 lf_4_147 (sT hst ht) (by decide) rfl (pT2 hst ht) ?_
  refine ev_aload_n 41 rfl dX4_takeSide_40 rfl rfl ?_
  refine ev_getI (ki := 10) 44 rfl dX4_takeSide_41 lf_4_44 (Or.inl rfl) (s_9 hst) (by decide) rfl ?_
  refine ev_aload_n 45 rfl dX4_takeSide_44 rfl rfl ?_
  refine ev_getL (ki := 8) 48 rfl dX4_takeSide_45 lf_4_37 (s_9 hst) (by decide) rfl ?_
  refine ev_ldc2 51 rfl dX4_takeSide_48 kl_4_143 (by decide) ?_
  refine ev_lc_ne (tgt := 59) 55 rfl dX4_takeSide_51 dX4_takeSide_52 (by decide) (fun cd => ?_) (fun cd => ?_)
  · have H := H.1 cd
    refine ev_iconst 60 rfl dX4_takeSide_59 (by decide) ?_
    obtain ⟨b1, H⟩ := H
    refine ev_iastore 61 rfl dX4_takeSide_60 (sT2 hst ht) b1.1 b1.2 ?_
    obtain ⟨h2, eh2⟩ : ∃ z : qM, z = qup h (t + 3) (h 9 10) 1 := ⟨_, rfl⟩
    rw [← eh2]
    have H := H h2 eh2
    refine ev_aload_n 62 rfl dX4_takeSide_61 rfl rfl ?_
    refine ev_iconst 63 rfl dX4_takeSide_62 (by decide) ?_
    refine ev_putI (ki := 9) 66 rfl dX4_takeSide_63 lf_4_41 (Or.inl rfl) (s_9 hst) (by decide) rfl ?_
    obtain ⟨h3, eh3⟩ : ∃ z : qM, z = qup h2 9 9 5 := ⟨_, rfl⟩
    rw [← eh3]
    have H := H h3 eh3
    exact ev_retV dX4_takeSide_66 rfl H
  · have H := H.2 cd
    refine ev_iconst 56 rfl dX4_takeSide_55 (by decide) ?_
    refine ev_goto (tgt := 60) dX4_takeSide_56 (by decide) ?_
    obtain ⟨b4, H⟩ := H
    refine ev_iastore 61 rfl dX4_takeSide_60 (sT2 hst ht) b4.1 b4.2 ?_
    obtain ⟨h5, eh5⟩ : ∃ z : qM, z = qup h (t + 3) (h 9 10) 0 := ⟨_, rfl⟩
    rw [← eh5]
    have H := H h5 eh5
    refine ev_aload_n 62 rfl dX4_takeSide_61 rfl rfl ?_
    refine ev_iconst 63 rfl dX4_takeSide_62 (by decide) ?_
    refine ev_putI (ki := 9) 66 rfl dX4_takeSide_63 lf_4_41 (Or.inl rfl) (s_9 hst) (by decide) rfl ?_
    obtain ⟨h6, eh6⟩ : ∃ z : qM, z = qup h5 9 9 5 := ⟨_, rfl⟩
    rw [← eh6]
    have H := H h6 eh6
    exact ev_retV dX4_takeSide_66 rfl H

set_option maxRecDepth 20000 in
theorem b_X4_takeNumber {X : qX} {d : Nat} {sh : qS} {pt h : qM} {K : qM → Prop} {t : Int} (hst : St sh pt) (ht : isT t)
    (H : (((h 9 9) = 8 → EvV X (d + 1) mX4_takeNumber 23 [(2, 9), (2, t), (8, -1)] [(0, 1)] sh pt h K) ∧ (¬ (h 9 9) = 8 → ((¬ (h 9 9) = 9 → EvV X (d + 1) mX4_takeNumber 23 [(2, 9), (2, t), (8, -1)] [(0, 0)] sh pt h K) ∧ ((h 9 9) = 9 → EvV X (d + 1) mX4_takeNumber 23 [(2, 9), (2, t), (8, -1)] [(0, 1)] sh pt h K))))) :
    RunV X (d + 1) mX4_takeNumber [(2, 9), (2, t)] sh pt h K := by
  show Ev X (d + 1) 0 0 mX4_takeNumber 0 [(2, 9), (2, t), (8, -1)] [] (sh, pt, h) (qRV sh pt K)
  refine ev_aload_n 1 rfl dX4_takeNumber_0 rfl rfl ?_
  refine ev_getI (ki := 9) 4 rfl dX4_takeNumber_1 lf_4_41 (Or.inl rfl) (s_9 hst) (by decide) rfl ?_
  refine ev_bipush 6 rfl dX4_takeNumber_4 (by decide) (by decide) ?_
  refine ev_icmp_eq (tgt := 18) 9 rfl dX4_takeNumber_6 (by decide) (fun cd => ?_) (fun cd => ?_)
  · have H := H.1 cd
    refine ev_iconst 19 rfl dX4_takeNumber_18 (by decide) ?_
    refine ev_goto (tgt := 23) dX4_takeNumber_19 (by decide) ?_
    exact H
  · have H := H.2 cd
    refine ev_aload_n 10 rfl dX4_takeNumber_9 rfl rfl ?_
    refine ev_getI (ki := 9) 13 rfl dX4_takeNumber_10 lf_4_41 (Or.inl rfl) (s_9 hst) (by decide) rfl ?_
    refine ev_bipush 15 rfl dX4_takeNumber_13 (by decide) (by decide) ?_
    refine ev_icmp_ne (tgt := 22) 18 rfl dX4_takeNumber_15 (by decide) (fun cd => ?_) (fun cd => ?_)
    · have H := H.1 cd
      refine ev_iconst 23 rfl dX4_takeNumber_22 (by decide) ?_
      exact H
    · have H := H.2 cd
      refine ev_iconst 19 rfl dX4_takeNumber_18 (by decide) ?_
      refine ev_goto (tgt := 23) dX4_takeNumber_19 (by decide) ?_
      exact H

set_option maxRecDepth 20000 in
theorem b_X4_takeNumber_23 {X : qX} {d : Nat} {sh : qS} {pt h : qM} {K : qM → Prop} {t u0 : Int} (hst : St sh pt) (ht : isT t)
    (H : ((u0 = 0 → EvV X (d + 1) mX4_takeNumber 52 [(2, 9), (2, t), (8, -1)] [] sh pt h K) ∧ (¬ u0 = 0 → ((¬ (h 9 11) = 0 → EvV X (d + 1) mX4_takeNumber 52 [(2, 9), (2, t), (8, -1)] [] sh pt h K) ∧ ((h 9 11) = 0 → RunI X d mX4_isSign [(2, 9), (0, 45)] sh pt h (fun r2 h1 => ((r2 = 0 → EvV X (d + 1) mX4_takeNumber 52 [(2, 9), (2, t), (8, -1)] [] sh pt h1 K) ∧ (¬ r2 = 0 → ∀ h3 : qM, h3 = qup h1 9 11 1 → K h3)))))))) :
    EvV X (d + 1) mX4_takeNumber 23 [(2, 9), (2, t), (8, -1)] [(0, u0)] sh pt h K := by
  show Ev X (d + 1) 0 0 mX4_takeNumber 23 [(2, 9), (2, t), (8, -1)] [(0, u0)] (sh, pt, h) (qRV sh pt K)
  refine ev_istore_n (L1 := [(2, 9), (2, t), (0, u0)]) 24 rfl dX4_takeNumber_23 rfl (Nat.le_of_ble_eq_true rfl) rfl ?_
  refine ev_iload_n 25 rfl dX4_takeNumber_24 rfl rfl ?_
  refine ev_if_eq (tgt := 52) 28 rfl dX4_takeNumber_25 (by decide) (fun cd => ?_) (fun cd => ?_)
  · have H := H.1 cd
    refine Ev.drop [2] rfl ?_
    exact H
  · have H := H.2 cd
    refine ev_aload_n 29 rfl dX4_takeNumber_28 rfl rfl ?_
    refine ev_getI (ki := 11) 32 rfl dX4_takeNumber_29 lf_4_47 (Or.inr rfl) (s_9 hst) (by decide) rfl ?_
    refine ev_if_ne (tgt := 52) 35 rfl dX4_takeNumber_32 (by decide) (fun cd => ?_) (fun cd => ?_)
    · have H := H.1 cd
      refine Ev.drop [2] rfl ?_
      exact H
    · have H := H.2 cd
      refine ev_aload_n 36 rfl dX4_takeNumber_35 rfl rfl ?_
      refine ev_bipush 38 rfl dX4_takeNumber_36 (by decide) (by decide) ?_
      refine ev_cVI (As := [(0, 45)]) (rest := []) 41 rfl dX4_takeNumber_38 lm_4_116 mm_X4_isSign (s_9 hst) rfl rfl (Nat.le_of_ble_eq_true rfl) (Nat.le_of_ble_eq_true rfl) (Nat.le_refl _) H ?_
      intro r2 h1 H
      refine ev_if_eq (tgt := 52) 44 rfl dX4_takeNumber_41 (by decide) (fun cd => ?_) (fun cd => ?_)
      · have H := H.1 cd
        refine Ev.drop [2] rfl ?_
        exact H
      · have H := H.2 cd
        refine ev_aload_n 45 rfl dX4_takeNumber_44 rfl rfl ?_
        refine ev_iconst 46 rfl dX4_takeNumber_45 (by decide) ?_
        refine ev_putI (ki := 11) 49 rfl dX4_takeNumber_46 lf_4_47 (Or.inr ⟨rfl, by decide, by decide⟩) (s_9 hst) (by decide) rfl ?_
        obtain ⟨h3, eh3⟩ : ∃ z : qM, z = qup h1 9 11 1 := ⟨_, rfl⟩
        rw [← eh3]
        have H := H h3 eh3
        refine ev_goto (tgt := 119) dX4_takeNumber_49 (by decide) ?_
        exact ev_retV dX4_takeNumber_119 rfl H

set_option maxRecDepth 20000 in
theorem b_X4_takeNumber_52 {X : qX} {d : Nat} {sh : qS} {pt h : qM} {K : qM → Prop} {t : Int} (hst : St sh pt) (ht : isT t)
    (H : (((h 9 6) = 3 → RunI X d mX4_isWithin [(2, 9), (0, (ql2i (h 9 8)))] sh pt h (fun r2 h1 => ((¬ r2 = 0 → (((h1 9 11) = 0 → RunV X d mX4_keepNumber [(2, 9), (2, t), (0, (ql2i (h1 9 8)))] sh pt h1 (fun h3 => ∀ h4 : qM, h4 = qup h3 9 11 0 → K h4)) ∧ (¬ (h1 9 11) = 0 → (qI (-(ql2i (h1 9 8)))) ∧ RunV X d mX4_keepNumber [(2, 9), (2, t), (0, (-(ql2i (h1 9 8))))] sh pt h1 (fun h5 => ∀ h6 : qM, h6 = qup h5 9 11 0 → K h6)))) ∧ (r2 = 0 → RunV X d mX4_fail [(2, 9), (0, 4)] sh pt h1 (fun h7 => K h7))))) ∧ (¬ (h 9 6) = 3 → RunV X d mX4_fail [(2, 9), (0, 2)] sh pt h (fun h8 => K h8)))) :
    EvV X (d + 1) mX4_takeNumber 52 [(2, 9), (2, t), (8, -1)] [] sh pt h K := by
  show Ev X (d + 1) 0 0 mX4_takeNumber 52 [(2, 9), (2, t), (8, -1)] [] (sh, pt, h) (qRV sh pt K)
  refine ev_aload_n 53 rfl dX4_takeNumber_52 rfl rfl ?_
  refine ev_getI (ki := 6) 56 rfl dX4_takeNumber_53 lf_4_31 (Or.inl rfl) (s_9 hst) (by decide) rfl ?_
  refine ev_iconst 57 rfl dX4_takeNumber_56 (by decide) ?_
  refine ev_icmp_eq (tgt := 68) 60 rfl dX4_takeNumber_57 (by decide) (fun cd => ?_) (fun cd => ?_)
  · have H := H.1 cd
    refine ev_aload_n 69 rfl dX4_takeNumber_68 rfl rfl ?_
    refine ev_aload_n 70 rfl dX4_takeNumber_69 rfl rfl ?_
    refine ev_getL (ki := 8) 73 rfl dX4_takeNumber_70 lf_4_37 (s_9 hst) (by decide) rfl ?_
    refine ev_l2i 74 rfl dX4_takeNumber_73 ?_
    refine ev_cVI (As := [(0, (ql2i (h 9 8)))]) (rest := []) 77 rfl dX4_takeNumber_74 lm_4_150 mm_X4_isWithin (s_9 hst) rfl rfl (Nat.le_of_ble_eq_true rfl) (Nat.le_of_ble_eq_true rfl) (Nat.le_refl _) H ?_
    intro r2 h1 H
    refine ev_if_ne (tgt := 88) 80 rfl dX4_takeNumber_77 (by decide) (fun cd => ?_) (fun cd => ?_)
    · have H := H.1 cd
      refine ev_aload_n 89 rfl dX4_takeNumber_88 rfl rfl ?_
      refine ev_aload_n 90 rfl dX4_takeNumber_89 rfl rfl ?_
      refine ev_aload_n 91 rfl dX4_takeNumber_90 rfl rfl ?_
      refine ev_getI (ki := 11) 94 rfl dX4_takeNumber_91 lf_4_47 (Or.inr rfl) (s_9 hst) (by decide) rfl ?_
      refine ev_if_eq (tgt := 106) 97 rfl dX4_takeNumber_94 (by decide) (fun cd => ?_) (fun cd => ?_)
      · have H := H.1 cd
        refine ev_aload_n 107 rfl dX4_takeNumber_106 rfl rfl ?_
        refine ev_getL (ki := 8) 110 rfl dX4_takeNumber_107 lf_4_37 (s_9 hst) (by decide) rfl ?_
        refine ev_l2i 111 rfl dX4_takeNumber_110 ?_
        refine ev_cVV (As := [(2, t), (0, (ql2i (h1 9 8)))]) (rest := []) 114 rfl dX4_takeNumber_111 lm_4_153 mm_X4_keepNumber (s_9 hst) rfl rfl (Nat.le_of_ble_eq_true rfl) (Nat.le_of_ble_eq_true rfl) (Nat.le_refl _) H ?_
        intro h3 H
        refine ev_aload_n 115 rfl dX4_takeNumber_114 rfl rfl ?_
        refine ev_iconst 116 rfl dX4_takeNumber_115 (by decide) ?_
        refine ev_putI (ki := 11) 119 rfl dX4_takeNumber_116 lf_4_47 (Or.inr ⟨rfl, by decide, by decide⟩) (s_9 hst) (by decide) rfl ?_
        obtain ⟨h4, eh4⟩ : ∃ z : qM, z = qup h3 9 11 0 := ⟨_, rfl⟩
        rw [← eh4]
        have H := H h4 eh4
        exact ev_retV dX4_takeNumber_119 rfl H
      · have H := H.2 cd
        refine ev_aload_n 98 rfl dX4_takeNumber_97 rfl rfl ?_
        refine ev_getL (ki := 8) 101 rfl dX4_takeNumber_98 lf_4_37 (s_9 hst) (by decide) rfl ?_
        refine ev_l2i 102 rfl dX4_takeNumber_101 ?_
        obtain ⟨sd, H⟩ := H
        refine ev_ineg 103 rfl dX4_takeNumber_102 sd ?_
        refine ev_goto (tgt := 111) dX4_takeNumber_103 (by decide) ?_
        refine ev_cVV (As := [(2, t), (0, (-(ql2i (h1 9 8))))]) (rest := []) 114 rfl dX4_takeNumber_111 lm_4_153 mm_X4_keepNumber (s_9 hst) rfl rfl (Nat.le_of_ble_eq_true rfl) (Nat.le_of_ble_eq_true rfl) (Nat.le_refl _) H ?_
        intro h5 H
        refine ev_aload_n 115 rfl dX4_takeNumber_114 rfl rfl ?_
        refine ev_iconst 116 rfl dX4_takeNumber_115 (by decide) ?_
        refine ev_putI (ki := 11) 119 rfl dX4_takeNumber_116 lf_4_47 (Or.inr ⟨rfl, by decide, by decide⟩) (s_9 hst) (by decide) rfl ?_
        obtain ⟨h6, eh6⟩ : ∃ z : qM, z = qup h5 9 11 0 := ⟨_, rfl⟩
        rw [← eh6]
        have H := H h6 eh6
        exact ev_retV dX4_takeNumber_119 rfl H
    · have H := H.2 cd
      refine ev_aload_n 81 rfl dX4_takeNumber_80 rfl rfl ?_
      refine ev_iconst 82 rfl dX4_takeNumber_81 (by decide) ?_
      refine ev_cVV (As := [(0, 4)]) (rest := []) 85 rfl dX4_takeNumber_82 lm_4_81 mm_X4_fail (s_9 hst) rfl rfl (Nat.le_of_ble_eq_true rfl) (Nat.le_of_ble_eq_true rfl) (Nat.le_refl _) H ?_
      intro h7 H
      refine ev_goto (tgt := 119) dX4_takeNumber_85 (by decide) ?_
      exact ev_retV dX4_takeNumber_119 rfl H
  · have H := H.2 cd
    refine ev_aload_n 61 rfl dX4_takeNumber_60 rfl rfl ?_
    refine ev_iconst 62 rfl dX4_takeNumber_61 (by decide) ?_
    refine ev_cVV (As := [(0, 2)]) (rest := []) 65 rfl dX4_takeNumber_62 lm_4_81 mm_X4_fail (s_9 hst) rfl rfl (Nat.le_of_ble_eq_true rfl) (Nat.le_of_ble_eq_true rfl) (Nat.le_refl _) H ?_
    intro h8 H
    refine ev_goto (tgt := 119) dX4_takeNumber_65 (by decide) ?_
    exact ev_retV dX4_takeNumber_119 rfl H

set_option maxRecDepth 20000 in
theorem b_X4_isWithin {X : qX} {d : Nat} {sh : qS} {pt h : qM} {K : Int → qM → Prop} {v1 : Int} (hst : St sh pt)
    (H : (((h 9 9) = 6 → ((v1 < 1 → K 0 h) ∧ (1 ≤ v1 → ((7 < v1 → K 0 h) ∧ (v1 ≤ 7 → K 1 h))))) ∧ ((h 9 9) = 7 → ((v1 < 2 → K 0 h) ∧ (2 ≤ v1 → ((5 < v1 → K 0 h) ∧ (v1 ≤ 5 → K 1 h))))) ∧ ((h 9 9) = 8 → ((59 < v1 → K 0 h) ∧ (v1 ≤ 59 → K 1 h))) ∧ ((h 9 9) = 9 → ((59 < v1 → K 0 h) ∧ (v1 ≤ 59 → K 1 h))) ∧ ((h 9 9) = 10 → ((v1 < 2 → K 0 h) ∧ (2 ≤ v1 → ((20 < v1 → K 0 h) ∧ (v1 ≤ 20 → K 1 h))))) ∧ (((h 9 9) < 6 ∨ 10 < (h 9 9)) → ((v1 < 1 → K 0 h) ∧ (1 ≤ v1 → ((99 < v1 → K 0 h) ∧ (v1 ≤ 99 → K 1 h))))))) :
    RunI X d mX4_isWithin [(2, 9), (0, v1)] sh pt h K := by
  show Ev X d 0 0 mX4_isWithin 0 [(2, 9), (0, v1)] [] (sh, pt, h) (qRI sh pt K)
  refine ev_aload_n 1 rfl dX4_isWithin_0 rfl rfl ?_
  refine ev_getI (ki := 9) 4 rfl dX4_isWithin_1 lf_4_41 (Or.inl rfl) (s_9 hst) (by decide) rfl ?_
  have hsw : (h 9 9) = 6 ∨ (h 9 9) = 7 ∨ (h 9 9) = 8 ∨ (h 9 9) = 9 ∨ (h 9 9) = 10 ∨ ((h 9 9) < 6 ∨ 10 < (h 9 9)) := by omega
  rcases hsw with cd | cd | cd | cd | cd | cd
  · have H := H.1 cd
    refine ev_tableIn (off := 36) (tgt := 40) dX4_isWithin_4 (by omega) (by omega) (by rw [cd]; rfl) (by decide) ?_
    refine ev_iload_n 41 rfl dX4_isWithin_40 rfl rfl ?_
    refine ev_iconst 42 rfl dX4_isWithin_41 (by decide) ?_
    refine ev_icmp_lt (tgt := 55) 45 rfl dX4_isWithin_42 (by decide) (fun cd => ?_) (fun cd => ?_)
    · have H := H.1 cd
      refine ev_iconst 56 rfl dX4_isWithin_55 (by decide) ?_
      exact ev_retZ dX4_isWithin_56 rfl (by decide) H
    · have H := H.2 cd
      refine ev_iload_n 46 rfl dX4_isWithin_45 rfl rfl ?_
      refine ev_bipush 48 rfl dX4_isWithin_46 (by decide) (by decide) ?_
      refine ev_icmp_gt (tgt := 55) 51 rfl dX4_isWithin_48 (by decide) (fun cd => ?_) (fun cd => ?_)
      · have H := H.1 cd
        refine ev_iconst 56 rfl dX4_isWithin_55 (by decide) ?_
        exact ev_retZ dX4_isWithin_56 rfl (by decide) H
      · have H := H.2 cd
        refine ev_iconst 52 rfl dX4_isWithin_51 (by decide) ?_
        refine ev_goto (tgt := 56) dX4_isWithin_52 (by decide) ?_
        exact ev_retZ dX4_isWithin_56 rfl (by decide) H
  · have H := H.2.1 cd
    refine ev_tableIn (off := 53) (tgt := 57) dX4_isWithin_4 (by omega) (by omega) (by rw [cd]; rfl) (by decide) ?_
    refine ev_iload_n 58 rfl dX4_isWithin_57 rfl rfl ?_
    refine ev_iconst 59 rfl dX4_isWithin_58 (by decide) ?_
    refine ev_icmp_lt (tgt := 71) 62 rfl dX4_isWithin_59 (by decide) (fun cd => ?_) (fun cd => ?_)
    · have H := H.1 cd
      refine ev_iconst 72 rfl dX4_isWithin_71 (by decide) ?_
      exact ev_retZ dX4_isWithin_72 rfl (by decide) H
    · have H := H.2 cd
      refine ev_iload_n 63 rfl dX4_isWithin_62 rfl rfl ?_
      refine ev_iconst 64 rfl dX4_isWithin_63 (by decide) ?_
      refine ev_icmp_gt (tgt := 71) 67 rfl dX4_isWithin_64 (by decide) (fun cd => ?_) (fun cd => ?_)
      · have H := H.1 cd
        refine ev_iconst 72 rfl dX4_isWithin_71 (by decide) ?_
        exact ev_retZ dX4_isWithin_72 rfl (by decide) H
      · have H := H.2 cd
        refine ev_iconst 68 rfl dX4_isWithin_67 (by decide) ?_
        refine ev_goto (tgt := 72) dX4_isWithin_68 (by decide) ?_
        exact ev_retZ dX4_isWithin_72 rfl (by decide) H
  · have H := H.2.2.1 cd
    refine ev_tableIn (off := 69) (tgt := 73) dX4_isWithin_4 (by omega) (by omega) (by rw [cd]; rfl) (by decide) ?_
    refine ev_iload_n 74 rfl dX4_isWithin_73 rfl rfl ?_
    refine ev_bipush 76 rfl dX4_isWithin_74 (by decide) (by decide) ?_
    refine ev_icmp_gt (tgt := 83) 79 rfl dX4_isWithin_76 (by decide) (fun cd => ?_) (fun cd => ?_)
    · have H := H.1 cd
      refine ev_iconst 84 rfl dX4_isWithin_83 (by decide) ?_
      exact ev_retZ dX4_isWithin_84 rfl (by decide) H
    · have H := H.2 cd
      refine ev_iconst 80 rfl dX4_isWithin_79 (by decide) ?_
      refine ev_goto (tgt := 84) dX4_isWithin_80 (by decide) ?_
      exact ev_retZ dX4_isWithin_84 rfl (by decide) H
  · have H := H.2.2.2.1 cd
    refine ev_tableIn (off := 69) (tgt := 73) dX4_isWithin_4 (by omega) (by omega) (by rw [cd]; rfl) (by decide) ?_
    refine ev_iload_n 74 rfl dX4_isWithin_73 rfl rfl ?_
    refine ev_bipush 76 rfl dX4_isWithin_74 (by decide) (by decide) ?_
    refine ev_icmp_gt (tgt := 83) 79 rfl dX4_isWithin_76 (by decide) (fun cd => ?_) (fun cd => ?_)
    · have H := H.1 cd
      refine ev_iconst 84 rfl dX4_isWithin_83 (by decide) ?_
      exact ev_retZ dX4_isWithin_84 rfl (by decide) H
    · have H := H.2 cd
      refine ev_iconst 80 rfl dX4_isWithin_79 (by decide) ?_
      refine ev_goto (tgt := 84) dX4_isWithin_80 (by decide) ?_
      exact ev_retZ dX4_isWithin_84 rfl (by decide) H
  · have H := H.2.2.2.2.1 cd
    refine ev_tableIn (off := 81) (tgt := 85) dX4_isWithin_4 (by omega) (by omega) (by rw [cd]; rfl) (by decide) ?_
    refine ev_iload_n 86 rfl dX4_isWithin_85 rfl rfl ?_
    refine ev_iconst 87 rfl dX4_isWithin_86 (by decide) ?_
    refine ev_icmp_lt (tgt := 100) 90 rfl dX4_isWithin_87 (by decide) (fun cd => ?_) (fun cd => ?_)
    · have H := H.1 cd
      refine ev_iconst 101 rfl dX4_isWithin_100 (by decide) ?_
      exact ev_retZ dX4_isWithin_101 rfl (by decide) H
    · have H := H.2 cd
      refine ev_iload_n 91 rfl dX4_isWithin_90 rfl rfl ?_
      refine ev_bipush 93 rfl dX4_isWithin_91 (by decide) (by decide) ?_
      refine ev_icmp_gt (tgt := 100) 96 rfl dX4_isWithin_93 (by decide) (fun cd => ?_) (fun cd => ?_)
      · have H := H.1 cd
        refine ev_iconst 101 rfl dX4_isWithin_100 (by decide) ?_
        exact ev_retZ dX4_isWithin_101 rfl (by decide) H
      · have H := H.2 cd
        refine ev_iconst 97 rfl dX4_isWithin_96 (by decide) ?_
        refine ev_goto (tgt := 101) dX4_isWithin_97 (by decide) ?_
        exact ev_retZ dX4_isWithin_101 rfl (by decide) H
  · have H := H.2.2.2.2.2 cd
    refine ev_tableOut (tgt := 102) dX4_isWithin_4 cd (by decide) ?_
    refine ev_iload_n 103 rfl dX4_isWithin_102 rfl rfl ?_
    refine ev_iconst 104 rfl dX4_isWithin_103 (by decide) ?_
    refine ev_icmp_lt (tgt := 117) 107 rfl dX4_isWithin_104 (by decide) (fun cd => ?_) (fun cd => ?_)
    · have H := H.1 cd
      refine ev_iconst 118 rfl dX4_isWithin_117 (by decide) ?_
      exact ev_retZ dX4_isWithin_118 rfl (by decide) H
    · have H := H.2 cd
      refine ev_iload_n 108 rfl dX4_isWithin_107 rfl rfl ?_
      refine ev_bipush 110 rfl dX4_isWithin_108 (by decide) (by decide) ?_
      refine ev_icmp_gt (tgt := 117) 113 rfl dX4_isWithin_110 (by decide) (fun cd => ?_) (fun cd => ?_)
      · have H := H.1 cd
        refine ev_iconst 118 rfl dX4_isWithin_117 (by decide) ?_
        exact ev_retZ dX4_isWithin_118 rfl (by decide) H
      · have H := H.2 cd
        refine ev_iconst 114 rfl dX4_isWithin_113 (by decide) ?_
        refine ev_goto (tgt := 118) dX4_isWithin_114 (by decide) ?_
        exact ev_retZ dX4_isWithin_118 rfl (by decide) H

set_option maxRecDepth 20000 in
theorem b_X4_keepNumber {X : qX} {d : Nat} {sh : qS} {pt h : qM} {K : qM → Prop} {t v2 : Int} (hst : St sh pt) (ht : isT t)
    (H : (((h 9 9) = 6 → (0 ≤ (h 9 10) ∧ (h 9 10) < 60) ∧ ∀ h2 : qM, h2 = qup h (t + 3) (h 9 10) v2 → ∀ h3 : qM, h3 = qup h2 9 9 2 → K h3) ∧ ((h 9 9) = 7 → (0 ≤ (h 9 10) ∧ (h 9 10) < 60) ∧ ∀ h5 : qM, h5 = qup h (t + 3) (h 9 10) v2 → ∀ h6 : qM, h6 = qup h5 9 9 5 → K h6) ∧ ((h 9 9) = 8 → (0 ≤ (h 9 10) ∧ (h 9 10) < 60) ∧ ∀ h8 : qM, h8 = qup h (t + 3) (h 9 10) v2 → ∀ h9 : qM, h9 = qup h8 9 9 9 → K h9) ∧ ((h 9 9) = 9 → (0 ≤ (h 9 10) ∧ (h 9 10) < 60) ∧ ∀ h11 : qM, h11 = qup h (t + 4) (h 9 10) v2 → ∀ h12 : qM, h12 = qup h11 9 9 5 → K h12) ∧ ((h 9 9) = 10 → (0 ≤ (h 9 10) ∧ (h 9 10) < 60) ∧ ∀ h14 : qM, h14 = qup h (t + 3) (h 9 10) v2 → ∀ h15 : qM, h15 = qup h14 9 9 3 → K h15) ∧ (((h 9 9) < 6 ∨ 10 < (h 9 9)) → (0 ≤ (h 9 10) ∧ (h 9 10) < 60) ∧ ∀ h17 : qM, h17 = qup h (t + 5) (h 9 10) v2 → ∀ h18 : qM, h18 = qup h17 9 9 2 → K h18))) :
    RunV X d mX4_keepNumber [(2, 9), (2, t), (0, v2)] sh pt h K := by
  show Ev X d 0 0 mX4_keepNumber 0 [(2, 9), (2, t), (0, v2)] [] (sh, pt, h) (qRV sh pt K)
  refine ev_aload_n 1 rfl dX4_keepNumber_0 rfl rfl ?_
  refine ev_getI (ki := 9) 4 rfl dX4_keepNumber_1 lf_4_41 (Or.inl rfl) (s_9 hst) (by decide) rfl ?_
  have hsw : (h 9 9) = 6 ∨ (h 9 9) = 7 ∨ (h 9 9) = 8 ∨ (h 9 9) = 9 ∨ (h 9 9) = 10 ∨ ((h 9 9) < 6 ∨ 10 < (h 9 9)) := by omega
  rcases hsw with cd | cd | cd | cd | cd | cd
  · have H := H.1 cd
    refine ev_tableIn (off := 36) (tgt := 40) dX4_keepNumber_4 (by omega) (by omega) (by rw [cd]; rfl) (by decide) ?_
    refine ev_aload_n 41 rfl dX4_keepNumber_40 rfl rfl ?_
    refine ev_getR (ki := 2) (v := (t + 3)) 44 rfl dX4_keepNumber_41 lf_4_147 (sT hst ht) (by decide) rfl (pT2 hst ht) ?_
    refine ev_aload_n 45 rfl dX4_keepNumber_44 rfl rfl ?_
    refine ev_getI (ki := 10) 48 rfl dX4_keepNumber_45 lf_4_44 (Or.inl rfl) (s_9 hst) (by decide) rfl ?_
    refine ev_iload_n 49 rfl dX4_keepNumber_48 rfl rfl ?_
    obtain ⟨b1, H⟩ := H
    refine ev_iastore 50 rfl dX4_keepNumber_49 (sT2 hst ht) b1.1 b1.2 ?_
    obtain ⟨h2, eh2⟩ : ∃ z : qM, z = qup h (t + 3) (h 9 10) v2 := ⟨_, rfl⟩
    rw [← eh2]
    have H := H h2 eh2
    refine ev_aload_n 51 rfl dX4_keepNumber_50 rfl rfl ?_
    refine ev_iconst 52 rfl dX4_keepNumber_51 (by decide) ?_
    refine ev_putI (ki := 9) 55 rfl dX4_keepNumber_52 lf_4_41 (Or.inl rfl) (s_9 hst) (by decide) rfl ?_
    obtain ⟨h3, eh3⟩ : ∃ z : qM, z = qup h2 9 9 2 := ⟨_, rfl⟩
    rw [← eh3]
    have H := H h3 eh3
    refine ev_goto (tgt := 146) dX4_keepNumber_55 (by decide) ?_
    exact ev_retV dX4_keepNumber_146 rfl H
  · have H := H.2.1 cd
    refine ev_tableIn (off := 54) (tgt := 58) dX4_keepNumber_4 (by omega) (by omega) (by rw [cd]; rfl) (by decide) ?_
    refine ev_aload_n 59 rfl dX4_keepNumber_58 rfl rfl ?_
    refine ev_getR (ki := 2) (v := (t + 3)) 62 rfl dX4_keepNumber_59 lf_4_147 (sT hst ht) (by decide) rfl (pT2 hst ht) ?_
    refine ev_aload_n 63 rfl dX4_keepNumber_62 rfl rfl ?_
    refine ev_getI (ki := 10) 66 rfl dX4_keepNumber_63 lf_4_44 (Or.inl rfl) (s_9 hst) (by decide) rfl ?_
    refine ev_iload_n 67 rfl dX4_keepNumber_66 rfl rfl ?_
    obtain ⟨b4, H⟩ := H
    refine ev_iastore 68 rfl dX4_keepNumber_67 (sT2 hst ht) b4.1 b4.2 ?_
    obtain ⟨h5, eh5⟩ : ∃ z : qM, z = qup h (t + 3) (h 9 10) v2 := ⟨_, rfl⟩
    rw [← eh5]
    have H := H h5 eh5
    refine ev_aload_n 69 rfl dX4_keepNumber_68 rfl rfl ?_
    refine ev_iconst 70 rfl dX4_keepNumber_69 (by decide) ?_
    refine ev_putI (ki := 9) 73 rfl dX4_keepNumber_70 lf_4_41 (Or.inl rfl) (s_9 hst) (by decide) rfl ?_
    obtain ⟨h6, eh6⟩ : ∃ z : qM, z = qup h5 9 9 5 := ⟨_, rfl⟩
    rw [← eh6]
    have H := H h6 eh6
    refine ev_goto (tgt := 146) dX4_keepNumber_73 (by decide) ?_
    exact ev_retV dX4_keepNumber_146 rfl H
  · have H := H.2.2.1 cd
    refine ev_tableIn (off := 72) (tgt := 76) dX4_keepNumber_4 (by omega) (by omega) (by rw [cd]; rfl) (by decide) ?_
    refine ev_aload_n 77 rfl dX4_keepNumber_76 rfl rfl ?_
    refine ev_getR (ki := 2) (v := (t + 3)) 80 rfl dX4_keepNumber_77 lf_4_147 (sT hst ht) (by decide) rfl (pT2 hst ht) ?_
    refine ev_aload_n 81 rfl dX4_keepNumber_80 rfl rfl ?_
    refine ev_getI (ki := 10) 84 rfl dX4_keepNumber_81 lf_4_44 (Or.inl rfl) (s_9 hst) (by decide) rfl ?_
    refine ev_iload_n 85 rfl dX4_keepNumber_84 rfl rfl ?_
    obtain ⟨b7, H⟩ := H
    refine ev_iastore 86 rfl dX4_keepNumber_85 (sT2 hst ht) b7.1 b7.2 ?_
    obtain ⟨h8, eh8⟩ : ∃ z : qM, z = qup h (t + 3) (h 9 10) v2 := ⟨_, rfl⟩
    rw [← eh8]
    have H := H h8 eh8
    refine ev_aload_n 87 rfl dX4_keepNumber_86 rfl rfl ?_
    refine ev_bipush 89 rfl dX4_keepNumber_87 (by decide) (by decide) ?_
    refine ev_putI (ki := 9) 92 rfl dX4_keepNumber_89 lf_4_41 (Or.inl rfl) (s_9 hst) (by decide) rfl ?_
    obtain ⟨h9, eh9⟩ : ∃ z : qM, z = qup h8 9 9 9 := ⟨_, rfl⟩
    rw [← eh9]
    have H := H h9 eh9
    refine ev_goto (tgt := 146) dX4_keepNumber_92 (by decide) ?_
    exact ev_retV dX4_keepNumber_146 rfl H
  · have H := H.2.2.2.1 cd
    refine ev_tableIn (off := 91) (tgt := 95) dX4_keepNumber_4 (by omega) (by omega) (by rw [cd]; rfl) (by decide) ?_
    refine ev_aload_n 96 rfl dX4_keepNumber_95 rfl rfl ?_
    refine ev_getR (ki := 3) (v := (t + 4)) 99 rfl dX4_keepNumber_96 lf_4_156 (sT hst ht) (by decide) rfl (pT3 hst ht) ?_
    refine ev_aload_n 100 rfl dX4_keepNumber_99 rfl rfl ?_
    refine ev_getI (ki := 10) 103 rfl dX4_keepNumber_100 lf_4_44 (Or.inl rfl) (s_9 hst) (by decide) rfl ?_
    refine ev_iload_n 104 rfl dX4_keepNumber_103 rfl rfl ?_
    obtain ⟨b10, H⟩ := H
    refine ev_iastore 105 rfl dX4_keepNumber_104 (sT3 hst ht) b10.1 b10.2 ?_
    obtain ⟨h11, eh11⟩ : ∃ z : qM, z = qup h (t + 4) (h 9 10) v2 := ⟨_, rfl⟩
    rw [← eh11]
    have H := H h11 eh11
    refine ev_aload_n 106 rfl dX4_keepNumber_105 rfl rfl ?_
    refine ev_iconst 107 rfl dX4_keepNumber_106 (by decide) ?_
    refine ev_putI (ki := 9) 110 rfl dX4_keepNumber_107 lf_4_41 (Or.inl rfl) (s_9 hst) (by decide) rfl ?_
    obtain ⟨h12, eh12⟩ : ∃ z : qM, z = qup h11 9 9 5 := ⟨_, rfl⟩
    rw [← eh12]
    have H := H h12 eh12
    refine ev_goto (tgt := 146) dX4_keepNumber_110 (by decide) ?_
    exact ev_retV dX4_keepNumber_146 rfl H
  · have H := H.2.2.2.2.1 cd
    refine ev_tableIn (off := 109) (tgt := 113) dX4_keepNumber_4 (by omega) (by omega) (by rw [cd]; rfl) (by decide) ?_
    refine ev_aload_n 114 rfl dX4_keepNumber_113 rfl rfl ?_
    refine ev_getR (ki := 2) (v := (t + 3)) 117 rfl dX4_keepNumber_114 lf_4_147 (sT hst ht) (by decide) rfl (pT2 hst ht) ?_
    refine ev_aload_n 118 rfl dX4_keepNumber_117 rfl rfl ?_
    refine ev_getI (ki := 10) 121 rfl dX4_keepNumber_118 lf_4_44 (Or.inl rfl) (s_9 hst) (by decide) rfl ?_
    refine ev_iload_n 122 rfl dX4_keepNumber_121 rfl rfl ?_
    obtain ⟨b13, H⟩ := H
    refine ev_iastore 123 rfl dX4_keepNumber_122 (sT2 hst ht) b13.1 b13.2 ?_
    obtain ⟨h14, eh14⟩ : ∃ z : qM, z = qup h (t + 3) (h 9 10) v2 := ⟨_, rfl⟩
    rw [← eh14]
    have H := H h14 eh14
    refine ev_aload_n 124 rfl dX4_keepNumber_123 rfl rfl ?_
    refine ev_iconst 125 rfl dX4_keepNumber_124 (by decide) ?_
    refine ev_putI (ki := 9) 128 rfl dX4_keepNumber_125 lf_4_41 (Or.inl rfl) (s_9 hst) (by decide) rfl ?_
    obtain ⟨h15, eh15⟩ : ∃ z : qM, z = qup h14 9 9 3 := ⟨_, rfl⟩
    rw [← eh15]
    have H := H h15 eh15
    refine ev_goto (tgt := 146) dX4_keepNumber_128 (by decide) ?_
    exact ev_retV dX4_keepNumber_146 rfl H
  · have H := H.2.2.2.2.2 cd
    refine ev_tableOut (tgt := 131) dX4_keepNumber_4 cd (by decide) ?_
    refine ev_aload_n 132 rfl dX4_keepNumber_131 rfl rfl ?_
    refine ev_getR (ki := 4) (v := (t + 5)) 135 rfl dX4_keepNumber_132 lf_4_159 (sT hst ht) (by decide) rfl (pT4 hst ht) ?_
    refine ev_aload_n 136 rfl dX4_keepNumber_135 rfl rfl ?_
    refine ev_getI (ki := 10) 139 rfl dX4_keepNumber_136 lf_4_44 (Or.inl rfl) (s_9 hst) (by decide) rfl ?_
    refine ev_iload_n 140 rfl dX4_keepNumber_139 rfl rfl ?_
    obtain ⟨b16, H⟩ := H
    refine ev_iastore 141 rfl dX4_keepNumber_140 (sT4 hst ht) b16.1 b16.2 ?_
    obtain ⟨h17, eh17⟩ : ∃ z : qM, z = qup h (t + 5) (h 9 10) v2 := ⟨_, rfl⟩
    rw [← eh17]
    have H := H h17 eh17
    refine ev_aload_n 142 rfl dX4_keepNumber_141 rfl rfl ?_
    refine ev_iconst 143 rfl dX4_keepNumber_142 (by decide) ?_
    refine ev_putI (ki := 9) 146 rfl dX4_keepNumber_143 lf_4_41 (Or.inl rfl) (s_9 hst) (by decide) rfl ?_
    obtain ⟨h18, eh18⟩ : ∃ z : qM, z = qup h17 9 9 2 := ⟨_, rfl⟩
    rw [← eh18]
    have H := H h18 eh18
    exact ev_retV dX4_keepNumber_146 rfl H

set_option maxRecDepth 20000 in
theorem b_X4_isSign {X : qX} {d : Nat} {sh : qS} {pt h : qM} {K : Int → qM → Prop} {v1 : Int} (hst : St sh pt)
    (H : ((¬ (h 9 6) = 4 → K 0 h) ∧ ((h 9 6) = 4 → ((¬ (h 9 8) = v1 → K 0 h) ∧ ((h 9 8) = v1 → K 1 h))))) :
    RunI X d mX4_isSign [(2, 9), (0, v1)] sh pt h K := by
  show Ev X d 0 0 mX4_isSign 0 [(2, 9), (0, v1)] [] (sh, pt, h) (qRI sh pt K)
  refine ev_aload_n 1 rfl dX4_isSign_0 rfl rfl ?_
  refine ev_getI (ki := 6) 4 rfl dX4_isSign_1 lf_4_31 (Or.inl rfl) (s_9 hst) (by decide) rfl ?_
  refine ev_iconst 5 rfl dX4_isSign_4 (by decide) ?_
  refine ev_icmp_ne (tgt := 22) 8 rfl dX4_isSign_5 (by decide) (fun cd => ?_) (fun cd => ?_)
  · have H := H.1 cd
    refine ev_iconst 23 rfl dX4_isSign_22 (by decide) ?_
    exact ev_retZ dX4_isSign_23 rfl (by decide) H
  · have H := H.2 cd
    refine ev_aload_n 9 rfl dX4_isSign_8 rfl rfl ?_
    refine ev_getL (ki := 8) 12 rfl dX4_isSign_9 lf_4_37 (s_9 hst) (by decide) rfl ?_
    refine ev_iload_n 13 rfl dX4_isSign_12 rfl rfl ?_
    refine ev_i2l 14 rfl dX4_isSign_13 ?_
    refine ev_lc_ne (tgt := 22) 18 rfl dX4_isSign_14 dX4_isSign_15 (by decide) (fun cd => ?_) (fun cd => ?_)
    · have H := H.1 cd
      refine ev_iconst 23 rfl dX4_isSign_22 (by decide) ?_
      exact ev_retZ dX4_isSign_23 rfl (by decide) H
    · have H := H.2 cd
      refine ev_iconst 19 rfl dX4_isSign_18 (by decide) ?_
      refine ev_goto (tgt := 23) dX4_isSign_19 (by decide) ?_
      exact ev_retZ dX4_isSign_23 rfl (by decide) H

set_option maxRecDepth 20000 in
theorem b_X4_fail {X : qX} {d : Nat} {sh : qS} {pt h : qM} {K : qM → Prop} {v1 : Int} (hst : St sh pt)
    (H : ∀ h1 : qM, h1 = qup h 9 2 v1 → ∀ h2 : qM, h2 = qup h1 9 3 (h1 9 7) → K h2) :
    RunV X d mX4_fail [(2, 9), (0, v1)] sh pt h K := by
  show Ev X d 0 0 mX4_fail 0 [(2, 9), (0, v1)] [] (sh, pt, h) (qRV sh pt K)
  refine ev_aload_n 1 rfl dX4_fail_0 rfl rfl ?_
  refine ev_iload_n 2 rfl dX4_fail_1 rfl rfl ?_
  refine ev_putI (ki := 2) 5 rfl dX4_fail_2 lf_4_19 (Or.inl rfl) (s_9 hst) (by decide) rfl ?_
  obtain ⟨h1, eh1⟩ : ∃ z : qM, z = qup h 9 2 v1 := ⟨_, rfl⟩
  rw [← eh1]
  have H := H h1 eh1
  refine ev_aload_n 6 rfl dX4_fail_5 rfl rfl ?_
  refine ev_aload_n 7 rfl dX4_fail_6 rfl rfl ?_
  refine ev_getI (ki := 7) 10 rfl dX4_fail_7 lf_4_34 (Or.inl rfl) (s_9 hst) (by decide) rfl ?_
  refine ev_putI (ki := 3) 13 rfl dX4_fail_10 lf_4_22 (Or.inl rfl) (s_9 hst) (by decide) rfl ?_
  obtain ⟨h2, eh2⟩ : ∃ z : qM, z = qup h1 9 3 (h1 9 7) := ⟨_, rfl⟩
  rw [← eh2]
  have H := H h2 eh2
  exact ev_retV dX4_fail_13 rfl H

set_option maxRecDepth 20000 in
theorem b_X4_nextToken {X : qX} {d : Nat} {sh : qS} {pt h : qM} {K : qM → Prop} (hst : St sh pt)
    (H : RunV X d mX4_skipBlanks [(2, 9)] sh pt h (fun h1 => ∀ h2 : qM, h2 = qup h1 9 7 (h1 9 5) → ∀ h3 : qM, h3 = qup h2 9 8 0 → (((h3 9 5) < (h3 9 4) → (0 ≤ (h3 9 5) ∧ (h3 9 5) < 500) ∧ RunI X d mX4_isLetter [(0, (h3 10 (h3 9 5)))] sh pt h3 (fun r6 h5 => ((r6 = 0 → (0 ≤ (h5 9 5) ∧ (h5 9 5) < 500) ∧ RunI X d mX4_isDigit [(0, (h5 10 (h5 9 5)))] sh pt h5 (fun r9 h8 => ((r9 = 0 → RunV X d mX4_scanSign [(2, 9)] sh pt h8 (fun h10 => K h10)) ∧ (¬ r9 = 0 → RunV X d mX4_scanNumber [(2, 9)] sh pt h8 (fun h11 => K h11))))) ∧ (¬ r6 = 0 → RunV X d mX4_scanWord [(2, 9)] sh pt h5 (fun h12 => K h12))))) ∧ ((h3 9 4) ≤ (h3 9 5) → ∀ h13 : qM, h13 = qup h3 9 6 1 → K h13)))) :
    RunV X (d + 1) mX4_nextToken [(2, 9)] sh pt h K := by
  show Ev X (d + 1) 0 0 mX4_nextToken 0 [(2, 9)] [] (sh, pt, h) (qRV sh pt K)
  refine ev_aload_n 1 rfl dX4_nextToken_0 rfl rfl ?_
  refine ev_cVV (As := []) (rest := []) 4 rfl dX4_nextToken_1 lm_4_162 mm_X4_skipBlanks (s_9 hst) rfl rfl (Nat.le_of_ble_eq_true rfl) (Nat.le_of_ble_eq_true rfl) (Nat.le_refl _) H ?_
  intro h1 H
  refine ev_aload_n 5 rfl dX4_nextToken_4 rfl rfl ?_
  refine ev_aload_n 6 rfl dX4_nextToken_5 rfl rfl ?_
  refine ev_getI (ki := 5) 9 rfl dX4_nextToken_6 lf_4_28 (Or.inl rfl) (s_9 hst) (by decide) rfl ?_
  refine ev_putI (ki := 7) 12 rfl dX4_nextToken_9 lf_4_34 (Or.inl rfl) (s_9 hst) (by decide) rfl ?_
  obtain ⟨h2, eh2⟩ : ∃ z : qM, z = qup h1 9 7 (h1 9 5) := ⟨_, rfl⟩
  rw [← eh2]
  have H := H h2 eh2
  refine ev_aload_n 13 rfl dX4_nextToken_12 rfl rfl ?_
  refine ev_lconst (v := 0) 14 rfl dX4_nextToken_13 (by decide) (by decide) ?_
  refine ev_putL (ki := 8) 17 rfl dX4_nextToken_14 lf_4_37 (s_9 hst) (by decide) rfl ?_
  obtain ⟨h3, eh3⟩ : ∃ z : qM, z = qup h2 9 8 0 := ⟨_, rfl⟩
  rw [← eh3]
  have H := H h3 eh3
  refine ev_aload_n 18 rfl dX4_nextToken_17 rfl rfl ?_
  refine ev_getI (ki := 5) 21 rfl dX4_nextToken_18 lf_4_28 (Or.inl rfl) (s_9 hst) (by decide) rfl ?_
  refine ev_aload_n 22 rfl dX4_nextToken_21 rfl rfl ?_
  refine ev_getI (ki := 4) 25 rfl dX4_nextToken_22 lf_4_25 (Or.inl rfl) (s_9 hst) (by decide) rfl ?_
  refine ev_icmp_lt (tgt := 36) 28 rfl dX4_nextToken_25 (by decide) (fun cd => ?_) (fun cd => ?_)
  · have H := H.1 cd
    refine ev_aload_n 37 rfl dX4_nextToken_36 rfl rfl ?_
    refine ev_getR (ki := 0) (v := 10) 40 rfl dX4_nextToken_37 lf_4_11 (s_9 hst) (by decide) rfl (p_9_0 hst) ?_
    refine ev_aload_n 41 rfl dX4_nextToken_40 rfl rfl ?_
    refine ev_getI (ki := 5) 44 rfl dX4_nextToken_41 lf_4_28 (Or.inl rfl) (s_9 hst) (by decide) rfl ?_
    obtain ⟨b4, H⟩ := H
    refine ev_iaload 45 rfl dX4_nextToken_44 (s_10 hst) b4.1 b4.2 ?_
    refine ev_cSI (As := [(0, (h3 10 (h3 9 5)))]) (rest := []) 48 rfl dX4_nextToken_45 lm_4_165 mm_X4_isLetter rfl rfl (Nat.le_of_ble_eq_true rfl) (Nat.le_of_ble_eq_true rfl) (Nat.le_refl _) H ?_
    intro r6 h5 H
    refine ev_if_eq (tgt := 58) 51 rfl dX4_nextToken_48 (by decide) (fun cd => ?_) (fun cd => ?_)
    · have H := H.1 cd
      refine ev_aload_n 59 rfl dX4_nextToken_58 rfl rfl ?_
      refine ev_getR (ki := 0) (v := 10) 62 rfl dX4_nextToken_59 lf_4_11 (s_9 hst) (by decide) rfl (p_9_0 hst) ?_
      refine ev_aload_n 63 rfl dX4_nextToken_62 rfl rfl ?_
      refine ev_getI (ki := 5) 66 rfl dX4_nextToken_63 lf_4_28 (Or.inl rfl) (s_9 hst) (by decide) rfl ?_
      obtain ⟨b7, H⟩ := H
      refine ev_iaload 67 rfl dX4_nextToken_66 (s_10 hst) b7.1 b7.2 ?_
      refine ev_cSI (As := [(0, (h5 10 (h5 9 5)))]) (rest := []) 70 rfl dX4_nextToken_67 lm_4_171 mm_X4_isDigit rfl rfl (Nat.le_of_ble_eq_true rfl) (Nat.le_of_ble_eq_true rfl) (Nat.le_refl _) H ?_
      intro r9 h8 H
      refine ev_if_eq (tgt := 80) 73 rfl dX4_nextToken_70 (by decide) (fun cd => ?_) (fun cd => ?_)
      · have H := H.1 cd
        refine ev_aload_n 81 rfl dX4_nextToken_80 rfl rfl ?_
        refine ev_cVV (As := []) (rest := []) 84 rfl dX4_nextToken_81 lm_4_177 mm_X4_scanSign (s_9 hst) rfl rfl (Nat.le_of_ble_eq_true rfl) (Nat.le_of_ble_eq_true rfl) (Nat.le_refl _) H ?_
        intro h10 H
        exact ev_retV dX4_nextToken_84 rfl H
      · have H := H.2 cd
        refine ev_aload_n 74 rfl dX4_nextToken_73 rfl rfl ?_
        refine ev_cVV (As := []) (rest := []) 77 rfl dX4_nextToken_74 lm_4_174 mm_X4_scanNumber (s_9 hst) rfl rfl (Nat.le_of_ble_eq_true rfl) (Nat.le_of_ble_eq_true rfl) (Nat.le_refl _) H ?_
        intro h11 H
        refine ev_goto (tgt := 84) dX4_nextToken_77 (by decide) ?_
        exact ev_retV dX4_nextToken_84 rfl H
    · have H := H.2 cd
      refine ev_aload_n 52 rfl dX4_nextToken_51 rfl rfl ?_
      refine ev_cVV (As := []) (rest := []) 55 rfl dX4_nextToken_52 lm_4_168 mm_X4_scanWord (s_9 hst) rfl rfl (Nat.le_of_ble_eq_true rfl) (Nat.le_of_ble_eq_true rfl) (Nat.le_refl _) H ?_
      intro h12 H
      refine ev_goto (tgt := 84) dX4_nextToken_55 (by decide) ?_
      exact ev_retV dX4_nextToken_84 rfl H
  · have H := H.2 cd
    refine ev_aload_n 29 rfl dX4_nextToken_28 rfl rfl ?_
    refine ev_iconst 30 rfl dX4_nextToken_29 (by decide) ?_
    refine ev_putI (ki := 6) 33 rfl dX4_nextToken_30 lf_4_31 (Or.inl rfl) (s_9 hst) (by decide) rfl ?_
    obtain ⟨h13, eh13⟩ : ∃ z : qM, z = qup h3 9 6 1 := ⟨_, rfl⟩
    rw [← eh13]
    have H := H h13 eh13
    refine ev_goto (tgt := 84) dX4_nextToken_33 (by decide) ?_
    exact ev_retV dX4_nextToken_84 rfl H

set_option maxRecDepth 20000 in
theorem b_X4_skipBlanks {X : qX} {d : Nat} {sh : qS} {pt h : qM} {K : qM → Prop} (hst : St sh pt)
    (H : EvV X d mX4_skipBlanks 5 [(2, 9), (0, (h 9 5))] [] sh pt h K) :
    RunV X d mX4_skipBlanks [(2, 9)] sh pt h K := by
  show Ev X d 0 0 mX4_skipBlanks 0 [(2, 9), (8, -1)] [] (sh, pt, h) (qRV sh pt K)
  refine ev_aload_n 1 rfl dX4_skipBlanks_0 rfl rfl ?_
  refine ev_getI (ki := 5) 4 rfl dX4_skipBlanks_1 lf_4_28 (Or.inl rfl) (s_9 hst) (by decide) rfl ?_
  refine ev_istore_n (L1 := [(2, 9), (0, (h 9 5))]) 5 rfl dX4_skipBlanks_4 rfl (Nat.le_of_ble_eq_true rfl) rfl ?_
  exact H

set_option maxRecDepth 20000 in
theorem b_X4_skipBlanks_5 {X : qX} {d : Nat} {sh : qS} {pt h : qM} {K : qM → Prop} {v1 : Int} (hst : St sh pt)
    (H : (((h 9 4) ≤ v1 → K h) ∧ (v1 < (h 9 4) → (0 ≤ v1 ∧ v1 < 500) ∧ (((h 10 v1) = 10 → (qI (v1 + 1)) ∧ ∀ h2 : qM, h2 = qup h 9 5 (v1 + 1) → (qI (v1 + 1)) ∧ EvV X d mX4_skipBlanks 5 [(2, 9), (0, (v1 + 1))] [] sh pt h2 K) ∧ (¬ (h 10 v1) = 10 → (0 ≤ v1 ∧ v1 < 500) ∧ ((¬ (h 10 v1) = 32 → K h) ∧ ((h 10 v1) = 32 → (qI (v1 + 1)) ∧ ∀ h4 : qM, h4 = qup h 9 5 (v1 + 1) → (qI (v1 + 1)) ∧ EvV X d mX4_skipBlanks 5 [(2, 9), (0, (v1 + 1))] [] sh pt h4 K))))))) :
    EvV X d mX4_skipBlanks 5 [(2, 9), (0, v1)] [] sh pt h K := by
  show Ev X d 0 0 mX4_skipBlanks 5 [(2, 9), (0, v1)] [] (sh, pt, h) (qRV sh pt K)
  refine ev_iload_n 6 rfl dX4_skipBlanks_5 rfl rfl ?_
  refine ev_aload_n 7 rfl dX4_skipBlanks_6 rfl rfl ?_
  refine ev_getI (ki := 4) 10 rfl dX4_skipBlanks_7 lf_4_25 (Or.inl rfl) (s_9 hst) (by decide) rfl ?_
  refine ev_icmp_ge (tgt := 48) 13 rfl dX4_skipBlanks_10 (by decide) (fun cd => ?_) (fun cd => ?_)
  · have H := H.1 cd
    exact ev_retV dX4_skipBlanks_48 rfl H
  · have H := H.2 cd
    refine ev_aload_n 14 rfl dX4_skipBlanks_13 rfl rfl ?_
    refine ev_getR (ki := 0) (v := 10) 17 rfl dX4_skipBlanks_14 lf_4_11 (s_9 hst) (by decide) rfl (p_9_0 hst) ?_
    refine ev_iload_n 18 rfl dX4_skipBlanks_17 rfl rfl ?_
    obtain ⟨b1, H⟩ := H
    refine ev_iaload 19 rfl dX4_skipBlanks_18 (s_10 hst) b1.1 b1.2 ?_
    refine ev_bipush 21 rfl dX4_skipBlanks_19 (by decide) (by decide) ?_
    refine ev_icmp_eq (tgt := 35) 24 rfl dX4_skipBlanks_21 (by decide) (fun cd => ?_) (fun cd => ?_)
    · have H := H.1 cd
      refine ev_aload_n 36 rfl dX4_skipBlanks_35 rfl rfl ?_
      refine ev_iload_n 37 rfl dX4_skipBlanks_36 rfl rfl ?_
      refine ev_iconst 38 rfl dX4_skipBlanks_37 (by decide) ?_
      obtain ⟨sd, H⟩ := H
      refine ev_iadd 39 rfl dX4_skipBlanks_38 sd ?_
      refine ev_putI (ki := 5) 42 rfl dX4_skipBlanks_39 lf_4_28 (Or.inl rfl) (s_9 hst) (by decide) rfl ?_
      obtain ⟨h2, eh2⟩ : ∃ z : qM, z = qup h 9 5 (v1 + 1) := ⟨_, rfl⟩
      rw [← eh2]
      have H := H h2 eh2
      obtain ⟨sd, H⟩ := H
      refine ev_iinc (L1 := [(2, 9), (0, (v1 + 1))]) 45 rfl dX4_skipBlanks_42 rfl sd (Nat.le_of_ble_eq_true rfl) rfl ?_
      refine ev_goto (tgt := 5) dX4_skipBlanks_45 (by decide) ?_
      exact H
    · have H := H.2 cd
      refine ev_aload_n 25 rfl dX4_skipBlanks_24 rfl rfl ?_
      refine ev_getR (ki := 0) (v := 10) 28 rfl dX4_skipBlanks_25 lf_4_11 (s_9 hst) (by decide) rfl (p_9_0 hst) ?_
      refine ev_iload_n 29 rfl dX4_skipBlanks_28 rfl rfl ?_
      obtain ⟨b3, H⟩ := H
      refine ev_iaload 30 rfl dX4_skipBlanks_29 (s_10 hst) b3.1 b3.2 ?_
      refine ev_bipush 32 rfl dX4_skipBlanks_30 (by decide) (by decide) ?_
      refine ev_icmp_ne (tgt := 48) 35 rfl dX4_skipBlanks_32 (by decide) (fun cd => ?_) (fun cd => ?_)
      · have H := H.1 cd
        exact ev_retV dX4_skipBlanks_48 rfl H
      · have H := H.2 cd
        refine ev_aload_n 36 rfl dX4_skipBlanks_35 rfl rfl ?_
        refine ev_iload_n 37 rfl dX4_skipBlanks_36 rfl rfl ?_
        refine ev_iconst 38 rfl dX4_skipBlanks_37 (by decide) ?_
        obtain ⟨sd, H⟩ := H
        refine ev_iadd 39 rfl dX4_skipBlanks_38 sd ?_
        refine ev_putI (ki := 5) 42 rfl dX4_skipBlanks_39 lf_4_28 (Or.inl rfl) (s_9 hst) (by decide) rfl ?_
        obtain ⟨h4, eh4⟩ : ∃ z : qM, z = qup h 9 5 (v1 + 1) := ⟨_, rfl⟩
        rw [← eh4]
        have H := H h4 eh4
        obtain ⟨sd, H⟩ := H
        refine ev_iinc (L1 := [(2, 9), (0, (v1 + 1))]) 45 rfl dX4_skipBlanks_42 rfl sd (Nat.le_of_ble_eq_true rfl) rfl ?_
        refine ev_goto (tgt := 5) dX4_skipBlanks_45 (by decide) ?_
        exact H

set_option maxRecDepth 20000 in
theorem b_X4_scanWord {X : qX} {d : Nat} {sh : qS} {pt h : qM} {K : qM → Prop} (hst : St sh pt)
    (H : EvV X (d + 1) mX4_scanWord 7 [(2, 9), (0, (h 9 5)), (0, (h 9 5))] [] sh pt h K) :
    RunV X (d + 1) mX4_scanWord [(2, 9)] sh pt h K := by
  show Ev X (d + 1) 0 0 mX4_scanWord 0 [(2, 9), (8, -1), (8, -1)] [] (sh, pt, h) (qRV sh pt K)
  refine ev_aload_n 1 rfl dX4_scanWord_0 rfl rfl ?_
  refine ev_getI (ki := 5) 4 rfl dX4_scanWord_1 lf_4_28 (Or.inl rfl) (s_9 hst) (by decide) rfl ?_
  refine ev_istore_n (L1 := [(2, 9), (0, (h 9 5)), (8, -1)]) 5 rfl dX4_scanWord_4 rfl (Nat.le_of_ble_eq_true rfl) rfl ?_
  refine ev_iload_n 6 rfl dX4_scanWord_5 rfl rfl ?_
  refine ev_istore_n (L1 := [(2, 9), (0, (h 9 5)), (0, (h 9 5))]) 7 rfl dX4_scanWord_6 rfl (Nat.le_of_ble_eq_true rfl) rfl ?_
  exact H

set_option maxRecDepth 20000 in
theorem b_X4_scanWord_7 {X : qX} {d : Nat} {sh : qS} {pt h : qM} {K : qM → Prop} {v1 v2 : Int} (hst : St sh pt)
    (H : (((h 9 4) ≤ v2 → ∀ h1 : qM, h1 = qup h 9 6 2 → (qI ((h1 9 5) - v1)) ∧ ((((h1 9 5) - v1) ≤ 8 → K h1) ∧ (8 < ((h1 9 5) - v1) → ∀ h2 : qM, h2 = qup h1 9 8 (-1) → K h2))) ∧ (v2 < (h 9 4) → (0 ≤ v2 ∧ v2 < 500) ∧ RunI X d mX4_isLetter [(0, (h 10 v2))] sh pt h (fun r5 h4 => ((r5 = 0 → ∀ h6 : qM, h6 = qup h4 9 6 2 → (qI ((h6 9 5) - v1)) ∧ ((((h6 9 5) - v1) ≤ 8 → K h6) ∧ (8 < ((h6 9 5) - v1) → ∀ h7 : qM, h7 = qup h6 9 8 (-1) → K h7))) ∧ (¬ r5 = 0 → (0 ≤ v2 ∧ v2 < 500) ∧ (qI ((h4 10 v2) - 97)) ∧ (qI (((h4 10 v2) - 97) + 1)) ∧ ∀ h9 : qM, h9 = qup h4 9 8 (qlor (qlshl (h4 9 8) 5) (((h4 10 v2) - 97) + 1)) → (qI (v2 + 1)) ∧ ∀ h10 : qM, h10 = qup h9 9 5 (v2 + 1) → (qI (v2 + 1)) ∧ EvV X (d + 1) mX4_scanWord 7 [(2, 9), (0, v1), (0, (v2 + 1))] [] sh pt h10 K)))))) :
    EvV X (d + 1) mX4_scanWord 7 [(2, 9), (0, v1), (0, v2)] [] sh pt h K := by
  show Ev X (d + 1) 0 0 mX4_scanWord 7 [(2, 9), (0, v1), (0, v2)] [] (sh, pt, h) (qRV sh pt K)
  refine ev_iload_n 8 rfl dX4_scanWord_7 rfl rfl ?_
  refine ev_aload_n 9 rfl dX4_scanWord_8 rfl rfl ?_
  refine ev_getI (ki := 4) 12 rfl dX4_scanWord_9 lf_4_25 (Or.inl rfl) (s_9 hst) (by decide) rfl ?_
  refine ev_icmp_ge (tgt := 63) 15 rfl dX4_scanWord_12 (by decide) (fun cd => ?_) (fun cd => ?_)
  · have H := H.1 cd
    refine ev_aload_n 64 rfl dX4_scanWord_63 rfl rfl ?_
    refine ev_iconst 65 rfl dX4_scanWord_64 (by decide) ?_
    refine ev_putI (ki := 6) 68 rfl dX4_scanWord_65 lf_4_31 (Or.inl rfl) (s_9 hst) (by decide) rfl ?_
    obtain ⟨h1, eh1⟩ : ∃ z : qM, z = qup h 9 6 2 := ⟨_, rfl⟩
    rw [← eh1]
    have H := H h1 eh1
    refine ev_aload_n 69 rfl dX4_scanWord_68 rfl rfl ?_
    refine ev_getI (ki := 5) 72 rfl dX4_scanWord_69 lf_4_28 (Or.inl rfl) (s_9 hst) (by decide) rfl ?_
    refine ev_iload_n 73 rfl dX4_scanWord_72 rfl rfl ?_
    obtain ⟨sd, H⟩ := H
    refine ev_isub 74 rfl dX4_scanWord_73 sd ?_
    refine ev_bipush 76 rfl dX4_scanWord_74 (by decide) (by decide) ?_
    refine ev_icmp_le (tgt := 86) 79 rfl dX4_scanWord_76 (by decide) (fun cd => ?_) (fun cd => ?_)
    · have H := H.1 cd
      exact ev_retV dX4_scanWord_86 rfl H
    · have H := H.2 cd
      refine ev_aload_n 80 rfl dX4_scanWord_79 rfl rfl ?_
      refine ev_ldc2 83 rfl dX4_scanWord_80 kl_4_180 (by decide) ?_
      refine ev_putL (ki := 8) 86 rfl dX4_scanWord_83 lf_4_37 (s_9 hst) (by decide) rfl ?_
      obtain ⟨h2, eh2⟩ : ∃ z : qM, z = qup h1 9 8 (-1) := ⟨_, rfl⟩
      rw [← eh2]
      have H := H h2 eh2
      exact ev_retV dX4_scanWord_86 rfl H
  · have H := H.2 cd
    refine ev_aload_n 16 rfl dX4_scanWord_15 rfl rfl ?_
    refine ev_getR (ki := 0) (v := 10) 19 rfl dX4_scanWord_16 lf_4_11 (s_9 hst) (by decide) rfl (p_9_0 hst) ?_
    refine ev_iload_n 20 rfl dX4_scanWord_19 rfl rfl ?_
    obtain ⟨b3, H⟩ := H
    refine ev_iaload 21 rfl dX4_scanWord_20 (s_10 hst) b3.1 b3.2 ?_
    refine ev_cSI (As := [(0, (h 10 v2))]) (rest := []) 24 rfl dX4_scanWord_21 lm_4_165 mm_X4_isLetter rfl rfl (Nat.le_of_ble_eq_true rfl) (Nat.le_of_ble_eq_true rfl) (Nat.le_refl _) H ?_
    intro r5 h4 H
    refine ev_if_eq (tgt := 63) 27 rfl dX4_scanWord_24 (by decide) (fun cd => ?_) (fun cd => ?_)
    · have H := H.1 cd
      refine ev_aload_n 64 rfl dX4_scanWord_63 rfl rfl ?_
      refine ev_iconst 65 rfl dX4_scanWord_64 (by decide) ?_
      refine ev_putI (ki := 6) 68 rfl dX4_scanWord_65 lf_4_31 (Or.inl rfl) (s_9 hst) (by decide) rfl ?_
      obtain ⟨h6, eh6⟩ : ∃ z : qM, z = qup h4 9 6 2 := ⟨_, rfl⟩
      rw [← eh6]
      have H := H h6 eh6
      refine ev_aload_n 69 rfl dX4_scanWord_68 rfl rfl ?_
      refine ev_getI (ki := 5) 72 rfl dX4_scanWord_69 lf_4_28 (Or.inl rfl) (s_9 hst) (by decide) rfl ?_
      refine ev_iload_n 73 rfl dX4_scanWord_72 rfl rfl ?_
      obtain ⟨sd, H⟩ := H
      refine ev_isub 74 rfl dX4_scanWord_73 sd ?_
      refine ev_bipush 76 rfl dX4_scanWord_74 (by decide) (by decide) ?_
      refine ev_icmp_le (tgt := 86) 79 rfl dX4_scanWord_76 (by decide) (fun cd => ?_) (fun cd => ?_)
      · have H := H.1 cd
        exact ev_retV dX4_scanWord_86 rfl H
      · have H := H.2 cd
        refine ev_aload_n 80 rfl dX4_scanWord_79 rfl rfl ?_
        refine ev_ldc2 83 rfl dX4_scanWord_80 kl_4_180 (by decide) ?_
        refine ev_putL (ki := 8) 86 rfl dX4_scanWord_83 lf_4_37 (s_9 hst) (by decide) rfl ?_
        obtain ⟨h7, eh7⟩ : ∃ z : qM, z = qup h6 9 8 (-1) := ⟨_, rfl⟩
        rw [← eh7]
        have H := H h7 eh7
        exact ev_retV dX4_scanWord_86 rfl H
    · have H := H.2 cd
      refine ev_aload_n 28 rfl dX4_scanWord_27 rfl rfl ?_
      refine ev_aload_n 29 rfl dX4_scanWord_28 rfl rfl ?_
      refine ev_getL (ki := 8) 32 rfl dX4_scanWord_29 lf_4_37 (s_9 hst) (by decide) rfl ?_
      refine ev_iconst 33 rfl dX4_scanWord_32 (by decide) ?_
      refine ev_lshl 34 rfl dX4_scanWord_33 ?_
      refine ev_aload_n 35 rfl dX4_scanWord_34 rfl rfl ?_
      refine ev_getR (ki := 0) (v := 10) 38 rfl dX4_scanWord_35 lf_4_11 (s_9 hst) (by decide) rfl (p_9_0 hst) ?_
      refine ev_iload_n 39 rfl dX4_scanWord_38 rfl rfl ?_
      obtain ⟨b8, H⟩ := H
      refine ev_iaload 40 rfl dX4_scanWord_39 (s_10 hst) b8.1 b8.2 ?_
      refine ev_bipush 42 rfl dX4_scanWord_40 (by decide) (by decide) ?_
      obtain ⟨sd, H⟩ := H
      refine ev_isub 43 rfl dX4_scanWord_42 sd ?_
      refine ev_iconst 44 rfl dX4_scanWord_43 (by decide) ?_
      obtain ⟨sd, H⟩ := H
      refine ev_iadd 45 rfl dX4_scanWord_44 sd ?_
      refine ev_i2l 46 rfl dX4_scanWord_45 ?_
      refine ev_lor 47 rfl dX4_scanWord_46 ?_
      refine ev_putL (ki := 8) 50 rfl dX4_scanWord_47 lf_4_37 (s_9 hst) (by decide) rfl ?_
      obtain ⟨h9, eh9⟩ : ∃ z : qM, z = qup h4 9 8 (qlor (qlshl (h4 9 8) 5) (((h4 10 v2) - 97) + 1)) := ⟨_, rfl⟩
      rw [← eh9]
      have H := H h9 eh9
      refine ev_aload_n 51 rfl dX4_scanWord_50 rfl rfl ?_
      refine ev_iload_n 52 rfl dX4_scanWord_51 rfl rfl ?_
      refine ev_iconst 53 rfl dX4_scanWord_52 (by decide) ?_
      obtain ⟨sd, H⟩ := H
      refine ev_iadd 54 rfl dX4_scanWord_53 sd ?_
      refine ev_putI (ki := 5) 57 rfl dX4_scanWord_54 lf_4_28 (Or.inl rfl) (s_9 hst) (by decide) rfl ?_
      obtain ⟨h10, eh10⟩ : ∃ z : qM, z = qup h9 9 5 (v2 + 1) := ⟨_, rfl⟩
      rw [← eh10]
      have H := H h10 eh10
      obtain ⟨sd, H⟩ := H
      refine ev_iinc (L1 := [(2, 9), (0, v1), (0, (v2 + 1))]) 60 rfl dX4_scanWord_57 rfl sd (Nat.le_of_ble_eq_true rfl) rfl ?_
      refine ev_goto (tgt := 7) dX4_scanWord_60 (by decide) ?_
      exact H

set_option maxRecDepth 20000 in
theorem b_X4_scanNumber {X : qX} {d : Nat} {sh : qS} {pt h : qM} {K : qM → Prop} (hst : St sh pt)
    (H : EvV X (d + 1) mX4_scanNumber 7 [(2, 9), (0, (h 9 5)), (0, (h 9 5))] [] sh pt h K) :
    RunV X (d + 1) mX4_scanNumber [(2, 9)] sh pt h K := by
  show Ev X (d + 1) 0 0 mX4_scanNumber 0 [(2, 9), (8, -1), (8, -1)] [] (sh, pt, h) (qRV sh pt K)
  refine ev_aload_n 1 rfl dX4_scanNumber_0 rfl rfl ?_
  refine ev_getI (ki := 5) 4 rfl dX4_scanNumber_1 lf_4_28 (Or.inl rfl) (s_9 hst) (by decide) rfl ?_
  refine ev_istore_n (L1 := [(2, 9), (0, (h 9 5)), (8, -1)]) 5 rfl dX4_scanNumber_4 rfl (Nat.le_of_ble_eq_true rfl) rfl ?_
  refine ev_iload_n 6 rfl dX4_scanNumber_5 rfl rfl ?_
  refine ev_istore_n (L1 := [(2, 9), (0, (h 9 5)), (0, (h 9 5))]) 7 rfl dX4_scanNumber_6 rfl (Nat.le_of_ble_eq_true rfl) rfl ?_
  exact H

set_option maxRecDepth 20000 in
theorem b_X4_scanNumber_7 {X : qX} {d : Nat} {sh : qS} {pt h : qM} {K : qM → Prop} {v1 v2 : Int} (hst : St sh pt)
    (H : (((h 9 4) ≤ v2 → (qI ((h 9 5) - v1)) ∧ ((((h 9 5) - v1) ≤ 3 → ∀ h1 : qM, h1 = qup h 9 6 3 → K h1) ∧ (3 < ((h 9 5) - v1) → ∀ h2 : qM, h2 = qup h 9 6 0 → K h2))) ∧ (v2 < (h 9 4) → (0 ≤ v2 ∧ v2 < 500) ∧ RunI X d mX4_isDigit [(0, (h 10 v2))] sh pt h (fun r5 h4 => ((r5 = 0 → (qI ((h4 9 5) - v1)) ∧ ((((h4 9 5) - v1) ≤ 3 → ∀ h6 : qM, h6 = qup h4 9 6 3 → K h6) ∧ (3 < ((h4 9 5) - v1) → ∀ h7 : qM, h7 = qup h4 9 6 0 → K h7))) ∧ (¬ r5 = 0 → (qL ((h4 9 8) * 10)) ∧ (0 ≤ v2 ∧ v2 < 500) ∧ (qI ((h4 10 v2) - 48)) ∧ (qL (((h4 9 8) * 10) + ((h4 10 v2) - 48))) ∧ (0 ≤ (((h4 9 8) * 10) + ((h4 10 v2) - 48))) ∧ ∀ h9 : qM, h9 = qup h4 9 8 ((((h4 9 8) * 10) + ((h4 10 v2) - 48)) % 1000) → (qI (v2 + 1)) ∧ ∀ h10 : qM, h10 = qup h9 9 5 (v2 + 1) → (qI (v2 + 1)) ∧ EvV X (d + 1) mX4_scanNumber 7 [(2, 9), (0, v1), (0, (v2 + 1))] [] sh pt h10 K)))))) :
    EvV X (d + 1) mX4_scanNumber 7 [(2, 9), (0, v1), (0, v2)] [] sh pt h K := by
  show Ev X (d + 1) 0 0 mX4_scanNumber 7 [(2, 9), (0, v1), (0, v2)] [] (sh, pt, h) (qRV sh pt K)
  refine ev_iload_n 8 rfl dX4_scanNumber_7 rfl rfl ?_
  refine ev_aload_n 9 rfl dX4_scanNumber_8 rfl rfl ?_
  refine ev_getI (ki := 4) 12 rfl dX4_scanNumber_9 lf_4_25 (Or.inl rfl) (s_9 hst) (by decide) rfl ?_
  refine ev_icmp_ge (tgt := 67) 15 rfl dX4_scanNumber_12 (by decide) (fun cd => ?_) (fun cd => ?_)
  · have H := H.1 cd
    refine ev_aload_n 68 rfl dX4_scanNumber_67 rfl rfl ?_
    refine ev_aload_n 69 rfl dX4_scanNumber_68 rfl rfl ?_
    refine ev_getI (ki := 5) 72 rfl dX4_scanNumber_69 lf_4_28 (Or.inl rfl) (s_9 hst) (by decide) rfl ?_
    refine ev_iload_n 73 rfl dX4_scanNumber_72 rfl rfl ?_
    obtain ⟨sd, H⟩ := H
    refine ev_isub 74 rfl dX4_scanNumber_73 sd ?_
    refine ev_iconst 75 rfl dX4_scanNumber_74 (by decide) ?_
    refine ev_icmp_le (tgt := 82) 78 rfl dX4_scanNumber_75 (by decide) (fun cd => ?_) (fun cd => ?_)
    · have H := H.1 cd
      refine ev_iconst 83 rfl dX4_scanNumber_82 (by decide) ?_
      refine ev_putI (ki := 6) 86 rfl dX4_scanNumber_83 lf_4_31 (Or.inl rfl) (s_9 hst) (by decide) rfl ?_
      obtain ⟨h1, eh1⟩ : ∃ z : qM, z = qup h 9 6 3 := ⟨_, rfl⟩
      rw [← eh1]
      have H := H h1 eh1
      exact ev_retV dX4_scanNumber_86 rfl H
    · have H := H.2 cd
      refine ev_iconst 79 rfl dX4_scanNumber_78 (by decide) ?_
      refine ev_goto (tgt := 83) dX4_scanNumber_79 (by decide) ?_
      refine ev_putI (ki := 6) 86 rfl dX4_scanNumber_83 lf_4_31 (Or.inl rfl) (s_9 hst) (by decide) rfl ?_
      obtain ⟨h2, eh2⟩ : ∃ z : qM, z = qup h 9 6 0 := ⟨_, rfl⟩
      rw [← eh2]
      have H := H h2 eh2
      exact ev_retV dX4_scanNumber_86 rfl H
  · have H := H.2 cd
    refine ev_aload_n 16 rfl dX4_scanNumber_15 rfl rfl ?_
    refine ev_getR (ki := 0) (v := 10) 19 rfl dX4_scanNumber_16 lf_4_11 (s_9 hst) (by decide) rfl (p_9_0 hst) ?_
    refine ev_iload_n 20 rfl dX4_scanNumber_19 rfl rfl ?_
    obtain ⟨b3, H⟩ := H
    refine ev_iaload 21 rfl dX4_scanNumber_20 (s_10 hst) b3.1 b3.2 ?_
    refine ev_cSI (As := [(0, (h 10 v2))]) (rest := []) 24 rfl dX4_scanNumber_21 lm_4_171 mm_X4_isDigit rfl rfl (Nat.le_of_ble_eq_true rfl) (Nat.le_of_ble_eq_true rfl) (Nat.le_refl _) H ?_
    intro r5 h4 H
    refine ev_if_eq (tgt := 67) 27 rfl dX4_scanNumber_24 (by decide) (fun cd => ?_) (fun cd => ?_)
    · have H := H.1 cd
      refine ev_aload_n 68 rfl dX4_scanNumber_67 rfl rfl ?_
      refine ev_aload_n 69 rfl dX4_scanNumber_68 rfl rfl ?_
      refine ev_getI (ki := 5) 72 rfl dX4_scanNumber_69 lf_4_28 (Or.inl rfl) (s_9 hst) (by decide) rfl ?_
      refine ev_iload_n 73 rfl dX4_scanNumber_72 rfl rfl ?_
      obtain ⟨sd, H⟩ := H
      refine ev_isub 74 rfl dX4_scanNumber_73 sd ?_
      refine ev_iconst 75 rfl dX4_scanNumber_74 (by decide) ?_
      refine ev_icmp_le (tgt := 82) 78 rfl dX4_scanNumber_75 (by decide) (fun cd => ?_) (fun cd => ?_)
      · have H := H.1 cd
        refine ev_iconst 83 rfl dX4_scanNumber_82 (by decide) ?_
        refine ev_putI (ki := 6) 86 rfl dX4_scanNumber_83 lf_4_31 (Or.inl rfl) (s_9 hst) (by decide) rfl ?_
        obtain ⟨h6, eh6⟩ : ∃ z : qM, z = qup h4 9 6 3 := ⟨_, rfl⟩
        rw [← eh6]
        have H := H h6 eh6
        exact ev_retV dX4_scanNumber_86 rfl H
      · have H := H.2 cd
        refine ev_iconst 79 rfl dX4_scanNumber_78 (by decide) ?_
        refine ev_goto (tgt := 83) dX4_scanNumber_79 (by decide) ?_
        refine ev_putI (ki := 6) 86 rfl dX4_scanNumber_83 lf_4_31 (Or.inl rfl) (s_9 hst) (by decide) rfl ?_
        obtain ⟨h7, eh7⟩ : ∃ z : qM, z = qup h4 9 6 0 := ⟨_, rfl⟩
        rw [← eh7]
        have H := H h7 eh7
        exact ev_retV dX4_scanNumber_86 rfl H
    · have H := H.2 cd
      refine ev_aload_n 28 rfl dX4_scanNumber_27 rfl rfl ?_
      refine ev_aload_n 29 rfl dX4_scanNumber_28 rfl rfl ?_
      refine ev_getL (ki := 8) 32 rfl dX4_scanNumber_29 lf_4_37 (s_9 hst) (by decide) rfl ?_
      refine ev_ldc2 35 rfl dX4_scanNumber_32 kl_4_182 (by decide) ?_
      obtain ⟨sd, H⟩ := H
      refine ev_lmul 36 rfl dX4_scanNumber_35 sd ?_
      refine ev_aload_n 37 rfl dX4_scanNumber_36 rfl rfl ?_
      refine ev_getR (ki := 0) (v := 10) 40 rfl dX4_scanNumber_37 lf_4_11 (s_9 hst) (by decide) rfl (p_9_0 hst) ?_
      refine ev_iload_n 41 rfl dX4_scanNumber_40 rfl rfl ?_
      obtain ⟨b8, H⟩ := H
      refine ev_iaload 42 rfl dX4_scanNumber_41 (s_10 hst) b8.1 b8.2 ?_
      refine ev_bipush 44 rfl dX4_scanNumber_42 (by decide) (by decide) ?_
      obtain ⟨sd, H⟩ := H
      refine ev_isub 45 rfl dX4_scanNumber_44 sd ?_
      refine ev_i2l 46 rfl dX4_scanNumber_45 ?_
      obtain ⟨sd, H⟩ := H
      refine ev_ladd 47 rfl dX4_scanNumber_46 sd ?_
      refine ev_ldc2 50 rfl dX4_scanNumber_47 kl_4_184 (by decide) ?_
      obtain ⟨sd, H⟩ := H
      refine ev_lremP 51 rfl dX4_scanNumber_50 ⟨sd, by decide⟩ ?_
      refine ev_putL (ki := 8) 54 rfl dX4_scanNumber_51 lf_4_37 (s_9 hst) (by decide) rfl ?_
      obtain ⟨h9, eh9⟩ : ∃ z : qM, z = qup h4 9 8 ((((h4 9 8) * 10) + ((h4 10 v2) - 48)) % 1000) := ⟨_, rfl⟩
      rw [← eh9]
      have H := H h9 eh9
      refine ev_aload_n 55 rfl dX4_scanNumber_54 rfl rfl ?_
      refine ev_iload_n 56 rfl dX4_scanNumber_55 rfl rfl ?_
      refine ev_iconst 57 rfl dX4_scanNumber_56 (by decide) ?_
      obtain ⟨sd, H⟩ := H
      refine ev_iadd 58 rfl dX4_scanNumber_57 sd ?_
      refine ev_putI (ki := 5) 61 rfl dX4_scanNumber_58 lf_4_28 (Or.inl rfl) (s_9 hst) (by decide) rfl ?_
      obtain ⟨h10, eh10⟩ : ∃ z : qM, z = qup h9 9 5 (v2 + 1) := ⟨_, rfl⟩
      rw [← eh10]
      have H := H h10 eh10
      obtain ⟨sd, H⟩ := H
      refine ev_iinc (L1 := [(2, 9), (0, v1), (0, (v2 + 1))]) 64 rfl dX4_scanNumber_61 rfl sd (Nat.le_of_ble_eq_true rfl) rfl ?_
      refine ev_goto (tgt := 7) dX4_scanNumber_64 (by decide) ?_
      exact H

set_option maxRecDepth 20000 in
theorem b_X4_scanSign {X : qX} {d : Nat} {sh : qS} {pt h : qM} {K : qM → Prop} (hst : St sh pt)
    (H : (0 ≤ (h 9 5) ∧ (h 9 5) < 500) ∧ (((h 10 (h 9 5)) = 58 → EvV X d mX4_scanSign 45 [(2, 9), (0, (h 10 (h 9 5))), (8, -1)] [(0, 1)] sh pt h K) ∧ (¬ (h 10 (h 9 5)) = 58 → (((h 10 (h 9 5)) = 59 → EvV X d mX4_scanSign 45 [(2, 9), (0, (h 10 (h 9 5))), (8, -1)] [(0, 1)] sh pt h K) ∧ (¬ (h 10 (h 9 5)) = 59 → (((h 10 (h 9 5)) = 123 → EvV X d mX4_scanSign 45 [(2, 9), (0, (h 10 (h 9 5))), (8, -1)] [(0, 1)] sh pt h K) ∧ (¬ (h 10 (h 9 5)) = 123 → (((h 10 (h 9 5)) = 125 → EvV X d mX4_scanSign 45 [(2, 9), (0, (h 10 (h 9 5))), (8, -1)] [(0, 1)] sh pt h K) ∧ (¬ (h 10 (h 9 5)) = 125 → ((¬ (h 10 (h 9 5)) = 45 → EvV X d mX4_scanSign 45 [(2, 9), (0, (h 10 (h 9 5))), (8, -1)] [(0, 0)] sh pt h K) ∧ ((h 10 (h 9 5)) = 45 → EvV X d mX4_scanSign 45 [(2, 9), (0, (h 10 (h 9 5))), (8, -1)] [(0, 1)] sh pt h K))))))))))) :
    RunV X d mX4_scanSign [(2, 9)] sh pt h K := by
  show Ev X d 0 0 mX4_scanSign 0 [(2, 9), (8, -1), (8, -1)] [] (sh, pt, h) (qRV sh pt K)
  refine ev_aload_n 1 rfl dX4_scanSign_0 rfl rfl ?_
  refine ev_getR (ki := 0) (v := 10) 4 rfl dX4_scanSign_1 lf_4_11 (s_9 hst) (by decide) rfl (p_9_0 hst) ?_
  refine ev_aload_n 5 rfl dX4_scanSign_4 rfl rfl ?_
  refine ev_getI (ki := 5) 8 rfl dX4_scanSign_5 lf_4_28 (Or.inl rfl) (s_9 hst) (by decide) rfl ?_
  obtain ⟨b1, H⟩ := H
  refine ev_iaload 9 rfl dX4_scanSign_8 (s_10 hst) b1.1 b1.2 ?_
  refine ev_istore_n (L1 := [(2, 9), (0, (h 10 (h 9 5))), (8, -1)]) 10 rfl dX4_scanSign_9 rfl (Nat.le_of_ble_eq_true rfl) rfl ?_
  refine ev_iload_n 11 rfl dX4_scanSign_10 rfl rfl ?_
  refine ev_bipush 13 rfl dX4_scanSign_11 (by decide) (by decide) ?_
  refine ev_icmp_eq (tgt := 40) 16 rfl dX4_scanSign_13 (by decide) (fun cd => ?_) (fun cd => ?_)
  · have H := H.1 cd
    refine ev_iconst 41 rfl dX4_scanSign_40 (by decide) ?_
    refine ev_goto (tgt := 45) dX4_scanSign_41 (by decide) ?_
    exact H
  · have H := H.2 cd
    refine ev_iload_n 17 rfl dX4_scanSign_16 rfl rfl ?_
    refine ev_bipush 19 rfl dX4_scanSign_17 (by decide) (by decide) ?_
    refine ev_icmp_eq (tgt := 40) 22 rfl dX4_scanSign_19 (by decide) (fun cd => ?_) (fun cd => ?_)
    · have H := H.1 cd
      refine ev_iconst 41 rfl dX4_scanSign_40 (by decide) ?_
      refine ev_goto (tgt := 45) dX4_scanSign_41 (by decide) ?_
      exact H
    · have H := H.2 cd
      refine ev_iload_n 23 rfl dX4_scanSign_22 rfl rfl ?_
      refine ev_bipush 25 rfl dX4_scanSign_23 (by decide) (by decide) ?_
      refine ev_icmp_eq (tgt := 40) 28 rfl dX4_scanSign_25 (by decide) (fun cd => ?_) (fun cd => ?_)
      · have H := H.1 cd
        refine ev_iconst 41 rfl dX4_scanSign_40 (by decide) ?_
        refine ev_goto (tgt := 45) dX4_scanSign_41 (by decide) ?_
        exact H
      · have H := H.2 cd
        refine ev_iload_n 29 rfl dX4_scanSign_28 rfl rfl ?_
        refine ev_bipush 31 rfl dX4_scanSign_29 (by decide) (by decide) ?_
        refine ev_icmp_eq (tgt := 40) 34 rfl dX4_scanSign_31 (by decide) (fun cd => ?_) (fun cd => ?_)
        · have H := H.1 cd
          refine ev_iconst 41 rfl dX4_scanSign_40 (by decide) ?_
          refine ev_goto (tgt := 45) dX4_scanSign_41 (by decide) ?_
          exact H
        · have H := H.2 cd
          refine ev_iload_n 35 rfl dX4_scanSign_34 rfl rfl ?_
          refine ev_bipush 37 rfl dX4_scanSign_35 (by decide) (by decide) ?_
          refine ev_icmp_ne (tgt := 44) 40 rfl dX4_scanSign_37 (by decide) (fun cd => ?_) (fun cd => ?_)
          · have H := H.1 cd
            refine ev_iconst 45 rfl dX4_scanSign_44 (by decide) ?_
            exact H
          · have H := H.2 cd
            refine ev_iconst 41 rfl dX4_scanSign_40 (by decide) ?_
            refine ev_goto (tgt := 45) dX4_scanSign_41 (by decide) ?_
            exact H

set_option maxRecDepth 20000 in
theorem b_X4_scanSign_45 {X : qX} {d : Nat} {sh : qS} {pt h : qM} {K : qM → Prop} {v1 u0 : Int} (hst : St sh pt)
    (H : ((u0 = 0 → ∀ h1 : qM, h1 = qup h 9 6 0 → ∀ h2 : qM, h2 = qup h1 9 8 v1 → (qI ((h2 9 5) + 1)) ∧ ∀ h3 : qM, h3 = qup h2 9 5 ((h2 9 5) + 1) → K h3) ∧ (¬ u0 = 0 → ∀ h4 : qM, h4 = qup h 9 6 4 → ∀ h5 : qM, h5 = qup h4 9 8 v1 → (qI ((h5 9 5) + 1)) ∧ ∀ h6 : qM, h6 = qup h5 9 5 ((h5 9 5) + 1) → K h6))) :
    EvV X d mX4_scanSign 45 [(2, 9), (0, v1), (8, -1)] [(0, u0)] sh pt h K := by
  show Ev X d 0 0 mX4_scanSign 45 [(2, 9), (0, v1), (8, -1)] [(0, u0)] (sh, pt, h) (qRV sh pt K)
  refine ev_istore_n (L1 := [(2, 9), (0, v1), (0, u0)]) 46 rfl dX4_scanSign_45 rfl (Nat.le_of_ble_eq_true rfl) rfl ?_
  refine ev_aload_n 47 rfl dX4_scanSign_46 rfl rfl ?_
  refine ev_iload_n 48 rfl dX4_scanSign_47 rfl rfl ?_
  refine ev_if_eq (tgt := 55) 51 rfl dX4_scanSign_48 (by decide) (fun cd => ?_) (fun cd => ?_)
  · have H := H.1 cd
    refine ev_iconst 56 rfl dX4_scanSign_55 (by decide) ?_
    refine ev_putI (ki := 6) 59 rfl dX4_scanSign_56 lf_4_31 (Or.inl rfl) (s_9 hst) (by decide) rfl ?_
    obtain ⟨h1, eh1⟩ : ∃ z : qM, z = qup h 9 6 0 := ⟨_, rfl⟩
    rw [← eh1]
    have H := H h1 eh1
    refine ev_aload_n 60 rfl dX4_scanSign_59 rfl rfl ?_
    refine ev_iload_n 61 rfl dX4_scanSign_60 rfl rfl ?_
    refine ev_i2l 62 rfl dX4_scanSign_61 ?_
    refine ev_putL (ki := 8) 65 rfl dX4_scanSign_62 lf_4_37 (s_9 hst) (by decide) rfl ?_
    obtain ⟨h2, eh2⟩ : ∃ z : qM, z = qup h1 9 8 v1 := ⟨_, rfl⟩
    rw [← eh2]
    have H := H h2 eh2
    refine ev_aload_n 66 rfl dX4_scanSign_65 rfl rfl ?_
    refine ev_dup 67 rfl dX4_scanSign_66 q21 ?_
    refine ev_getI (ki := 5) 70 rfl dX4_scanSign_67 lf_4_28 (Or.inl rfl) (s_9 hst) (by decide) rfl ?_
    refine ev_iconst 71 rfl dX4_scanSign_70 (by decide) ?_
    obtain ⟨sd, H⟩ := H
    refine ev_iadd 72 rfl dX4_scanSign_71 sd ?_
    refine ev_putI (ki := 5) 75 rfl dX4_scanSign_72 lf_4_28 (Or.inl rfl) (s_9 hst) (by decide) rfl ?_
    obtain ⟨h3, eh3⟩ : ∃ z : qM, z = qup h2 9 5 ((h2 9 5) + 1) := ⟨_, rfl⟩
    rw [← eh3]
    have H := H h3 eh3
    exact ev_retV dX4_scanSign_75 rfl H
  · have H := H.2 cd
    refine ev_iconst 52 rfl dX4_scanSign_51 (by decide) ?_
    refine ev_goto (tgt := 56) dX4_scanSign_52 (by decide) ?_
    refine ev_putI (ki := 6) 59 rfl dX4_scanSign_56 lf_4_31 (Or.inl rfl) (s_9 hst) (by decide) rfl ?_
    obtain ⟨h4, eh4⟩ : ∃ z : qM, z = qup h 9 6 4 := ⟨_, rfl⟩
    rw [← eh4]
    have H := H h4 eh4
    refine ev_aload_n 60 rfl dX4_scanSign_59 rfl rfl ?_
    refine ev_iload_n 61 rfl dX4_scanSign_60 rfl rfl ?_
    refine ev_i2l 62 rfl dX4_scanSign_61 ?_
    refine ev_putL (ki := 8) 65 rfl dX4_scanSign_62 lf_4_37 (s_9 hst) (by decide) rfl ?_
    obtain ⟨h5, eh5⟩ : ∃ z : qM, z = qup h4 9 8 v1 := ⟨_, rfl⟩
    rw [← eh5]
    have H := H h5 eh5
    refine ev_aload_n 66 rfl dX4_scanSign_65 rfl rfl ?_
    refine ev_dup 67 rfl dX4_scanSign_66 q21 ?_
    refine ev_getI (ki := 5) 70 rfl dX4_scanSign_67 lf_4_28 (Or.inl rfl) (s_9 hst) (by decide) rfl ?_
    refine ev_iconst 71 rfl dX4_scanSign_70 (by decide) ?_
    obtain ⟨sd, H⟩ := H
    refine ev_iadd 72 rfl dX4_scanSign_71 sd ?_
    refine ev_putI (ki := 5) 75 rfl dX4_scanSign_72 lf_4_28 (Or.inl rfl) (s_9 hst) (by decide) rfl ?_
    obtain ⟨h6, eh6⟩ : ∃ z : qM, z = qup h5 9 5 ((h5 9 5) + 1) := ⟨_, rfl⟩
    rw [← eh6]
    have H := H h6 eh6
    exact ev_retV dX4_scanSign_75 rfl H

set_option maxRecDepth 20000 in
theorem b_X4_kindOf {X : qX} {d : Nat} {sh : qS} {pt h : qM} {K : Int → qM → Prop} {v0 : Int} (hst : St sh pt)
    (H : EvI X d mX4_kindOf 2 [(1, v0), (8, -1), (0, 0)] [] sh pt h K) :
    RunI X d mX4_kindOf [(1, v0)] sh pt h K := by
  show Ev X d 0 0 mX4_kindOf 0 [(1, v0), (8, -1), (8, -1)] [] (sh, pt, h) (qRI sh pt K)
  refine ev_iconst 1 rfl dX4_kindOf_0 (by decide) ?_
  refine ev_istore_n (L1 := [(1, v0), (8, -1), (0, 0)]) 2 rfl dX4_kindOf_1 rfl (Nat.le_of_ble_eq_true rfl) rfl ?_
  exact H

set_option maxRecDepth 20000 in
theorem b_X4_kindOf_2 {X : qX} {d : Nat} {sh : qS} {pt h : qM} {K : Int → qM → Prop} {v0 v2 : Int} (hst : St sh pt)
    (H : ((11 ≤ v2 → K (-1) h) ∧ (v2 < 11 → (0 ≤ v2 ∧ v2 < 11) ∧ ((¬ (qstW v2) = v0 → (qI (v2 + 1)) ∧ EvI X d mX4_kindOf 2 [(1, v0), (8, -1), (0, (v2 + 1))] [] sh pt h K) ∧ ((qstW v2) = v0 → K v2 h))))) :
    EvI X d mX4_kindOf 2 [(1, v0), (8, -1), (0, v2)] [] sh pt h K := by
  show Ev X d 0 0 mX4_kindOf 2 [(1, v0), (8, -1), (0, v2)] [] (sh, pt, h) (qRI sh pt K)
  refine ev_iload_n 3 rfl dX4_kindOf_2 rfl rfl ?_
  refine ev_getS 6 rfl dX4_kindOf_3 ls_4_186 (List.mem_of_getElem? (i := 2) rfl) (by decide) ?_
  refine ev_alen_ro (n := 11) (f := qstW) 7 rfl dX4_kindOf_6 rfl ?_
  refine ev_icmp_ge (tgt := 28) 10 rfl dX4_kindOf_7 (by decide) (fun cd => ?_) (fun cd => ?_)
  · have H := H.1 cd
    refine ev_iconst 29 rfl dX4_kindOf_28 (by decide) ?_
    exact ev_retI dX4_kindOf_29 rfl H
  · have H := H.2 cd
    refine ev_getS 13 rfl dX4_kindOf_10 ls_4_186 (List.mem_of_getElem? (i := 2) rfl) (by decide) ?_
    refine ev_iload_n 14 rfl dX4_kindOf_13 rfl rfl ?_
    obtain ⟨b1, H⟩ := H
    refine ev_laload_ro (n := 11) (f := qstW) 15 rfl dX4_kindOf_14 rfl b1.1 b1.2 ?_
    refine ev_lload_n 16 rfl dX4_kindOf_15 rfl rfl ?_
    refine ev_lc_ne (tgt := 22) 20 rfl dX4_kindOf_16 dX4_kindOf_17 (by decide) (fun cd => ?_) (fun cd => ?_)
    · have H := H.1 cd
      obtain ⟨sd, H⟩ := H
      refine ev_iinc (L1 := [(1, v0), (8, -1), (0, (v2 + 1))]) 25 rfl dX4_kindOf_22 rfl sd (Nat.le_of_ble_eq_true rfl) rfl ?_
      refine ev_goto (tgt := 2) dX4_kindOf_25 (by decide) ?_
      exact H
    · have H := H.2 cd
      refine ev_iload_n 21 rfl dX4_kindOf_20 rfl rfl ?_
      exact ev_retI dX4_kindOf_21 rfl H

set_option maxRecDepth 20000 in
theorem b_X4_isLetter {X : qX} {d : Nat} {sh : qS} {pt h : qM} {K : Int → qM → Prop} {v0 : Int} (hst : St sh pt)
    (H : ((v0 < 97 → K 0 h) ∧ (97 ≤ v0 → ((122 < v0 → K 0 h) ∧ (v0 ≤ 122 → K 1 h))))) :
    RunI X d mX4_isLetter [(0, v0)] sh pt h K := by
  show Ev X d 0 0 mX4_isLetter 0 [(0, v0)] [] (sh, pt, h) (qRI sh pt K)
  refine ev_iload_n 1 rfl dX4_isLetter_0 rfl rfl ?_
  refine ev_bipush 3 rfl dX4_isLetter_1 (by decide) (by decide) ?_
  refine ev_icmp_lt (tgt := 16) 6 rfl dX4_isLetter_3 (by decide) (fun cd => ?_) (fun cd => ?_)
  · have H := H.1 cd
    refine ev_iconst 17 rfl dX4_isLetter_16 (by decide) ?_
    exact ev_retZ dX4_isLetter_17 rfl (by decide) H
  · have H := H.2 cd
    refine ev_iload_n 7 rfl dX4_isLetter_6 rfl rfl ?_
    refine ev_bipush 9 rfl dX4_isLetter_7 (by decide) (by decide) ?_
    refine ev_icmp_gt (tgt := 16) 12 rfl dX4_isLetter_9 (by decide) (fun cd => ?_) (fun cd => ?_)
    · have H := H.1 cd
      refine ev_iconst 17 rfl dX4_isLetter_16 (by decide) ?_
      exact ev_retZ dX4_isLetter_17 rfl (by decide) H
    · have H := H.2 cd
      refine ev_iconst 13 rfl dX4_isLetter_12 (by decide) ?_
      refine ev_goto (tgt := 17) dX4_isLetter_13 (by decide) ?_
      exact ev_retZ dX4_isLetter_17 rfl (by decide) H

set_option maxRecDepth 20000 in
theorem b_X4_isDigit {X : qX} {d : Nat} {sh : qS} {pt h : qM} {K : Int → qM → Prop} {v0 : Int} (hst : St sh pt)
    (H : ((v0 < 48 → K 0 h) ∧ (48 ≤ v0 → ((57 < v0 → K 0 h) ∧ (v0 ≤ 57 → K 1 h))))) :
    RunI X d mX4_isDigit [(0, v0)] sh pt h K := by
  show Ev X d 0 0 mX4_isDigit 0 [(0, v0)] [] (sh, pt, h) (qRI sh pt K)
  refine ev_iload_n 1 rfl dX4_isDigit_0 rfl rfl ?_
  refine ev_bipush 3 rfl dX4_isDigit_1 (by decide) (by decide) ?_
  refine ev_icmp_lt (tgt := 16) 6 rfl dX4_isDigit_3 (by decide) (fun cd => ?_) (fun cd => ?_)
  · have H := H.1 cd
    refine ev_iconst 17 rfl dX4_isDigit_16 (by decide) ?_
    exact ev_retZ dX4_isDigit_17 rfl (by decide) H
  · have H := H.2 cd
    refine ev_iload_n 7 rfl dX4_isDigit_6 rfl rfl ?_
    refine ev_bipush 9 rfl dX4_isDigit_7 (by decide) (by decide) ?_
    refine ev_icmp_gt (tgt := 16) 12 rfl dX4_isDigit_9 (by decide) (fun cd => ?_) (fun cd => ?_)
    · have H := H.1 cd
      refine ev_iconst 17 rfl dX4_isDigit_16 (by decide) ?_
      exact ev_retZ dX4_isDigit_17 rfl (by decide) H
    · have H := H.2 cd
      refine ev_iconst 13 rfl dX4_isDigit_12 (by decide) ?_
      refine ev_goto (tgt := 17) dX4_isDigit_13 (by decide) ?_
      exact ev_retZ dX4_isDigit_17 rfl (by decide) H

set_option maxRecDepth 20000 in
theorem b_X0_begin {X : qX} {d : Nat} {sh : qS} {pt h : qM} {K : qM → Prop} {c : Int} (hst : St sh pt) (hc : isC c)
    (H : ∀ h1 : qM, h1 = qup h c 3 0 → ∀ h2 : qM, h2 = qup h1 c 5 0 → ∀ h3 : qM, h3 = qup h2 c 6 0 → ∀ h4 : qM, h4 = qup h3 c 4 (h3 2 3) → EvV X (d + 1) mX0_begin 25 [(2, c), (2, 2), (0, 0)] [] sh pt h4 K) :
    RunV X (d + 1) mX0_begin [(2, c), (2, 2)] sh pt h K := by
  show Ev X (d + 1) 0 0 mX0_begin 0 [(2, c), (2, 2), (8, -1)] [] (sh, pt, h) (qRV sh pt K)
  refine ev_aload_n 1 rfl dX0_begin_0 rfl rfl ?_
  refine ev_iconst 2 rfl dX0_begin_1 (by decide) ?_
  refine ev_putI (ki := 3) 5 rfl dX0_begin_2 lf_0_23 (Or.inr ⟨rfl, by decide, by decide⟩) (sC hst hc) (by decide) rfl ?_
  obtain ⟨h1, eh1⟩ : ∃ z : qM, z = qup h c 3 0 := ⟨_, rfl⟩
  rw [← eh1]
  have H := H h1 eh1
  refine ev_aload_n 6 rfl dX0_begin_5 rfl rfl ?_
  refine ev_iconst 7 rfl dX0_begin_6 (by decide) ?_
  refine ev_putI (ki := 5) 10 rfl dX0_begin_7 lf_0_31 (Or.inl rfl) (sC hst hc) (by decide) rfl ?_
  obtain ⟨h2, eh2⟩ : ∃ z : qM, z = qup h1 c 5 0 := ⟨_, rfl⟩
  rw [← eh2]
  have H := H h2 eh2
  refine ev_aload_n 11 rfl dX0_begin_10 rfl rfl ?_
  refine ev_iconst 12 rfl dX0_begin_11 (by decide) ?_
  refine ev_putI (ki := 6) 15 rfl dX0_begin_12 lf_0_34 (Or.inl rfl) (sC hst hc) (by decide) rfl ?_
  obtain ⟨h3, eh3⟩ : ∃ z : qM, z = qup h2 c 6 0 := ⟨_, rfl⟩
  rw [← eh3]
  have H := H h3 eh3
  refine ev_aload_n 16 rfl dX0_begin_15 rfl rfl ?_
  refine ev_aload_n 17 rfl dX0_begin_16 rfl rfl ?_
  refine ev_getI (ki := 3) 20 rfl dX0_begin_17 lf_0_37 (Or.inl rfl) (s_2 hst) (by decide) rfl ?_
  refine ev_putI (ki := 4) 23 rfl dX0_begin_20 lf_0_27 (Or.inl rfl) (sC hst hc) (by decide) rfl ?_
  obtain ⟨h4, eh4⟩ : ∃ z : qM, z = qup h3 c 4 (h3 2 3) := ⟨_, rfl⟩
  rw [← eh4]
  have H := H h4 eh4
  refine ev_iconst 24 rfl dX0_begin_23 (by decide) ?_
  refine ev_istore_n (L1 := [(2, c), (2, 2), (0, 0)]) 25 rfl dX0_begin_24 rfl (Nat.le_of_ble_eq_true rfl) rfl ?_
  exact H

set_option maxRecDepth 20000 in
theorem b_X0_begin_25 {X : qX} {d : Nat} {sh : qS} {pt h : qM} {K : qM → Prop} {c v2 : Int} (hst : St sh pt) (hc : isC c)
    (H : (((h c 4) ≤ v2 → K h) ∧ (v2 < (h c 4) → (0 ≤ v2 ∧ v2 < 20) ∧ (0 ≤ v2 ∧ v2 < 20) ∧ (0 ≤ v2 ∧ v2 < 20) ∧ RunI X d mX0_put [(2, c), (0, 0), (0, v2), (0, (h 3 v2)), (0, (h 4 v2)), (0, (h 5 v2))] sh pt h (fun r5 h4 => (qI (v2 + 1)) ∧ EvV X (d + 1) mX0_begin 25 [(2, c), (2, 2), (0, (v2 + 1))] [] sh pt h4 K)))) :
    EvV X (d + 1) mX0_begin 25 [(2, c), (2, 2), (0, v2)] [] sh pt h K := by
  show Ev X (d + 1) 0 0 mX0_begin 25 [(2, c), (2, 2), (0, v2)] [] (sh, pt, h) (qRV sh pt K)
  refine ev_iload_n 26 rfl dX0_begin_25 rfl rfl ?_
  refine ev_aload_n 27 rfl dX0_begin_26 rfl rfl ?_
  refine ev_getI (ki := 4) 30 rfl dX0_begin_27 lf_0_27 (Or.inl rfl) (sC hst hc) (by decide) rfl ?_
  refine ev_icmp_ge (tgt := 64) 33 rfl dX0_begin_30 (by decide) (fun cd => ?_) (fun cd => ?_)
  · have H := H.1 cd
    exact ev_retV dX0_begin_64 rfl H
  · have H := H.2 cd
    refine ev_aload_n 34 rfl dX0_begin_33 rfl rfl ?_
    refine ev_iconst 35 rfl dX0_begin_34 (by decide) ?_
    refine ev_iload_n 36 rfl dX0_begin_35 rfl rfl ?_
    refine ev_aload_n 37 rfl dX0_begin_36 rfl rfl ?_
    refine ev_getR (ki := 0) (v := 3) 40 rfl dX0_begin_37 lf_0_38 (s_2 hst) (by decide) rfl (p_2_0 hst) ?_
    refine ev_iload_n 41 rfl dX0_begin_40 rfl rfl ?_
    obtain ⟨b1, H⟩ := H
    refine ev_iaload 42 rfl dX0_begin_41 (s_3 hst) b1.1 b1.2 ?_
    refine ev_aload_n 43 rfl dX0_begin_42 rfl rfl ?_
    refine ev_getR (ki := 1) (v := 4) 46 rfl dX0_begin_43 lf_0_41 (s_2 hst) (by decide) rfl (p_2_1 hst) ?_
    refine ev_iload_n 47 rfl dX0_begin_46 rfl rfl ?_
    obtain ⟨b2, H⟩ := H
    refine ev_iaload 48 rfl dX0_begin_47 (s_4 hst) b2.1 b2.2 ?_
    refine ev_aload_n 49 rfl dX0_begin_48 rfl rfl ?_
    refine ev_getR (ki := 2) (v := 5) 52 rfl dX0_begin_49 lf_0_44 (s_2 hst) (by decide) rfl (p_2_2 hst) ?_
    refine ev_iload_n 53 rfl dX0_begin_52 rfl rfl ?_
    obtain ⟨b3, H⟩ := H
    refine ev_iaload 54 rfl dX0_begin_53 (s_5 hst) b3.1 b3.2 ?_
    refine ev_cVI (As := [(0, 0), (0, v2), (0, (h 3 v2)), (0, (h 4 v2)), (0, (h 5 v2))]) (rest := []) 57 rfl dX0_begin_54 lm_0_47 mm_X0_put (sC hst hc) rfl rfl (Nat.le_of_ble_eq_true rfl) (Nat.le_of_ble_eq_true rfl) (Nat.le_refl _) H ?_
    intro r5 h4 H
    refine ev_pop 58 rfl dX0_begin_57 q01 ?_
    obtain ⟨sd, H⟩ := H
    refine ev_iinc (L1 := [(2, c), (2, 2), (0, (v2 + 1))]) 61 rfl dX0_begin_58 rfl sd (Nat.le_of_ble_eq_true rfl) rfl ?_
    refine ev_goto (tgt := 25) dX0_begin_61 (by decide) ?_
    exact H

set_option maxRecDepth 20000 in
theorem b_X0_put {X : qX} {d : Nat} {sh : qS} {pt h : qM} {K : Int → qM → Prop} {c v1 v2 v3 v4 v5 : Int} (hst : St sh pt) (hc : isC c)
    (H : RunI X d mX2_isSpot [(0, v3), (0, v4)] sh pt h (fun r2 h1 => ((r2 = 0 → K 0 h1) ∧ (¬ r2 = 0 → ((v1 < 0 → K 0 h1) ∧ (0 ≤ v1 → ((v1 ≤ 150 → (qI (v1 * 20)) ∧ (qI ((v1 * 20) + v2)) ∧ RunI X d mX2_spot [(0, v3), (0, v4)] sh pt h1 (fun r4 h3 => (0 ≤ ((v1 * 20) + v2) ∧ ((v1 * 20) + v2) < 3020) ∧ ∀ h6 : qM, h6 = qup h3 (c + 1) ((v1 * 20) + v2) (qior (qishl r4 3) (qiand v5 7)) → K 1 h6)) ∧ (150 < v1 → K 0 h1)))))))) :
    RunI X (d + 1) mX0_put [(2, c), (0, v1), (0, v2), (0, v3), (0, v4), (0, v5)] sh pt h K := by
  show Ev X (d + 1) 0 0 mX0_put 0 [(2, c), (0, v1), (0, v2), (0, v3), (0, v4), (0, v5)] [] (sh, pt, h) (qRI sh pt K)
  refine ev_iload_n 1 rfl dX0_put_0 rfl rfl ?_
  refine ev_iload 3 rfl dX0_put_1 rfl ?_
  refine ev_cSI (As := [(0, v3), (0, v4)]) (rest := []) 6 rfl dX0_put_3 lm_0_51 mm_X2_isSpot rfl rfl (Nat.le_of_ble_eq_true rfl) (Nat.le_of_ble_eq_true rfl) (Nat.le_refl _) H ?_
  intro r2 h1 H
  refine ev_if_eq (tgt := 20) 9 rfl dX0_put_6 (by decide) (fun cd => ?_) (fun cd => ?_)
  · have H := H.1 cd
    refine ev_iconst 21 rfl dX0_put_20 (by decide) ?_
    exact ev_retZ dX0_put_21 rfl (by decide) H
  · have H := H.2 cd
    refine ev_iload_n 10 rfl dX0_put_9 rfl rfl ?_
    refine ev_if_lt (tgt := 20) 13 rfl dX0_put_10 (by decide) (fun cd => ?_) (fun cd => ?_)
    · have H := H.1 cd
      refine ev_iconst 21 rfl dX0_put_20 (by decide) ?_
      exact ev_retZ dX0_put_21 rfl (by decide) H
    · have H := H.2 cd
      refine ev_iload_n 14 rfl dX0_put_13 rfl rfl ?_
      refine ev_sipush 17 rfl dX0_put_14 (by decide) (by decide) ?_
      refine ev_icmp_le (tgt := 22) 20 rfl dX0_put_17 (by decide) (fun cd => ?_) (fun cd => ?_)
      · have H := H.1 cd
        refine ev_aload_n 23 rfl dX0_put_22 rfl rfl ?_
        refine ev_getR (ki := 0) (v := (c + 1)) 26 rfl dX0_put_23 lf_0_13 (sC hst hc) (by decide) rfl (pC0 hst hc) ?_
        refine ev_iload_n 27 rfl dX0_put_26 rfl rfl ?_
        refine ev_bipush 29 rfl dX0_put_27 (by decide) (by decide) ?_
        obtain ⟨sd, H⟩ := H
        refine ev_imul 30 rfl dX0_put_29 sd ?_
        refine ev_iload_n 31 rfl dX0_put_30 rfl rfl ?_
        obtain ⟨sd, H⟩ := H
        refine ev_iadd 32 rfl dX0_put_31 sd ?_
        refine ev_iload_n 33 rfl dX0_put_32 rfl rfl ?_
        refine ev_iload 35 rfl dX0_put_33 rfl ?_
        refine ev_cSI (As := [(0, v3), (0, v4)]) (rest := [(0, ((v1 * 20) + v2)), (2, (c + 1))]) 38 rfl dX0_put_35 lm_0_55 mm_X2_spot rfl rfl (Nat.le_of_ble_eq_true rfl) (Nat.le_of_ble_eq_true rfl) (Nat.le_refl _) H ?_
        intro r4 h3 H
        refine ev_iconst 39 rfl dX0_put_38 (by decide) ?_
        refine ev_ishl 40 rfl dX0_put_39 ?_
        refine ev_iload 42 rfl dX0_put_40 rfl ?_
        refine ev_bipush 44 rfl dX0_put_42 (by decide) (by decide) ?_
        refine ev_iand 45 rfl dX0_put_44 ?_
        refine ev_ior 46 rfl dX0_put_45 ?_
        obtain ⟨b5, H⟩ := H
        refine ev_iastore 47 rfl dX0_put_46 (sC0 hst hc) b5.1 b5.2 ?_
        obtain ⟨h6, eh6⟩ : ∃ z : qM, z = qup h3 (c + 1) ((v1 * 20) + v2) (qior (qishl r4 3) (qiand v5 7)) := ⟨_, rfl⟩
        rw [← eh6]
        have H := H h6 eh6
        refine ev_iconst 48 rfl dX0_put_47 (by decide) ?_
        exact ev_retZ dX0_put_48 rfl (by decide) H
      · have H := H.2 cd
        refine ev_iconst 21 rfl dX0_put_20 (by decide) ?_
        exact ev_retZ dX0_put_21 rfl (by decide) H

set_option maxRecDepth 20000 in
theorem b_X0_turnFace {X : qX} {d : Nat} {sh : qS} {pt h : qM} {K : qM → Prop} {c v1 v2 v3 : Int} (hst : St sh pt) (hc : isC c)
    (H : (qI (v1 * 20)) ∧ (qI ((v1 * 20) + v2)) ∧ (0 ≤ ((v1 * 20) + v2) ∧ ((v1 * 20) + v2) < 3020) ∧ ∀ x2 : Int, x2 = (h (c + 1) ((v1 * 20) + v2)) → (qI (v1 * 20)) ∧ (qI ((v1 * 20) + v2)) ∧ (qI (x2 + v3)) ∧ (0 ≤ ((v1 * 20) + v2) ∧ ((v1 * 20) + v2) < 3020) ∧ ∀ h4 : qM, h4 = qup h (c + 1) ((v1 * 20) + v2) (qior (qiand x2 (-8)) (qiand (x2 + v3) 7)) → K h4) :
    RunV X d mX0_turnFace [(2, c), (0, v1), (0, v2), (0, v3)] sh pt h K := by
  show Ev X d 0 0 mX0_turnFace 0 [(2, c), (0, v1), (0, v2), (0, v3), (8, -1)] [] (sh, pt, h) (qRV sh pt K)
  refine ev_aload_n 1 rfl dX0_turnFace_0 rfl rfl ?_
  refine ev_getR (ki := 0) (v := (c + 1)) 4 rfl dX0_turnFace_1 lf_0_13 (sC hst hc) (by decide) rfl (pC0 hst hc) ?_
  refine ev_iload_n 5 rfl dX0_turnFace_4 rfl rfl ?_
  refine ev_bipush 7 rfl dX0_turnFace_5 (by decide) (by decide) ?_
  obtain ⟨sd, H⟩ := H
  refine ev_imul 8 rfl dX0_turnFace_7 sd ?_
  refine ev_iload_n 9 rfl dX0_turnFace_8 rfl rfl ?_
  obtain ⟨sd, H⟩ := H
  refine ev_iadd 10 rfl dX0_turnFace_9 sd ?_
  obtain ⟨b1, H⟩ := H
  refine ev_iaload 11 rfl dX0_turnFace_10 (sC0 hst hc) b1.1 b1.2 ?_
  obtain ⟨x2, ex2⟩ : ∃ z : Int, z = (h (c + 1) ((v1 * 20) + v2)) := ⟨_, rfl⟩
  rw [← ex2]
  have H := H x2 ex2
  refine ev_istore (L1 := [(2, c), (0, v1), (0, v2), (0, v3), (0, x2)]) 13 rfl dX0_turnFace_11 (Nat.le_of_ble_eq_true rfl) rfl ?_
  refine ev_aload_n 14 rfl dX0_turnFace_13 rfl rfl ?_
  refine ev_getR (ki := 0) (v := (c + 1)) 17 rfl dX0_turnFace_14 lf_0_13 (sC hst hc) (by decide) rfl (pC0 hst hc) ?_
  refine ev_iload_n 18 rfl dX0_turnFace_17 rfl rfl ?_
  refine ev_bipush 20 rfl dX0_turnFace_18 (by decide) (by decide) ?_
  obtain ⟨sd, H⟩ := H
  refine ev_imul 21 rfl dX0_turnFace_20 sd ?_
  refine ev_iload_n 22 rfl dX0_turnFace_21 rfl rfl ?_
  obtain ⟨sd, H⟩ := H
  refine ev_iadd 23 rfl dX0_turnFace_22 sd ?_
  refine ev_iload 25 rfl dX0_turnFace_23 rfl ?_
  refine ev_bipush 27 rfl dX0_turnFace_25 (by decide) (by decide) ?_
  refine ev_iand 28 rfl dX0_turnFace_27 ?_
  refine ev_iload 30 rfl dX0_turnFace_28 rfl ?_
  refine ev_iload_n 31 rfl dX0_turnFace_30 rfl rfl ?_
  obtain ⟨sd, H⟩ := H
  refine ev_iadd 32 rfl dX0_turnFace_31 sd ?_
  refine ev_bipush 34 rfl dX0_turnFace_32 (by decide) (by decide) ?_
  refine ev_iand 35 rfl dX0_turnFace_34 ?_
  refine ev_ior 36 rfl dX0_turnFace_35 ?_
  obtain ⟨b3, H⟩ := H
  refine ev_iastore 37 rfl dX0_turnFace_36 (sC0 hst hc) b3.1 b3.2 ?_
  obtain ⟨h4, eh4⟩ : ∃ z : qM, z = qup h (c + 1) ((v1 * 20) + v2) (qior (qiand x2 (-8)) (qiand (x2 + v3) 7)) := ⟨_, rfl⟩
  rw [← eh4]
  have H := H h4 eh4
  exact ev_retV dX0_turnFace_37 rfl H

set_option maxRecDepth 20000 in
theorem b_X0_copy {X : qX} {d : Nat} {sh : qS} {pt h : qM} {K : qM → Prop} {c v1 v2 v3 v4 : Int} (hst : St sh pt) (hc : isC c)
    (H : (qI (v3 * 20)) ∧ (qI ((v3 * 20) + v4)) ∧ (qI (v1 * 20)) ∧ (qI ((v1 * 20) + v2)) ∧ (0 ≤ ((v1 * 20) + v2) ∧ ((v1 * 20) + v2) < 3020) ∧ (0 ≤ ((v3 * 20) + v4) ∧ ((v3 * 20) + v4) < 3020) ∧ ∀ h3 : qM, h3 = qup h (c + 1) ((v3 * 20) + v4) (h (c + 1) ((v1 * 20) + v2)) → K h3) :
    RunV X d mX0_copy [(2, c), (0, v1), (0, v2), (0, v3), (0, v4)] sh pt h K := by
  show Ev X d 0 0 mX0_copy 0 [(2, c), (0, v1), (0, v2), (0, v3), (0, v4)] [] (sh, pt, h) (qRV sh pt K)
  refine ev_aload_n 1 rfl dX0_copy_0 rfl rfl ?_
  refine ev_getR (ki := 0) (v := (c + 1)) 4 rfl dX0_copy_1 lf_0_13 (sC hst hc) (by decide) rfl (pC0 hst hc) ?_
  refine ev_iload_n 5 rfl dX0_copy_4 rfl rfl ?_
  refine ev_bipush 7 rfl dX0_copy_5 (by decide) (by decide) ?_
  obtain ⟨sd, H⟩ := H
  refine ev_imul 8 rfl dX0_copy_7 sd ?_
  refine ev_iload 10 rfl dX0_copy_8 rfl ?_
  obtain ⟨sd, H⟩ := H
  refine ev_iadd 11 rfl dX0_copy_10 sd ?_
  refine ev_aload_n 12 rfl dX0_copy_11 rfl rfl ?_
  refine ev_getR (ki := 0) (v := (c + 1)) 15 rfl dX0_copy_12 lf_0_13 (sC hst hc) (by decide) rfl (pC0 hst hc) ?_
  refine ev_iload_n 16 rfl dX0_copy_15 rfl rfl ?_
  refine ev_bipush 18 rfl dX0_copy_16 (by decide) (by decide) ?_
  obtain ⟨sd, H⟩ := H
  refine ev_imul 19 rfl dX0_copy_18 sd ?_
  refine ev_iload_n 20 rfl dX0_copy_19 rfl rfl ?_
  obtain ⟨sd, H⟩ := H
  refine ev_iadd 21 rfl dX0_copy_20 sd ?_
  obtain ⟨b1, H⟩ := H
  refine ev_iaload 22 rfl dX0_copy_21 (sC0 hst hc) b1.1 b1.2 ?_
  obtain ⟨b2, H⟩ := H
  refine ev_iastore 23 rfl dX0_copy_22 (sC0 hst hc) b2.1 b2.2 ?_
  obtain ⟨h3, eh3⟩ : ∃ z : qM, z = qup h (c + 1) ((v3 * 20) + v4) (h (c + 1) ((v1 * 20) + v2)) := ⟨_, rfl⟩
  rw [← eh3]
  have H := H h3 eh3
  exact ev_retV dX0_copy_23 rfl H

set_option maxRecDepth 20000 in
theorem b_X0_hasCount {X : qX} {d : Nat} {sh : qS} {pt h : qM} {K : Int → qM → Prop} {c v1 : Int} (hst : St sh pt) (hc : isC c)
    (H : ((v1 < 0 → K 0 h) ∧ (0 ≤ v1 → (((h c 5) < v1 → K 0 h) ∧ (v1 ≤ (h c 5) → K 1 h))))) :
    RunI X d mX0_hasCount [(2, c), (0, v1)] sh pt h K := by
  show Ev X d 0 0 mX0_hasCount 0 [(2, c), (0, v1)] [] (sh, pt, h) (qRI sh pt K)
  refine ev_iload_n 1 rfl dX0_hasCount_0 rfl rfl ?_
  refine ev_if_lt (tgt := 16) 4 rfl dX0_hasCount_1 (by decide) (fun cd => ?_) (fun cd => ?_)
  · have H := H.1 cd
    refine ev_iconst 17 rfl dX0_hasCount_16 (by decide) ?_
    exact ev_retZ dX0_hasCount_17 rfl (by decide) H
  · have H := H.2 cd
    refine ev_iload_n 5 rfl dX0_hasCount_4 rfl rfl ?_
    refine ev_aload_n 6 rfl dX0_hasCount_5 rfl rfl ?_
    refine ev_getI (ki := 5) 9 rfl dX0_hasCount_6 lf_0_31 (Or.inl rfl) (sC hst hc) (by decide) rfl ?_
    refine ev_icmp_gt (tgt := 16) 12 rfl dX0_hasCount_9 (by decide) (fun cd => ?_) (fun cd => ?_)
    · have H := H.1 cd
      refine ev_iconst 17 rfl dX0_hasCount_16 (by decide) ?_
      exact ev_retZ dX0_hasCount_17 rfl (by decide) H
    · have H := H.2 cd
      refine ev_iconst 13 rfl dX0_hasCount_12 (by decide) ?_
      refine ev_goto (tgt := 17) dX0_hasCount_13 (by decide) ?_
      exact ev_retZ dX0_hasCount_17 rfl (by decide) H

set_option maxRecDepth 20000 in
theorem b_X0_hasMarcher {X : qX} {d : Nat} {sh : qS} {pt h : qM} {K : Int → qM → Prop} {c v1 : Int} (hst : St sh pt) (hc : isC c)
    (H : ((v1 < 0 → K 0 h) ∧ (0 ≤ v1 → (((h c 4) ≤ v1 → K 0 h) ∧ (v1 < (h c 4) → K 1 h))))) :
    RunI X d mX0_hasMarcher [(2, c), (0, v1)] sh pt h K := by
  show Ev X d 0 0 mX0_hasMarcher 0 [(2, c), (0, v1)] [] (sh, pt, h) (qRI sh pt K)
  refine ev_iload_n 1 rfl dX0_hasMarcher_0 rfl rfl ?_
  refine ev_if_lt (tgt := 16) 4 rfl dX0_hasMarcher_1 (by decide) (fun cd => ?_) (fun cd => ?_)
  · have H := H.1 cd
    refine ev_iconst 17 rfl dX0_hasMarcher_16 (by decide) ?_
    exact ev_retZ dX0_hasMarcher_17 rfl (by decide) H
  · have H := H.2 cd
    refine ev_iload_n 5 rfl dX0_hasMarcher_4 rfl rfl ?_
    refine ev_aload_n 6 rfl dX0_hasMarcher_5 rfl rfl ?_
    refine ev_getI (ki := 4) 9 rfl dX0_hasMarcher_6 lf_0_27 (Or.inl rfl) (sC hst hc) (by decide) rfl ?_
    refine ev_icmp_ge (tgt := 16) 12 rfl dX0_hasMarcher_9 (by decide) (fun cd => ?_) (fun cd => ?_)
    · have H := H.1 cd
      refine ev_iconst 17 rfl dX0_hasMarcher_16 (by decide) ?_
      exact ev_retZ dX0_hasMarcher_17 rfl (by decide) H
    · have H := H.2 cd
      refine ev_iconst 13 rfl dX0_hasMarcher_12 (by decide) ?_
      refine ev_goto (tgt := 17) dX0_hasMarcher_13 (by decide) ?_
      exact ev_retZ dX0_hasMarcher_17 rfl (by decide) H

set_option maxRecDepth 20000 in
theorem b_X0_hasAll {X : qX} {d : Nat} {sh : qS} {pt h : qM} {K : Int → qM → Prop} {c v1 : Int} (hst : St sh pt) (hc : isC c)
    (H : ((¬ (qiushr v1 (h c 4)) = 0 → K 0 h) ∧ ((qiushr v1 (h c 4)) = 0 → K 1 h))) :
    RunI X d mX0_hasAll [(2, c), (0, v1)] sh pt h K := by
  show Ev X d 0 0 mX0_hasAll 0 [(2, c), (0, v1)] [] (sh, pt, h) (qRI sh pt K)
  refine ev_iload_n 1 rfl dX0_hasAll_0 rfl rfl ?_
  refine ev_aload_n 2 rfl dX0_hasAll_1 rfl rfl ?_
  refine ev_getI (ki := 4) 5 rfl dX0_hasAll_2 lf_0_27 (Or.inl rfl) (sC hst hc) (by decide) rfl ?_
  refine ev_iushr 6 rfl dX0_hasAll_5 ?_
  refine ev_if_ne (tgt := 13) 9 rfl dX0_hasAll_6 (by decide) (fun cd => ?_) (fun cd => ?_)
  · have H := H.1 cd
    refine ev_iconst 14 rfl dX0_hasAll_13 (by decide) ?_
    exact ev_retZ dX0_hasAll_14 rfl (by decide) H
  · have H := H.2 cd
    refine ev_iconst 10 rfl dX0_hasAll_9 (by decide) ?_
    refine ev_goto (tgt := 14) dX0_hasAll_10 (by decide) ?_
    exact ev_retZ dX0_hasAll_14 rfl (by decide) H

set_option maxRecDepth 20000 in
theorem b_X0_spotAt {X : qX} {d : Nat} {sh : qS} {pt h : qM} {K : Int → qM → Prop} {c v1 v2 : Int} (hst : St sh pt) (hc : isC c)
    (H : (qI (v1 * 20)) ∧ (qI ((v1 * 20) + v2)) ∧ (0 ≤ ((v1 * 20) + v2) ∧ ((v1 * 20) + v2) < 3020) ∧ K (qishr (h (c + 1) ((v1 * 20) + v2)) 3) h) :
    RunI X d mX0_spotAt [(2, c), (0, v1), (0, v2)] sh pt h K := by
  show Ev X d 0 0 mX0_spotAt 0 [(2, c), (0, v1), (0, v2)] [] (sh, pt, h) (qRI sh pt K)
  refine ev_aload_n 1 rfl dX0_spotAt_0 rfl rfl ?_
  refine ev_getR (ki := 0) (v := (c + 1)) 4 rfl dX0_spotAt_1 lf_0_13 (sC hst hc) (by decide) rfl (pC0 hst hc) ?_
  refine ev_iload_n 5 rfl dX0_spotAt_4 rfl rfl ?_
  refine ev_bipush 7 rfl dX0_spotAt_5 (by decide) (by decide) ?_
  obtain ⟨sd, H⟩ := H
  refine ev_imul 8 rfl dX0_spotAt_7 sd ?_
  refine ev_iload_n 9 rfl dX0_spotAt_8 rfl rfl ?_
  obtain ⟨sd, H⟩ := H
  refine ev_iadd 10 rfl dX0_spotAt_9 sd ?_
  obtain ⟨b1, H⟩ := H
  refine ev_iaload 11 rfl dX0_spotAt_10 (sC0 hst hc) b1.1 b1.2 ?_
  refine ev_iconst 12 rfl dX0_spotAt_11 (by decide) ?_
  refine ev_ishr 13 rfl dX0_spotAt_12 ?_
  exact ev_retI dX0_spotAt_13 rfl H

set_option maxRecDepth 20000 in
theorem b_X0_eastOf {X : qX} {d : Nat} {sh : qS} {pt h : qM} {K : Int → qM → Prop} {c v1 v2 : Int} (hst : St sh pt) (hc : isC c)
    (H : (qI (v1 * 20)) ∧ (qI ((v1 * 20) + v2)) ∧ (0 ≤ ((v1 * 20) + v2) ∧ ((v1 * 20) + v2) < 3020) ∧ (0 ≤ (qishr (h (c + 1) ((v1 * 20) + v2)) 3)) ∧ K ((qishr (h (c + 1) ((v1 * 20) + v2)) 3) / 40) h) :
    RunI X d mX0_eastOf [(2, c), (0, v1), (0, v2)] sh pt h K := by
  show Ev X d 0 0 mX0_eastOf 0 [(2, c), (0, v1), (0, v2)] [] (sh, pt, h) (qRI sh pt K)
  refine ev_aload_n 1 rfl dX0_eastOf_0 rfl rfl ?_
  refine ev_getR (ki := 0) (v := (c + 1)) 4 rfl dX0_eastOf_1 lf_0_13 (sC hst hc) (by decide) rfl (pC0 hst hc) ?_
  refine ev_iload_n 5 rfl dX0_eastOf_4 rfl rfl ?_
  refine ev_bipush 7 rfl dX0_eastOf_5 (by decide) (by decide) ?_
  obtain ⟨sd, H⟩ := H
  refine ev_imul 8 rfl dX0_eastOf_7 sd ?_
  refine ev_iload_n 9 rfl dX0_eastOf_8 rfl rfl ?_
  obtain ⟨sd, H⟩ := H
  refine ev_iadd 10 rfl dX0_eastOf_9 sd ?_
  obtain ⟨b1, H⟩ := H
  refine ev_iaload 11 rfl dX0_eastOf_10 (sC0 hst hc) b1.1 b1.2 ?_
  refine ev_iconst 12 rfl dX0_eastOf_11 (by decide) ?_
  refine ev_ishr 13 rfl dX0_eastOf_12 ?_
  refine ev_bipush 15 rfl dX0_eastOf_13 (by decide) (by decide) ?_
  obtain ⟨sd, H⟩ := H
  refine ev_idivP 16 rfl dX0_eastOf_15 ⟨sd, by decide⟩ ?_
  exact ev_retI dX0_eastOf_16 rfl H

set_option maxRecDepth 20000 in
theorem b_X0_northOf {X : qX} {d : Nat} {sh : qS} {pt h : qM} {K : Int → qM → Prop} {c v1 v2 : Int} (hst : St sh pt) (hc : isC c)
    (H : (qI (v1 * 20)) ∧ (qI ((v1 * 20) + v2)) ∧ (0 ≤ ((v1 * 20) + v2) ∧ ((v1 * 20) + v2) < 3020) ∧ (0 ≤ (qishr (h (c + 1) ((v1 * 20) + v2)) 3)) ∧ K ((qishr (h (c + 1) ((v1 * 20) + v2)) 3) % 40) h) :
    RunI X d mX0_northOf [(2, c), (0, v1), (0, v2)] sh pt h K := by
  show Ev X d 0 0 mX0_northOf 0 [(2, c), (0, v1), (0, v2)] [] (sh, pt, h) (qRI sh pt K)
  refine ev_aload_n 1 rfl dX0_northOf_0 rfl rfl ?_
  refine ev_getR (ki := 0) (v := (c + 1)) 4 rfl dX0_northOf_1 lf_0_13 (sC hst hc) (by decide) rfl (pC0 hst hc) ?_
  refine ev_iload_n 5 rfl dX0_northOf_4 rfl rfl ?_
  refine ev_bipush 7 rfl dX0_northOf_5 (by decide) (by decide) ?_
  obtain ⟨sd, H⟩ := H
  refine ev_imul 8 rfl dX0_northOf_7 sd ?_
  refine ev_iload_n 9 rfl dX0_northOf_8 rfl rfl ?_
  obtain ⟨sd, H⟩ := H
  refine ev_iadd 10 rfl dX0_northOf_9 sd ?_
  obtain ⟨b1, H⟩ := H
  refine ev_iaload 11 rfl dX0_northOf_10 (sC0 hst hc) b1.1 b1.2 ?_
  refine ev_iconst 12 rfl dX0_northOf_11 (by decide) ?_
  refine ev_ishr 13 rfl dX0_northOf_12 ?_
  refine ev_bipush 15 rfl dX0_northOf_13 (by decide) (by decide) ?_
  obtain ⟨sd, H⟩ := H
  refine ev_iremP 16 rfl dX0_northOf_15 ⟨sd, by decide⟩ ?_
  exact ev_retI dX0_northOf_16 rfl H

set_option maxRecDepth 20000 in
theorem b_X0_faceOf {X : qX} {d : Nat} {sh : qS} {pt h : qM} {K : Int → qM → Prop} {c v1 v2 : Int} (hst : St sh pt) (hc : isC c)
    (H : (qI (v1 * 20)) ∧ (qI ((v1 * 20) + v2)) ∧ (0 ≤ ((v1 * 20) + v2) ∧ ((v1 * 20) + v2) < 3020) ∧ K (qiand (h (c + 1) ((v1 * 20) + v2)) 7) h) :
    RunI X d mX0_faceOf [(2, c), (0, v1), (0, v2)] sh pt h K := by
  show Ev X d 0 0 mX0_faceOf 0 [(2, c), (0, v1), (0, v2)] [] (sh, pt, h) (qRI sh pt K)
  refine ev_aload_n 1 rfl dX0_faceOf_0 rfl rfl ?_
  refine ev_getR (ki := 0) (v := (c + 1)) 4 rfl dX0_faceOf_1 lf_0_13 (sC hst hc) (by decide) rfl (pC0 hst hc) ?_
  refine ev_iload_n 5 rfl dX0_faceOf_4 rfl rfl ?_
  refine ev_bipush 7 rfl dX0_faceOf_5 (by decide) (by decide) ?_
  obtain ⟨sd, H⟩ := H
  refine ev_imul 8 rfl dX0_faceOf_7 sd ?_
  refine ev_iload_n 9 rfl dX0_faceOf_8 rfl rfl ?_
  obtain ⟨sd, H⟩ := H
  refine ev_iadd 10 rfl dX0_faceOf_9 sd ?_
  obtain ⟨b1, H⟩ := H
  refine ev_iaload 11 rfl dX0_faceOf_10 (sC0 hst hc) b1.1 b1.2 ?_
  refine ev_bipush 13 rfl dX0_faceOf_11 (by decide) (by decide) ?_
  refine ev_iand 14 rfl dX0_faceOf_13 ?_
  exact ev_retI dX0_faceOf_14 rfl H

set_option maxRecDepth 20000 in
theorem b_X0_clashes {X : qX} {d : Nat} {sh : qS} {pt h : qM} {K : Int → qM → Prop} {c : Int} (hst : St sh pt) (hc : isC c)
    (H : EvI X (d + 1) mX0_clashes 4 [(2, c), (0, 0), (0, 0), (8, -1), (8, -1)] [] sh pt h K) :
    RunI X (d + 1) mX0_clashes [(2, c)] sh pt h K := by
  show Ev X (d + 1) 0 0 mX0_clashes 0 [(2, c), (8, -1), (8, -1), (8, -1), (8, -1)] [] (sh, pt, h) (qRI sh pt K)
  refine ev_iconst 1 rfl dX0_clashes_0 (by decide) ?_
  refine ev_istore_n (L1 := [(2, c), (0, 0), (8, -1), (8, -1), (8, -1)]) 2 rfl dX0_clashes_1 rfl (Nat.le_of_ble_eq_true rfl) rfl ?_
  refine ev_iconst 3 rfl dX0_clashes_2 (by decide) ?_
  refine ev_istore_n (L1 := [(2, c), (0, 0), (0, 0), (8, -1), (8, -1)]) 4 rfl dX0_clashes_3 rfl (Nat.le_of_ble_eq_true rfl) rfl ?_
  exact H

set_option maxRecDepth 20000 in
theorem b_X0_clashes_4 {X : qX} {d : Nat} {sh : qS} {pt h : qM} {K : Int → qM → Prop} {c v1 v2 : Int} (hst : St sh pt) (hc : isC c)
    (H : (((h c 5) < v2 → K v1 h) ∧ (v2 ≤ (h c 5) → EvI X (d + 1) mX0_clashes 14 [(2, c), (0, v1), (0, v2), (0, 0), (8, -1)] [] sh pt h K))) :
    EvI X (d + 1) mX0_clashes 4 [(2, c), (0, v1), (0, v2), (8, -1), (8, -1)] [] sh pt h K := by
  show Ev X (d + 1) 0 0 mX0_clashes 4 [(2, c), (0, v1), (0, v2), (8, -1), (8, -1)] [] (sh, pt, h) (qRI sh pt K)
  refine ev_iload_n 5 rfl dX0_clashes_4 rfl rfl ?_
  refine ev_aload_n 6 rfl dX0_clashes_5 rfl rfl ?_
  refine ev_getI (ki := 5) 9 rfl dX0_clashes_6 lf_0_31 (Or.inl rfl) (sC hst hc) (by decide) rfl ?_
  refine ev_icmp_gt (tgt := 73) 12 rfl dX0_clashes_9 (by decide) (fun cd => ?_) (fun cd => ?_)
  · have H := H.1 cd
    refine ev_iload_n 74 rfl dX0_clashes_73 rfl rfl ?_
    exact ev_retI dX0_clashes_74 rfl H
  · have H := H.2 cd
    refine ev_iconst 13 rfl dX0_clashes_12 (by decide) ?_
    refine ev_istore_n (L1 := [(2, c), (0, v1), (0, v2), (0, 0), (8, -1)]) 14 rfl dX0_clashes_13 rfl (Nat.le_of_ble_eq_true rfl) rfl ?_
    exact H

set_option maxRecDepth 20000 in
theorem b_X0_clashes_14 {X : qX} {d : Nat} {sh : qS} {pt h : qM} {K : Int → qM → Prop} {c v1 v2 v3 : Int} (hst : St sh pt) (hc : isC c)
    (H : (((h c 4) ≤ v3 → (qI (v2 + 1)) ∧ EvI X (d + 1) mX0_clashes 4 [(2, c), (0, v1), (0, (v2 + 1)), (8, -1), (8, -1)] [] sh pt h K) ∧ (v3 < (h c 4) → (qI (v3 + 1)) ∧ EvI X (d + 1) mX0_clashes 27 [(2, c), (0, v1), (0, v2), (0, v3), (0, (v3 + 1))] [] sh pt h K))) :
    EvI X (d + 1) mX0_clashes 14 [(2, c), (0, v1), (0, v2), (0, v3), (8, -1)] [] sh pt h K := by
  show Ev X (d + 1) 0 0 mX0_clashes 14 [(2, c), (0, v1), (0, v2), (0, v3), (8, -1)] [] (sh, pt, h) (qRI sh pt K)
  refine ev_iload_n 15 rfl dX0_clashes_14 rfl rfl ?_
  refine ev_aload_n 16 rfl dX0_clashes_15 rfl rfl ?_
  refine ev_getI (ki := 4) 19 rfl dX0_clashes_16 lf_0_27 (Or.inl rfl) (sC hst hc) (by decide) rfl ?_
  refine ev_icmp_ge (tgt := 67) 22 rfl dX0_clashes_19 (by decide) (fun cd => ?_) (fun cd => ?_)
  · have H := H.1 cd
    obtain ⟨sd, H⟩ := H
    refine ev_iinc (L1 := [(2, c), (0, v1), (0, (v2 + 1)), (0, v3), (8, -1)]) 70 rfl dX0_clashes_67 rfl sd (Nat.le_of_ble_eq_true rfl) rfl ?_
    refine ev_goto (tgt := 4) dX0_clashes_70 (by decide) ?_
    refine Ev.drop [3] rfl ?_
    exact H
  · have H := H.2 cd
    refine ev_iload_n 23 rfl dX0_clashes_22 rfl rfl ?_
    refine ev_iconst 24 rfl dX0_clashes_23 (by decide) ?_
    obtain ⟨sd, H⟩ := H
    refine ev_iadd 25 rfl dX0_clashes_24 sd ?_
    refine ev_istore (L1 := [(2, c), (0, v1), (0, v2), (0, v3), (0, (v3 + 1))]) 27 rfl dX0_clashes_25 (Nat.le_of_ble_eq_true rfl) rfl ?_
    exact H

set_option maxRecDepth 20000 in
theorem b_X0_clashes_27 {X : qX} {d : Nat} {sh : qS} {pt h : qM} {K : Int → qM → Prop} {c v1 v2 v3 v4 : Int} (hst : St sh pt) (hc : isC c)
    (H : (((h c 4) ≤ v4 → (qI (v3 + 1)) ∧ EvI X (d + 1) mX0_clashes 14 [(2, c), (0, v1), (0, v2), (0, (v3 + 1)), (8, -1)] [] sh pt h K) ∧ (v4 < (h c 4) → RunI X d mX0_meet [(2, c), (0, v2), (0, v3), (0, v4)] sh pt h (fun r2 h1 => ((r2 = 0 → (qI (v1 + 0)) ∧ (qI (v4 + 1)) ∧ EvI X (d + 1) mX0_clashes 27 [(2, c), (0, (v1 + 0)), (0, v2), (0, v3), (0, (v4 + 1))] [] sh pt h1 K) ∧ (¬ r2 = 0 → (qI (v1 + 1)) ∧ (qI (v4 + 1)) ∧ EvI X (d + 1) mX0_clashes 27 [(2, c), (0, (v1 + 1)), (0, v2), (0, v3), (0, (v4 + 1))] [] sh pt h1 K)))))) :
    EvI X (d + 1) mX0_clashes 27 [(2, c), (0, v1), (0, v2), (0, v3), (0, v4)] [] sh pt h K := by
  show Ev X (d + 1) 0 0 mX0_clashes 27 [(2, c), (0, v1), (0, v2), (0, v3), (0, v4)] [] (sh, pt, h) (qRI sh pt K)
  refine ev_iload 29 rfl dX0_clashes_27 rfl ?_
  refine ev_aload_n 30 rfl dX0_clashes_29 rfl rfl ?_
  refine ev_getI (ki := 4) 33 rfl dX0_clashes_30 lf_0_27 (Or.inl rfl) (sC hst hc) (by decide) rfl ?_
  refine ev_icmp_ge (tgt := 61) 36 rfl dX0_clashes_33 (by decide) (fun cd => ?_) (fun cd => ?_)
  · have H := H.1 cd
    obtain ⟨sd, H⟩ := H
    refine ev_iinc (L1 := [(2, c), (0, v1), (0, v2), (0, (v3 + 1)), (0, v4)]) 64 rfl dX0_clashes_61 rfl sd (Nat.le_of_ble_eq_true rfl) rfl ?_
    refine ev_goto (tgt := 14) dX0_clashes_64 (by decide) ?_
    refine Ev.drop [4] rfl ?_
    exact H
  · have H := H.2 cd
    refine ev_iload_n 37 rfl dX0_clashes_36 rfl rfl ?_
    refine ev_aload_n 38 rfl dX0_clashes_37 rfl rfl ?_
    refine ev_iload_n 39 rfl dX0_clashes_38 rfl rfl ?_
    refine ev_iload_n 40 rfl dX0_clashes_39 rfl rfl ?_
    refine ev_iload 42 rfl dX0_clashes_40 rfl ?_
    refine ev_cVI (As := [(0, v2), (0, v3), (0, v4)]) (rest := [(0, v1)]) 45 rfl dX0_clashes_42 lm_0_59 mm_X0_meet (sC hst hc) rfl rfl (Nat.le_of_ble_eq_true rfl) (Nat.le_of_ble_eq_true rfl) (Nat.le_refl _) H ?_
    intro r2 h1 H
    refine ev_if_eq (tgt := 52) 48 rfl dX0_clashes_45 (by decide) (fun cd => ?_) (fun cd => ?_)
    · have H := H.1 cd
      refine ev_iconst 53 rfl dX0_clashes_52 (by decide) ?_
      obtain ⟨sd, H⟩ := H
      refine ev_iadd 54 rfl dX0_clashes_53 sd ?_
      refine ev_istore_n (L1 := [(2, c), (0, (v1 + 0)), (0, v2), (0, v3), (0, v4)]) 55 rfl dX0_clashes_54 rfl (Nat.le_of_ble_eq_true rfl) rfl ?_
      obtain ⟨sd, H⟩ := H
      refine ev_iinc (L1 := [(2, c), (0, (v1 + 0)), (0, v2), (0, v3), (0, (v4 + 1))]) 58 rfl dX0_clashes_55 rfl sd (Nat.le_of_ble_eq_true rfl) rfl ?_
      refine ev_goto (tgt := 27) dX0_clashes_58 (by decide) ?_
      exact H
    · have H := H.2 cd
      refine ev_iconst 49 rfl dX0_clashes_48 (by decide) ?_
      refine ev_goto (tgt := 53) dX0_clashes_49 (by decide) ?_
      obtain ⟨sd, H⟩ := H
      refine ev_iadd 54 rfl dX0_clashes_53 sd ?_
      refine ev_istore_n (L1 := [(2, c), (0, (v1 + 1)), (0, v2), (0, v3), (0, v4)]) 55 rfl dX0_clashes_54 rfl (Nat.le_of_ble_eq_true rfl) rfl ?_
      obtain ⟨sd, H⟩ := H
      refine ev_iinc (L1 := [(2, c), (0, (v1 + 1)), (0, v2), (0, v3), (0, (v4 + 1))]) 58 rfl dX0_clashes_55 rfl sd (Nat.le_of_ble_eq_true rfl) rfl ?_
      refine ev_goto (tgt := 27) dX0_clashes_58 (by decide) ?_
      exact H

set_option maxRecDepth 20000 in
theorem b_X0_findClash {X : qX} {d : Nat} {sh : qS} {pt h : qM} {K : Int → qM → Prop} {c v1 : Int} (hst : St sh pt) (hc : isC c)
    (H : EvI X (d + 1) mX0_findClash 4 [(2, c), (8, -1), (0, v1), (0, 0), (8, -1), (8, -1)] [] sh pt h K) :
    RunI X (d + 1) mX0_findClash [(2, c), (0, v1)] sh pt h K := by
  show Ev X (d + 1) 0 0 mX0_findClash 0 [(2, c), (0, v1), (8, -1), (8, -1), (8, -1), (8, -1)] [] (sh, pt, h) (qRI sh pt K)
  refine ev_iload_n 1 rfl dX0_findClash_0 rfl rfl ?_
  refine ev_istore_n (L1 := [(2, c), (0, v1), (0, v1), (8, -1), (8, -1), (8, -1)]) 2 rfl dX0_findClash_1 rfl (Nat.le_of_ble_eq_true rfl) rfl ?_
  refine ev_iconst 3 rfl dX0_findClash_2 (by decide) ?_
  refine ev_istore_n (L1 := [(2, c), (0, v1), (0, v1), (0, 0), (8, -1), (8, -1)]) 4 rfl dX0_findClash_3 rfl (Nat.le_of_ble_eq_true rfl) rfl ?_
  refine Ev.drop [1] rfl ?_
  exact H

set_option maxRecDepth 20000 in
theorem b_X0_findClash_4 {X : qX} {d : Nat} {sh : qS} {pt h : qM} {K : Int → qM → Prop} {c v2 v3 : Int} (hst : St sh pt) (hc : isC c)
    (H : (((h c 5) < v3 → K (-1) h) ∧ (v3 ≤ (h c 5) → ((v2 < 0 → K (-1) h) ∧ (0 ≤ v2 → EvI X (d + 1) mX0_findClash 19 [(2, c), (8, -1), (0, v2), (0, v3), (0, 0), (8, -1)] [] sh pt h K))))) :
    EvI X (d + 1) mX0_findClash 4 [(2, c), (8, -1), (0, v2), (0, v3), (8, -1), (8, -1)] [] sh pt h K := by
  show Ev X (d + 1) 0 0 mX0_findClash 4 [(2, c), (8, -1), (0, v2), (0, v3), (8, -1), (8, -1)] [] (sh, pt, h) (qRI sh pt K)
  refine ev_iload_n 5 rfl dX0_findClash_4 rfl rfl ?_
  refine ev_aload_n 6 rfl dX0_findClash_5 rfl rfl ?_
  refine ev_getI (ki := 5) 9 rfl dX0_findClash_6 lf_0_31 (Or.inl rfl) (sC hst hc) (by decide) rfl ?_
  refine ev_icmp_gt (tgt := 94) 12 rfl dX0_findClash_9 (by decide) (fun cd => ?_) (fun cd => ?_)
  · have H := H.1 cd
    refine ev_iconst 95 rfl dX0_findClash_94 (by decide) ?_
    exact ev_retI dX0_findClash_95 rfl H
  · have H := H.2 cd
    refine ev_iload_n 13 rfl dX0_findClash_12 rfl rfl ?_
    refine ev_if_lt (tgt := 94) 16 rfl dX0_findClash_13 (by decide) (fun cd => ?_) (fun cd => ?_)
    · have H := H.1 cd
      refine ev_iconst 95 rfl dX0_findClash_94 (by decide) ?_
      exact ev_retI dX0_findClash_95 rfl H
    · have H := H.2 cd
      refine ev_iconst 17 rfl dX0_findClash_16 (by decide) ?_
      refine ev_istore (L1 := [(2, c), (8, -1), (0, v2), (0, v3), (0, 0), (8, -1)]) 19 rfl dX0_findClash_17 (Nat.le_of_ble_eq_true rfl) rfl ?_
      exact H

set_option maxRecDepth 20000 in
theorem b_X0_findClash_19 {X : qX} {d : Nat} {sh : qS} {pt h : qM} {K : Int → qM → Prop} {c v2 v3 v4 : Int} (hst : St sh pt) (hc : isC c)
    (H : (((h c 4) ≤ v4 → (qI (v3 + 1)) ∧ EvI X (d + 1) mX0_findClash 4 [(2, c), (8, -1), (0, v2), (0, (v3 + 1)), (8, -1), (8, -1)] [] sh pt h K) ∧ (v4 < (h c 4) → (qI (v4 + 1)) ∧ EvI X (d + 1) mX0_findClash 34 [(2, c), (8, -1), (0, v2), (0, v3), (0, v4), (0, (v4 + 1))] [] sh pt h K))) :
    EvI X (d + 1) mX0_findClash 19 [(2, c), (8, -1), (0, v2), (0, v3), (0, v4), (8, -1)] [] sh pt h K := by
  show Ev X (d + 1) 0 0 mX0_findClash 19 [(2, c), (8, -1), (0, v2), (0, v3), (0, v4), (8, -1)] [] (sh, pt, h) (qRI sh pt K)
  refine ev_iload 21 rfl dX0_findClash_19 rfl ?_
  refine ev_aload_n 22 rfl dX0_findClash_21 rfl rfl ?_
  refine ev_getI (ki := 4) 25 rfl dX0_findClash_22 lf_0_27 (Or.inl rfl) (sC hst hc) (by decide) rfl ?_
  refine ev_icmp_ge (tgt := 88) 28 rfl dX0_findClash_25 (by decide) (fun cd => ?_) (fun cd => ?_)
  · have H := H.1 cd
    obtain ⟨sd, H⟩ := H
    refine ev_iinc (L1 := [(2, c), (8, -1), (0, v2), (0, (v3 + 1)), (0, v4), (8, -1)]) 91 rfl dX0_findClash_88 rfl sd (Nat.le_of_ble_eq_true rfl) rfl ?_
    refine ev_goto (tgt := 4) dX0_findClash_91 (by decide) ?_
    refine Ev.drop [4] rfl ?_
    exact H
  · have H := H.2 cd
    refine ev_iload 30 rfl dX0_findClash_28 rfl ?_
    refine ev_iconst 31 rfl dX0_findClash_30 (by decide) ?_
    obtain ⟨sd, H⟩ := H
    refine ev_iadd 32 rfl dX0_findClash_31 sd ?_
    refine ev_istore (L1 := [(2, c), (8, -1), (0, v2), (0, v3), (0, v4), (0, (v4 + 1))]) 34 rfl dX0_findClash_32 (Nat.le_of_ble_eq_true rfl) rfl ?_
    exact H

set_option maxRecDepth 20000 in
theorem b_X0_findClash_34 {X : qX} {d : Nat} {sh : qS} {pt h : qM} {K : Int → qM → Prop} {c v2 v3 v4 v5 : Int} (hst : St sh pt) (hc : isC c)
    (H : (((h c 4) ≤ v5 → (qI (v4 + 1)) ∧ EvI X (d + 1) mX0_findClash 19 [(2, c), (8, -1), (0, v2), (0, v3), (0, (v4 + 1)), (8, -1)] [] sh pt h K) ∧ (v5 < (h c 4) → RunI X d mX0_meet [(2, c), (0, v3), (0, v4), (0, v5)] sh pt h (fun r2 h1 => ((r2 = 0 → (qI (v5 + 1)) ∧ EvI X (d + 1) mX0_findClash 34 [(2, c), (8, -1), (0, v2), (0, v3), (0, v4), (0, (v5 + 1))] [] sh pt h1 K) ∧ (¬ r2 = 0 → ((¬ v2 = 0 → (qI (v2 + (-1))) ∧ (qI (v5 + 1)) ∧ EvI X (d + 1) mX0_findClash 34 [(2, c), (8, -1), (0, (v2 + (-1))), (0, v3), (0, v4), (0, (v5 + 1))] [] sh pt h1 K) ∧ (v2 = 0 → (qI (v3 * 20)) ∧ (qI ((v3 * 20) + v4)) ∧ (qI (((v3 * 20) + v4) * 20)) ∧ (qI ((((v3 * 20) + v4) * 20) + v5)) ∧ K ((((v3 * 20) + v4) * 20) + v5) h1)))))))) :
    EvI X (d + 1) mX0_findClash 34 [(2, c), (8, -1), (0, v2), (0, v3), (0, v4), (0, v5)] [] sh pt h K := by
  show Ev X (d + 1) 0 0 mX0_findClash 34 [(2, c), (8, -1), (0, v2), (0, v3), (0, v4), (0, v5)] [] (sh, pt, h) (qRI sh pt K)
  refine ev_iload 36 rfl dX0_findClash_34 rfl ?_
  refine ev_aload_n 37 rfl dX0_findClash_36 rfl rfl ?_
  refine ev_getI (ki := 4) 40 rfl dX0_findClash_37 lf_0_27 (Or.inl rfl) (sC hst hc) (by decide) rfl ?_
  refine ev_icmp_ge (tgt := 82) 43 rfl dX0_findClash_40 (by decide) (fun cd => ?_) (fun cd => ?_)
  · have H := H.1 cd
    obtain ⟨sd, H⟩ := H
    refine ev_iinc (L1 := [(2, c), (8, -1), (0, v2), (0, v3), (0, (v4 + 1)), (0, v5)]) 85 rfl dX0_findClash_82 rfl sd (Nat.le_of_ble_eq_true rfl) rfl ?_
    refine ev_goto (tgt := 19) dX0_findClash_85 (by decide) ?_
    refine Ev.drop [5] rfl ?_
    exact H
  · have H := H.2 cd
    refine ev_aload_n 44 rfl dX0_findClash_43 rfl rfl ?_
    refine ev_iload_n 45 rfl dX0_findClash_44 rfl rfl ?_
    refine ev_iload 47 rfl dX0_findClash_45 rfl ?_
    refine ev_iload 49 rfl dX0_findClash_47 rfl ?_
    refine ev_cVI (As := [(0, v3), (0, v4), (0, v5)]) (rest := []) 52 rfl dX0_findClash_49 lm_0_59 mm_X0_meet (sC hst hc) rfl rfl (Nat.le_of_ble_eq_true rfl) (Nat.le_of_ble_eq_true rfl) (Nat.le_refl _) H ?_
    intro r2 h1 H
    refine ev_if_eq (tgt := 76) 55 rfl dX0_findClash_52 (by decide) (fun cd => ?_) (fun cd => ?_)
    · have H := H.1 cd
      obtain ⟨sd, H⟩ := H
      refine ev_iinc (L1 := [(2, c), (8, -1), (0, v2), (0, v3), (0, v4), (0, (v5 + 1))]) 79 rfl dX0_findClash_76 rfl sd (Nat.le_of_ble_eq_true rfl) rfl ?_
      refine ev_goto (tgt := 34) dX0_findClash_79 (by decide) ?_
      exact H
    · have H := H.2 cd
      refine ev_iload_n 56 rfl dX0_findClash_55 rfl rfl ?_
      refine ev_if_ne (tgt := 73) 59 rfl dX0_findClash_56 (by decide) (fun cd => ?_) (fun cd => ?_)
      · have H := H.1 cd
        obtain ⟨sd, H⟩ := H
        refine ev_iinc (L1 := [(2, c), (8, -1), (0, (v2 + (-1))), (0, v3), (0, v4), (0, v5)]) 76 rfl dX0_findClash_73 rfl sd (Nat.le_of_ble_eq_true rfl) rfl ?_
        obtain ⟨sd, H⟩ := H
        refine ev_iinc (L1 := [(2, c), (8, -1), (0, (v2 + (-1))), (0, v3), (0, v4), (0, (v5 + 1))]) 79 rfl dX0_findClash_76 rfl sd (Nat.le_of_ble_eq_true rfl) rfl ?_
        refine ev_goto (tgt := 34) dX0_findClash_79 (by decide) ?_
        exact H
      · have H := H.2 cd
        refine ev_iload_n 60 rfl dX0_findClash_59 rfl rfl ?_
        refine ev_bipush 62 rfl dX0_findClash_60 (by decide) (by decide) ?_
        obtain ⟨sd, H⟩ := H
        refine ev_imul 63 rfl dX0_findClash_62 sd ?_
        refine ev_iload 65 rfl dX0_findClash_63 rfl ?_
        obtain ⟨sd, H⟩ := H
        refine ev_iadd 66 rfl dX0_findClash_65 sd ?_
        refine ev_bipush 68 rfl dX0_findClash_66 (by decide) (by decide) ?_
        obtain ⟨sd, H⟩ := H
        refine ev_imul 69 rfl dX0_findClash_68 sd ?_
        refine ev_iload 71 rfl dX0_findClash_69 rfl ?_
        obtain ⟨sd, H⟩ := H
        refine ev_iadd 72 rfl dX0_findClash_71 sd ?_
        exact ev_retI dX0_findClash_72 rfl H

set_option maxRecDepth 20000 in
theorem b_X0_countOfClash {X : qX} {d : Nat} {sh : qS} {pt h : qM} {K : Int → qM → Prop} {v0 : Int} (hst : St sh pt)
    (H : (0 ≤ v0) ∧ K (v0 / 400) h) :
    RunI X d mX0_countOfClash [(0, v0)] sh pt h K := by
  show Ev X d 0 0 mX0_countOfClash 0 [(0, v0)] [] (sh, pt, h) (qRI sh pt K)
  refine ev_iload_n 1 rfl dX0_countOfClash_0 rfl rfl ?_
  refine ev_sipush 4 rfl dX0_countOfClash_1 (by decide) (by decide) ?_
  obtain ⟨sd, H⟩ := H
  refine ev_idivP 5 rfl dX0_countOfClash_4 ⟨sd, by decide⟩ ?_
  exact ev_retI dX0_countOfClash_5 rfl H

set_option maxRecDepth 20000 in
theorem b_X0_lesserOfClash {X : qX} {d : Nat} {sh : qS} {pt h : qM} {K : Int → qM → Prop} {v0 : Int} (hst : St sh pt)
    (H : (0 ≤ v0) ∧ (0 ≤ (v0 / 20)) ∧ K ((v0 / 20) % 20) h) :
    RunI X d mX0_lesserOfClash [(0, v0)] sh pt h K := by
  show Ev X d 0 0 mX0_lesserOfClash 0 [(0, v0)] [] (sh, pt, h) (qRI sh pt K)
  refine ev_iload_n 1 rfl dX0_lesserOfClash_0 rfl rfl ?_
  refine ev_bipush 3 rfl dX0_lesserOfClash_1 (by decide) (by decide) ?_
  obtain ⟨sd, H⟩ := H
  refine ev_idivP 4 rfl dX0_lesserOfClash_3 ⟨sd, by decide⟩ ?_
  refine ev_bipush 6 rfl dX0_lesserOfClash_4 (by decide) (by decide) ?_
  obtain ⟨sd, H⟩ := H
  refine ev_iremP 7 rfl dX0_lesserOfClash_6 ⟨sd, by decide⟩ ?_
  exact ev_retI dX0_lesserOfClash_7 rfl H

set_option maxRecDepth 20000 in
theorem b_X0_greaterOfClash {X : qX} {d : Nat} {sh : qS} {pt h : qM} {K : Int → qM → Prop} {v0 : Int} (hst : St sh pt)
    (H : (0 ≤ v0) ∧ K (v0 % 20) h) :
    RunI X d mX0_greaterOfClash [(0, v0)] sh pt h K := by
  show Ev X d 0 0 mX0_greaterOfClash 0 [(0, v0)] [] (sh, pt, h) (qRI sh pt K)
  refine ev_iload_n 1 rfl dX0_greaterOfClash_0 rfl rfl ?_
  refine ev_bipush 3 rfl dX0_greaterOfClash_1 (by decide) (by decide) ?_
  obtain ⟨sd, H⟩ := H
  refine ev_iremP 4 rfl dX0_greaterOfClash_3 ⟨sd, by decide⟩ ?_
  exact ev_retI dX0_greaterOfClash_4 rfl H

set_option maxRecDepth 20000 in
theorem b_X0_meet {X : qX} {d : Nat} {sh : qS} {pt h : qM} {K : Int → qM → Prop} {c v1 v2 v3 : Int} (hst : St sh pt) (hc : isC c)
    (H : RunI X d mX0_spotAt [(2, c), (0, v1), (0, v2)] sh pt h (fun r2 h1 => RunI X d mX0_spotAt [(2, c), (0, v1), (0, v3)] sh pt h1 (fun r4 h3 => ((¬ r2 = r4 → ((v1 ≤ 0 → K 0 h3) ∧ (0 < v1 → (qI (v1 - 1)) ∧ RunI X d mX0_spotAt [(2, c), (0, (v1 - 1)), (0, v3)] sh pt h3 (fun r6 h5 => ((¬ r2 = r6 → K 0 h5) ∧ (r2 = r6 → (qI (v1 - 1)) ∧ RunI X d mX0_spotAt [(2, c), (0, (v1 - 1)), (0, v2)] sh pt h5 (fun r8 h7 => ((¬ r4 = r8 → K 0 h7) ∧ (r4 = r8 → K 1 h7))))))))) ∧ (r2 = r4 → K 1 h3))))) :
    RunI X (d + 1) mX0_meet [(2, c), (0, v1), (0, v2), (0, v3)] sh pt h K := by
  show Ev X (d + 1) 0 0 mX0_meet 0 [(2, c), (0, v1), (0, v2), (0, v3), (8, -1), (8, -1)] [] (sh, pt, h) (qRI sh pt K)
  refine ev_aload_n 1 rfl dX0_meet_0 rfl rfl ?_
  refine ev_iload_n 2 rfl dX0_meet_1 rfl rfl ?_
  refine ev_iload_n 3 rfl dX0_meet_2 rfl rfl ?_
  refine ev_cVI (As := [(0, v1), (0, v2)]) (rest := []) 6 rfl dX0_meet_3 lm_0_63 mm_X0_spotAt (sC hst hc) rfl rfl (Nat.le_of_ble_eq_true rfl) (Nat.le_of_ble_eq_true rfl) (Nat.le_refl _) H ?_
  intro r2 h1 H
  refine ev_istore (L1 := [(2, c), (0, v1), (0, v2), (0, v3), (0, r2), (8, -1)]) 8 rfl dX0_meet_6 (Nat.le_of_ble_eq_true rfl) rfl ?_
  refine ev_aload_n 9 rfl dX0_meet_8 rfl rfl ?_
  refine ev_iload_n 10 rfl dX0_meet_9 rfl rfl ?_
  refine ev_iload_n 11 rfl dX0_meet_10 rfl rfl ?_
  refine ev_cVI (As := [(0, v1), (0, v3)]) (rest := []) 14 rfl dX0_meet_11 lm_0_63 mm_X0_spotAt (sC hst hc) rfl rfl (Nat.le_of_ble_eq_true rfl) (Nat.le_of_ble_eq_true rfl) (Nat.le_refl _) H ?_
  intro r4 h3 H
  refine ev_istore (L1 := [(2, c), (0, v1), (0, v2), (0, v3), (0, r2), (0, r4)]) 16 rfl dX0_meet_14 (Nat.le_of_ble_eq_true rfl) rfl ?_
  refine ev_iload 18 rfl dX0_meet_16 rfl ?_
  refine ev_iload 20 rfl dX0_meet_18 rfl ?_
  refine ev_icmp_ne (tgt := 25) 23 rfl dX0_meet_20 (by decide) (fun cd => ?_) (fun cd => ?_)
  · have H := H.1 cd
    refine ev_iload_n 26 rfl dX0_meet_25 rfl rfl ?_
    refine ev_if_le (tgt := 59) 29 rfl dX0_meet_26 (by decide) (fun cd => ?_) (fun cd => ?_)
    · have H := H.1 cd
      refine ev_iconst 60 rfl dX0_meet_59 (by decide) ?_
      exact ev_retZ dX0_meet_60 rfl (by decide) H
    · have H := H.2 cd
      refine ev_iload 31 rfl dX0_meet_29 rfl ?_
      refine ev_aload_n 32 rfl dX0_meet_31 rfl rfl ?_
      refine ev_iload_n 33 rfl dX0_meet_32 rfl rfl ?_
      refine ev_iconst 34 rfl dX0_meet_33 (by decide) ?_
      obtain ⟨sd, H⟩ := H
      refine ev_isub 35 rfl dX0_meet_34 sd ?_
      refine ev_iload_n 36 rfl dX0_meet_35 rfl rfl ?_
      refine ev_cVI (As := [(0, (v1 - 1)), (0, v3)]) (rest := [(0, r2)]) 39 rfl dX0_meet_36 lm_0_63 mm_X0_spotAt (sC hst hc) rfl rfl (Nat.le_of_ble_eq_true rfl) (Nat.le_of_ble_eq_true rfl) (Nat.le_refl _) H ?_
      intro r6 h5 H
      refine ev_icmp_ne (tgt := 59) 42 rfl dX0_meet_39 (by decide) (fun cd => ?_) (fun cd => ?_)
      · have H := H.1 cd
        refine ev_iconst 60 rfl dX0_meet_59 (by decide) ?_
        exact ev_retZ dX0_meet_60 rfl (by decide) H
      · have H := H.2 cd
        refine ev_iload 44 rfl dX0_meet_42 rfl ?_
        refine ev_aload_n 45 rfl dX0_meet_44 rfl rfl ?_
        refine ev_iload_n 46 rfl dX0_meet_45 rfl rfl ?_
        refine ev_iconst 47 rfl dX0_meet_46 (by decide) ?_
        obtain ⟨sd, H⟩ := H
        refine ev_isub 48 rfl dX0_meet_47 sd ?_
        refine ev_iload_n 49 rfl dX0_meet_48 rfl rfl ?_
        refine ev_cVI (As := [(0, (v1 - 1)), (0, v2)]) (rest := [(0, r4)]) 52 rfl dX0_meet_49 lm_0_63 mm_X0_spotAt (sC hst hc) rfl rfl (Nat.le_of_ble_eq_true rfl) (Nat.le_of_ble_eq_true rfl) (Nat.le_refl _) H ?_
        intro r8 h7 H
        refine ev_icmp_ne (tgt := 59) 55 rfl dX0_meet_52 (by decide) (fun cd => ?_) (fun cd => ?_)
        · have H := H.1 cd
          refine ev_iconst 60 rfl dX0_meet_59 (by decide) ?_
          exact ev_retZ dX0_meet_60 rfl (by decide) H
        · have H := H.2 cd
          refine ev_iconst 56 rfl dX0_meet_55 (by decide) ?_
          refine ev_goto (tgt := 60) dX0_meet_56 (by decide) ?_
          exact ev_retZ dX0_meet_60 rfl (by decide) H
  · have H := H.2 cd
    refine ev_iconst 24 rfl dX0_meet_23 (by decide) ?_
    exact ev_retZ dX0_meet_24 rfl (by decide) H

set_option maxRecDepth 20000 in
theorem b_X0_hits {X : qX} {d : Nat} {sh : qS} {pt h : qM} {K : Int → qM → Prop} {c : Int} (hst : St sh pt) (hc : isC c)
    (H : EvI X (d + 1) mX0_hits 4 [(2, c), (2, 2), (0, 0), (0, 0), (8, -1)] [] sh pt h K) :
    RunI X (d + 1) mX0_hits [(2, c), (2, 2)] sh pt h K := by
  show Ev X (d + 1) 0 0 mX0_hits 0 [(2, c), (2, 2), (8, -1), (8, -1), (8, -1)] [] (sh, pt, h) (qRI sh pt K)
  refine ev_iconst 1 rfl dX0_hits_0 (by decide) ?_
  refine ev_istore_n (L1 := [(2, c), (2, 2), (0, 0), (8, -1), (8, -1)]) 2 rfl dX0_hits_1 rfl (Nat.le_of_ble_eq_true rfl) rfl ?_
  refine ev_iconst 3 rfl dX0_hits_2 (by decide) ?_
  refine ev_istore_n (L1 := [(2, c), (2, 2), (0, 0), (0, 0), (8, -1)]) 4 rfl dX0_hits_3 rfl (Nat.le_of_ble_eq_true rfl) rfl ?_
  exact H

set_option maxRecDepth 20000 in
theorem b_X0_hits_4 {X : qX} {d : Nat} {sh : qS} {pt h : qM} {K : Int → qM → Prop} {c v2 v3 : Int} (hst : St sh pt) (hc : isC c)
    (H : (((h c 5) < v3 → K v2 h) ∧ (v3 ≤ (h c 5) → EvI X (d + 1) mX0_hits 15 [(2, c), (2, 2), (0, v2), (0, v3), (0, 0)] [] sh pt h K))) :
    EvI X (d + 1) mX0_hits 4 [(2, c), (2, 2), (0, v2), (0, v3), (8, -1)] [] sh pt h K := by
  show Ev X (d + 1) 0 0 mX0_hits 4 [(2, c), (2, 2), (0, v2), (0, v3), (8, -1)] [] (sh, pt, h) (qRI sh pt K)
  refine ev_iload_n 5 rfl dX0_hits_4 rfl rfl ?_
  refine ev_aload_n 6 rfl dX0_hits_5 rfl rfl ?_
  refine ev_getI (ki := 5) 9 rfl dX0_hits_6 lf_0_31 (Or.inl rfl) (sC hst hc) (by decide) rfl ?_
  refine ev_icmp_gt (tgt := 65) 12 rfl dX0_hits_9 (by decide) (fun cd => ?_) (fun cd => ?_)
  · have H := H.1 cd
    refine ev_iload_n 66 rfl dX0_hits_65 rfl rfl ?_
    exact ev_retI dX0_hits_66 rfl H
  · have H := H.2 cd
    refine ev_iconst 13 rfl dX0_hits_12 (by decide) ?_
    refine ev_istore (L1 := [(2, c), (2, 2), (0, v2), (0, v3), (0, 0)]) 15 rfl dX0_hits_13 (Nat.le_of_ble_eq_true rfl) rfl ?_
    exact H

set_option maxRecDepth 20000 in
theorem b_X0_hits_15 {X : qX} {d : Nat} {sh : qS} {pt h : qM} {K : Int → qM → Prop} {c v2 v3 v4 : Int} (hst : St sh pt) (hc : isC c)
    (H : (((h c 4) ≤ v4 → (qI (v3 + 1)) ∧ EvI X (d + 1) mX0_hits 4 [(2, c), (2, 2), (0, v2), (0, (v3 + 1)), (8, -1)] [] sh pt h K) ∧ (v4 < (h c 4) → RunI X d mX0_eastOf [(2, c), (0, v3), (0, v4)] sh pt h (fun r2 h1 => RunI X d mX0_northOf [(2, c), (0, v3), (0, v4)] sh pt h1 (fun r4 h3 => RunI X d mX2_hasProp [(2, 2), (0, r2), (0, r4)] sh pt h3 (fun r6 h5 => ((r6 = 0 → (qI (v2 + 0)) ∧ (qI (v4 + 1)) ∧ EvI X (d + 1) mX0_hits 15 [(2, c), (2, 2), (0, (v2 + 0)), (0, v3), (0, (v4 + 1))] [] sh pt h5 K) ∧ (¬ r6 = 0 → (qI (v2 + 1)) ∧ (qI (v4 + 1)) ∧ EvI X (d + 1) mX0_hits 15 [(2, c), (2, 2), (0, (v2 + 1)), (0, v3), (0, (v4 + 1))] [] sh pt h5 K)))))))) :
    EvI X (d + 1) mX0_hits 15 [(2, c), (2, 2), (0, v2), (0, v3), (0, v4)] [] sh pt h K := by
  show Ev X (d + 1) 0 0 mX0_hits 15 [(2, c), (2, 2), (0, v2), (0, v3), (0, v4)] [] (sh, pt, h) (qRI sh pt K)
  refine ev_iload 17 rfl dX0_hits_15 rfl ?_
  refine ev_aload_n 18 rfl dX0_hits_17 rfl rfl ?_
  refine ev_getI (ki := 4) 21 rfl dX0_hits_18 lf_0_27 (Or.inl rfl) (sC hst hc) (by decide) rfl ?_
  refine ev_icmp_ge (tgt := 59) 24 rfl dX0_hits_21 (by decide) (fun cd => ?_) (fun cd => ?_)
  · have H := H.1 cd
    obtain ⟨sd, H⟩ := H
    refine ev_iinc (L1 := [(2, c), (2, 2), (0, v2), (0, (v3 + 1)), (0, v4)]) 62 rfl dX0_hits_59 rfl sd (Nat.le_of_ble_eq_true rfl) rfl ?_
    refine ev_goto (tgt := 4) dX0_hits_62 (by decide) ?_
    refine Ev.drop [4] rfl ?_
    exact H
  · have H := H.2 cd
    refine ev_iload_n 25 rfl dX0_hits_24 rfl rfl ?_
    refine ev_aload_n 26 rfl dX0_hits_25 rfl rfl ?_
    refine ev_aload_n 27 rfl dX0_hits_26 rfl rfl ?_
    refine ev_iload_n 28 rfl dX0_hits_27 rfl rfl ?_
    refine ev_iload 30 rfl dX0_hits_28 rfl ?_
    refine ev_cVI (As := [(0, v3), (0, v4)]) (rest := [(2, 2), (0, v2)]) 33 rfl dX0_hits_30 lm_0_66 mm_X0_eastOf (sC hst hc) rfl rfl (Nat.le_of_ble_eq_true rfl) (Nat.le_of_ble_eq_true rfl) (Nat.le_refl _) H ?_
    intro r2 h1 H
    refine ev_aload_n 34 rfl dX0_hits_33 rfl rfl ?_
    refine ev_iload_n 35 rfl dX0_hits_34 rfl rfl ?_
    refine ev_iload 37 rfl dX0_hits_35 rfl ?_
    refine ev_cVI (As := [(0, v3), (0, v4)]) (rest := [(0, r2), (2, 2), (0, v2)]) 40 rfl dX0_hits_37 lm_0_69 mm_X0_northOf (sC hst hc) rfl rfl (Nat.le_of_ble_eq_true rfl) (Nat.le_of_ble_eq_true rfl) (Nat.le_refl _) H ?_
    intro r4 h3 H
    refine ev_cVI (As := [(0, r2), (0, r4)]) (rest := [(0, v2)]) 43 rfl dX0_hits_40 lm_0_72 mm_X2_hasProp (s_2 hst) rfl rfl (Nat.le_of_ble_eq_true rfl) (Nat.le_of_ble_eq_true rfl) (Nat.le_refl _) H ?_
    intro r6 h5 H
    refine ev_if_eq (tgt := 50) 46 rfl dX0_hits_43 (by decide) (fun cd => ?_) (fun cd => ?_)
    · have H := H.1 cd
      refine ev_iconst 51 rfl dX0_hits_50 (by decide) ?_
      obtain ⟨sd, H⟩ := H
      refine ev_iadd 52 rfl dX0_hits_51 sd ?_
      refine ev_istore_n (L1 := [(2, c), (2, 2), (0, (v2 + 0)), (0, v3), (0, v4)]) 53 rfl dX0_hits_52 rfl (Nat.le_of_ble_eq_true rfl) rfl ?_
      obtain ⟨sd, H⟩ := H
      refine ev_iinc (L1 := [(2, c), (2, 2), (0, (v2 + 0)), (0, v3), (0, (v4 + 1))]) 56 rfl dX0_hits_53 rfl sd (Nat.le_of_ble_eq_true rfl) rfl ?_
      refine ev_goto (tgt := 15) dX0_hits_56 (by decide) ?_
      exact H
    · have H := H.2 cd
      refine ev_iconst 47 rfl dX0_hits_46 (by decide) ?_
      refine ev_goto (tgt := 51) dX0_hits_47 (by decide) ?_
      obtain ⟨sd, H⟩ := H
      refine ev_iadd 52 rfl dX0_hits_51 sd ?_
      refine ev_istore_n (L1 := [(2, c), (2, 2), (0, (v2 + 1)), (0, v3), (0, v4)]) 53 rfl dX0_hits_52 rfl (Nat.le_of_ble_eq_true rfl) rfl ?_
      obtain ⟨sd, H⟩ := H
      refine ev_iinc (L1 := [(2, c), (2, 2), (0, (v2 + 1)), (0, v3), (0, (v4 + 1))]) 56 rfl dX0_hits_53 rfl sd (Nat.le_of_ble_eq_true rfl) rfl ?_
      refine ev_goto (tgt := 15) dX0_hits_56 (by decide) ?_
      exact H

set_option maxRecDepth 20000 in
theorem b_X0_stepsAbove {X : qX} {d : Nat} {sh : qS} {pt h : qM} {K : Int → qM → Prop} {c v1 : Int} (hst : St sh pt) (hc : isC c)
    (H : EvI X (d + 1) mX0_stepsAbove 4 [(2, c), (0, v1), (0, 0), (0, 1), (8, -1)] [] sh pt h K) :
    RunI X (d + 1) mX0_stepsAbove [(2, c), (0, v1)] sh pt h K := by
  show Ev X (d + 1) 0 0 mX0_stepsAbove 0 [(2, c), (0, v1), (8, -1), (8, -1), (8, -1)] [] (sh, pt, h) (qRI sh pt K)
  refine ev_iconst 1 rfl dX0_stepsAbove_0 (by decide) ?_
  refine ev_istore_n (L1 := [(2, c), (0, v1), (0, 0), (8, -1), (8, -1)]) 2 rfl dX0_stepsAbove_1 rfl (Nat.le_of_ble_eq_true rfl) rfl ?_
  refine ev_iconst 3 rfl dX0_stepsAbove_2 (by decide) ?_
  refine ev_istore_n (L1 := [(2, c), (0, v1), (0, 0), (0, 1), (8, -1)]) 4 rfl dX0_stepsAbove_3 rfl (Nat.le_of_ble_eq_true rfl) rfl ?_
  exact H

set_option maxRecDepth 20000 in
theorem b_X0_stepsAbove_4 {X : qX} {d : Nat} {sh : qS} {pt h : qM} {K : Int → qM → Prop} {c v1 v2 v3 : Int} (hst : St sh pt) (hc : isC c)
    (H : (((h c 5) < v3 → K v2 h) ∧ (v3 ≤ (h c 5) → EvI X (d + 1) mX0_stepsAbove 15 [(2, c), (0, v1), (0, v2), (0, v3), (0, 0)] [] sh pt h K))) :
    EvI X (d + 1) mX0_stepsAbove 4 [(2, c), (0, v1), (0, v2), (0, v3), (8, -1)] [] sh pt h K := by
  show Ev X (d + 1) 0 0 mX0_stepsAbove 4 [(2, c), (0, v1), (0, v2), (0, v3), (8, -1)] [] (sh, pt, h) (qRI sh pt K)
  refine ev_iload_n 5 rfl dX0_stepsAbove_4 rfl rfl ?_
  refine ev_aload_n 6 rfl dX0_stepsAbove_5 rfl rfl ?_
  refine ev_getI (ki := 5) 9 rfl dX0_stepsAbove_6 lf_0_31 (Or.inl rfl) (sC hst hc) (by decide) rfl ?_
  refine ev_icmp_gt (tgt := 55) 12 rfl dX0_stepsAbove_9 (by decide) (fun cd => ?_) (fun cd => ?_)
  · have H := H.1 cd
    refine ev_iload_n 56 rfl dX0_stepsAbove_55 rfl rfl ?_
    exact ev_retI dX0_stepsAbove_56 rfl H
  · have H := H.2 cd
    refine ev_iconst 13 rfl dX0_stepsAbove_12 (by decide) ?_
    refine ev_istore (L1 := [(2, c), (0, v1), (0, v2), (0, v3), (0, 0)]) 15 rfl dX0_stepsAbove_13 (Nat.le_of_ble_eq_true rfl) rfl ?_
    exact H

set_option maxRecDepth 20000 in
theorem b_X0_stepsAbove_15 {X : qX} {d : Nat} {sh : qS} {pt h : qM} {K : Int → qM → Prop} {c v1 v2 v3 v4 : Int} (hst : St sh pt) (hc : isC c)
    (H : (((h c 4) ≤ v4 → (qI (v3 + 1)) ∧ EvI X (d + 1) mX0_stepsAbove 4 [(2, c), (0, v1), (0, v2), (0, (v3 + 1)), (8, -1)] [] sh pt h K) ∧ (v4 < (h c 4) → RunI X d mX0_stepSquare [(2, c), (0, v3), (0, v4)] sh pt h (fun r2 h1 => ((r2 ≤ v1 → (qI (v2 + 0)) ∧ (qI (v4 + 1)) ∧ EvI X (d + 1) mX0_stepsAbove 15 [(2, c), (0, v1), (0, (v2 + 0)), (0, v3), (0, (v4 + 1))] [] sh pt h1 K) ∧ (v1 < r2 → (qI (v2 + 1)) ∧ (qI (v4 + 1)) ∧ EvI X (d + 1) mX0_stepsAbove 15 [(2, c), (0, v1), (0, (v2 + 1)), (0, v3), (0, (v4 + 1))] [] sh pt h1 K)))))) :
    EvI X (d + 1) mX0_stepsAbove 15 [(2, c), (0, v1), (0, v2), (0, v3), (0, v4)] [] sh pt h K := by
  show Ev X (d + 1) 0 0 mX0_stepsAbove 15 [(2, c), (0, v1), (0, v2), (0, v3), (0, v4)] [] (sh, pt, h) (qRI sh pt K)
  refine ev_iload 17 rfl dX0_stepsAbove_15 rfl ?_
  refine ev_aload_n 18 rfl dX0_stepsAbove_17 rfl rfl ?_
  refine ev_getI (ki := 4) 21 rfl dX0_stepsAbove_18 lf_0_27 (Or.inl rfl) (sC hst hc) (by decide) rfl ?_
  refine ev_icmp_ge (tgt := 49) 24 rfl dX0_stepsAbove_21 (by decide) (fun cd => ?_) (fun cd => ?_)
  · have H := H.1 cd
    obtain ⟨sd, H⟩ := H
    refine ev_iinc (L1 := [(2, c), (0, v1), (0, v2), (0, (v3 + 1)), (0, v4)]) 52 rfl dX0_stepsAbove_49 rfl sd (Nat.le_of_ble_eq_true rfl) rfl ?_
    refine ev_goto (tgt := 4) dX0_stepsAbove_52 (by decide) ?_
    refine Ev.drop [4] rfl ?_
    exact H
  · have H := H.2 cd
    refine ev_iload_n 25 rfl dX0_stepsAbove_24 rfl rfl ?_
    refine ev_aload_n 26 rfl dX0_stepsAbove_25 rfl rfl ?_
    refine ev_iload_n 27 rfl dX0_stepsAbove_26 rfl rfl ?_
    refine ev_iload 29 rfl dX0_stepsAbove_27 rfl ?_
    refine ev_cVI (As := [(0, v3), (0, v4)]) (rest := [(0, v2)]) 32 rfl dX0_stepsAbove_29 lm_0_75 mm_X0_stepSquare (sC hst hc) rfl rfl (Nat.le_of_ble_eq_true rfl) (Nat.le_of_ble_eq_true rfl) (Nat.le_refl _) H ?_
    intro r2 h1 H
    refine ev_iload_n 33 rfl dX0_stepsAbove_32 rfl rfl ?_
    refine ev_icmp_le (tgt := 40) 36 rfl dX0_stepsAbove_33 (by decide) (fun cd => ?_) (fun cd => ?_)
    · have H := H.1 cd
      refine ev_iconst 41 rfl dX0_stepsAbove_40 (by decide) ?_
      obtain ⟨sd, H⟩ := H
      refine ev_iadd 42 rfl dX0_stepsAbove_41 sd ?_
      refine ev_istore_n (L1 := [(2, c), (0, v1), (0, (v2 + 0)), (0, v3), (0, v4)]) 43 rfl dX0_stepsAbove_42 rfl (Nat.le_of_ble_eq_true rfl) rfl ?_
      obtain ⟨sd, H⟩ := H
      refine ev_iinc (L1 := [(2, c), (0, v1), (0, (v2 + 0)), (0, v3), (0, (v4 + 1))]) 46 rfl dX0_stepsAbove_43 rfl sd (Nat.le_of_ble_eq_true rfl) rfl ?_
      refine ev_goto (tgt := 15) dX0_stepsAbove_46 (by decide) ?_
      exact H
    · have H := H.2 cd
      refine ev_iconst 37 rfl dX0_stepsAbove_36 (by decide) ?_
      refine ev_goto (tgt := 41) dX0_stepsAbove_37 (by decide) ?_
      obtain ⟨sd, H⟩ := H
      refine ev_iadd 42 rfl dX0_stepsAbove_41 sd ?_
      refine ev_istore_n (L1 := [(2, c), (0, v1), (0, (v2 + 1)), (0, v3), (0, v4)]) 43 rfl dX0_stepsAbove_42 rfl (Nat.le_of_ble_eq_true rfl) rfl ?_
      obtain ⟨sd, H⟩ := H
      refine ev_iinc (L1 := [(2, c), (0, v1), (0, (v2 + 1)), (0, v3), (0, (v4 + 1))]) 46 rfl dX0_stepsAbove_43 rfl sd (Nat.le_of_ble_eq_true rfl) rfl ?_
      refine ev_goto (tgt := 15) dX0_stepsAbove_46 (by decide) ?_
      exact H

set_option maxRecDepth 20000 in
theorem b_X0_greatestStep {X : qX} {d : Nat} {sh : qS} {pt h : qM} {K : Int → qM → Prop} {c : Int} (hst : St sh pt) (hc : isC c)
    (H : EvI X (d + 1) mX0_greatestStep 4 [(2, c), (0, 0), (0, 1), (8, -1)] [] sh pt h K) :
    RunI X (d + 1) mX0_greatestStep [(2, c)] sh pt h K := by
  show Ev X (d + 1) 0 0 mX0_greatestStep 0 [(2, c), (8, -1), (8, -1), (8, -1)] [] (sh, pt, h) (qRI sh pt K)
  refine ev_iconst 1 rfl dX0_greatestStep_0 (by decide) ?_
  refine ev_istore_n (L1 := [(2, c), (0, 0), (8, -1), (8, -1)]) 2 rfl dX0_greatestStep_1 rfl (Nat.le_of_ble_eq_true rfl) rfl ?_
  refine ev_iconst 3 rfl dX0_greatestStep_2 (by decide) ?_
  refine ev_istore_n (L1 := [(2, c), (0, 0), (0, 1), (8, -1)]) 4 rfl dX0_greatestStep_3 rfl (Nat.le_of_ble_eq_true rfl) rfl ?_
  exact H

set_option maxRecDepth 20000 in
theorem b_X0_greatestStep_4 {X : qX} {d : Nat} {sh : qS} {pt h : qM} {K : Int → qM → Prop} {c v1 v2 : Int} (hst : St sh pt) (hc : isC c)
    (H : (((h c 5) < v2 → K v1 h) ∧ (v2 ≤ (h c 5) → EvI X (d + 1) mX0_greatestStep 14 [(2, c), (0, v1), (0, v2), (0, 0)] [] sh pt h K))) :
    EvI X (d + 1) mX0_greatestStep 4 [(2, c), (0, v1), (0, v2), (8, -1)] [] sh pt h K := by
  show Ev X (d + 1) 0 0 mX0_greatestStep 4 [(2, c), (0, v1), (0, v2), (8, -1)] [] (sh, pt, h) (qRI sh pt K)
  refine ev_iload_n 5 rfl dX0_greatestStep_4 rfl rfl ?_
  refine ev_aload_n 6 rfl dX0_greatestStep_5 rfl rfl ?_
  refine ev_getI (ki := 5) 9 rfl dX0_greatestStep_6 lf_0_31 (Or.inl rfl) (sC hst hc) (by decide) rfl ?_
  refine ev_icmp_gt (tgt := 45) 12 rfl dX0_greatestStep_9 (by decide) (fun cd => ?_) (fun cd => ?_)
  · have H := H.1 cd
    refine ev_iload_n 46 rfl dX0_greatestStep_45 rfl rfl ?_
    exact ev_retI dX0_greatestStep_46 rfl H
  · have H := H.2 cd
    refine ev_iconst 13 rfl dX0_greatestStep_12 (by decide) ?_
    refine ev_istore_n (L1 := [(2, c), (0, v1), (0, v2), (0, 0)]) 14 rfl dX0_greatestStep_13 rfl (Nat.le_of_ble_eq_true rfl) rfl ?_
    exact H

set_option maxRecDepth 20000 in
theorem b_X0_greatestStep_14 {X : qX} {d : Nat} {sh : qS} {pt h : qM} {K : Int → qM → Prop} {c v1 v2 v3 : Int} (hst : St sh pt) (hc : isC c)
    (H : (((h c 4) ≤ v3 → (qI (v2 + 1)) ∧ EvI X (d + 1) mX0_greatestStep 4 [(2, c), (0, v1), (0, (v2 + 1)), (8, -1)] [] sh pt h K) ∧ (v3 < (h c 4) → RunI X d mX0_stepSquare [(2, c), (0, v2), (0, v3)] sh pt h (fun r2 h1 => RunI X d mJ9_max_7cf53 [(0, v1), (0, r2)] sh pt h1 (fun r4 h3 => (qI (v3 + 1)) ∧ EvI X (d + 1) mX0_greatestStep 14 [(2, c), (0, r4), (0, v2), (0, (v3 + 1))] [] sh pt h3 K))))) :
    EvI X (d + 1) mX0_greatestStep 14 [(2, c), (0, v1), (0, v2), (0, v3)] [] sh pt h K := by
  show Ev X (d + 1) 0 0 mX0_greatestStep 14 [(2, c), (0, v1), (0, v2), (0, v3)] [] (sh, pt, h) (qRI sh pt K)
  refine ev_iload_n 15 rfl dX0_greatestStep_14 rfl rfl ?_
  refine ev_aload_n 16 rfl dX0_greatestStep_15 rfl rfl ?_
  refine ev_getI (ki := 4) 19 rfl dX0_greatestStep_16 lf_0_27 (Or.inl rfl) (sC hst hc) (by decide) rfl ?_
  refine ev_icmp_ge (tgt := 39) 22 rfl dX0_greatestStep_19 (by decide) (fun cd => ?_) (fun cd => ?_)
  · have H := H.1 cd
    obtain ⟨sd, H⟩ := H
    refine ev_iinc (L1 := [(2, c), (0, v1), (0, (v2 + 1)), (0, v3)]) 42 rfl dX0_greatestStep_39 rfl sd (Nat.le_of_ble_eq_true rfl) rfl ?_
    refine ev_goto (tgt := 4) dX0_greatestStep_42 (by decide) ?_
    refine Ev.drop [3] rfl ?_
    exact H
  · have H := H.2 cd
    refine ev_iload_n 23 rfl dX0_greatestStep_22 rfl rfl ?_
    refine ev_aload_n 24 rfl dX0_greatestStep_23 rfl rfl ?_
    refine ev_iload_n 25 rfl dX0_greatestStep_24 rfl rfl ?_
    refine ev_iload_n 26 rfl dX0_greatestStep_25 rfl rfl ?_
    refine ev_cVI (As := [(0, v2), (0, v3)]) (rest := [(0, v1)]) 29 rfl dX0_greatestStep_26 lm_0_75 mm_X0_stepSquare (sC hst hc) rfl rfl (Nat.le_of_ble_eq_true rfl) (Nat.le_of_ble_eq_true rfl) (Nat.le_refl _) H ?_
    intro r2 h1 H
    refine ev_cSI (As := [(0, v1), (0, r2)]) (rest := []) 32 rfl dX0_greatestStep_29 lm_0_78 mm_J9_max_7cf53 rfl rfl (Nat.le_of_ble_eq_true rfl) (Nat.le_of_ble_eq_true rfl) (Nat.le_refl _) H ?_
    intro r4 h3 H
    refine ev_istore_n (L1 := [(2, c), (0, r4), (0, v2), (0, v3)]) 33 rfl dX0_greatestStep_32 rfl (Nat.le_of_ble_eq_true rfl) rfl ?_
    obtain ⟨sd, H⟩ := H
    refine ev_iinc (L1 := [(2, c), (0, r4), (0, v2), (0, (v3 + 1))]) 36 rfl dX0_greatestStep_33 rfl sd (Nat.le_of_ble_eq_true rfl) rfl ?_
    refine ev_goto (tgt := 14) dX0_greatestStep_36 (by decide) ?_
    exact H

set_option maxRecDepth 20000 in
theorem b_X0_stepSquare {X : qX} {d : Nat} {sh : qS} {pt h : qM} {K : Int → qM → Prop} {c v1 v2 : Int} (hst : St sh pt) (hc : isC c)
    (H : RunI X d mX0_eastOf [(2, c), (0, v1), (0, v2)] sh pt h (fun r2 h1 => (qI (v1 - 1)) ∧ RunI X d mX0_eastOf [(2, c), (0, (v1 - 1)), (0, v2)] sh pt h1 (fun r4 h3 => (qI (r2 - r4)) ∧ RunI X d mX0_northOf [(2, c), (0, v1), (0, v2)] sh pt h3 (fun r6 h5 => (qI (v1 - 1)) ∧ RunI X d mX0_northOf [(2, c), (0, (v1 - 1)), (0, v2)] sh pt h5 (fun r8 h7 => (qI (r6 - r8)) ∧ (qI ((r2 - r4) * (r2 - r4))) ∧ (qI ((r6 - r8) * (r6 - r8))) ∧ (qI (((r2 - r4) * (r2 - r4)) + ((r6 - r8) * (r6 - r8)))) ∧ K (((r2 - r4) * (r2 - r4)) + ((r6 - r8) * (r6 - r8))) h7))))) :
    RunI X (d + 1) mX0_stepSquare [(2, c), (0, v1), (0, v2)] sh pt h K := by
  show Ev X (d + 1) 0 0 mX0_stepSquare 0 [(2, c), (0, v1), (0, v2), (8, -1), (8, -1)] [] (sh, pt, h) (qRI sh pt K)
  refine ev_aload_n 1 rfl dX0_stepSquare_0 rfl rfl ?_
  refine ev_iload_n 2 rfl dX0_stepSquare_1 rfl rfl ?_
  refine ev_iload_n 3 rfl dX0_stepSquare_2 rfl rfl ?_
  refine ev_cVI (As := [(0, v1), (0, v2)]) (rest := []) 6 rfl dX0_stepSquare_3 lm_0_66 mm_X0_eastOf (sC hst hc) rfl rfl (Nat.le_of_ble_eq_true rfl) (Nat.le_of_ble_eq_true rfl) (Nat.le_refl _) H ?_
  intro r2 h1 H
  refine ev_aload_n 7 rfl dX0_stepSquare_6 rfl rfl ?_
  refine ev_iload_n 8 rfl dX0_stepSquare_7 rfl rfl ?_
  refine ev_iconst 9 rfl dX0_stepSquare_8 (by decide) ?_
  obtain ⟨sd, H⟩ := H
  refine ev_isub 10 rfl dX0_stepSquare_9 sd ?_
  refine ev_iload_n 11 rfl dX0_stepSquare_10 rfl rfl ?_
  refine ev_cVI (As := [(0, (v1 - 1)), (0, v2)]) (rest := [(0, r2)]) 14 rfl dX0_stepSquare_11 lm_0_66 mm_X0_eastOf (sC hst hc) rfl rfl (Nat.le_of_ble_eq_true rfl) (Nat.le_of_ble_eq_true rfl) (Nat.le_refl _) H ?_
  intro r4 h3 H
  obtain ⟨sd, H⟩ := H
  refine ev_isub 15 rfl dX0_stepSquare_14 sd ?_
  refine ev_istore_n (L1 := [(2, c), (0, v1), (0, v2), (0, (r2 - r4)), (8, -1)]) 16 rfl dX0_stepSquare_15 rfl (Nat.le_of_ble_eq_true rfl) rfl ?_
  refine ev_aload_n 17 rfl dX0_stepSquare_16 rfl rfl ?_
  refine ev_iload_n 18 rfl dX0_stepSquare_17 rfl rfl ?_
  refine ev_iload_n 19 rfl dX0_stepSquare_18 rfl rfl ?_
  refine ev_cVI (As := [(0, v1), (0, v2)]) (rest := []) 22 rfl dX0_stepSquare_19 lm_0_69 mm_X0_northOf (sC hst hc) rfl rfl (Nat.le_of_ble_eq_true rfl) (Nat.le_of_ble_eq_true rfl) (Nat.le_refl _) H ?_
  intro r6 h5 H
  refine ev_aload_n 23 rfl dX0_stepSquare_22 rfl rfl ?_
  refine ev_iload_n 24 rfl dX0_stepSquare_23 rfl rfl ?_
  refine ev_iconst 25 rfl dX0_stepSquare_24 (by decide) ?_
  obtain ⟨sd, H⟩ := H
  refine ev_isub 26 rfl dX0_stepSquare_25 sd ?_
  refine ev_iload_n 27 rfl dX0_stepSquare_26 rfl rfl ?_
  refine ev_cVI (As := [(0, (v1 - 1)), (0, v2)]) (rest := [(0, r6)]) 30 rfl dX0_stepSquare_27 lm_0_69 mm_X0_northOf (sC hst hc) rfl rfl (Nat.le_of_ble_eq_true rfl) (Nat.le_of_ble_eq_true rfl) (Nat.le_refl _) H ?_
  intro r8 h7 H
  obtain ⟨sd, H⟩ := H
  refine ev_isub 31 rfl dX0_stepSquare_30 sd ?_
  refine ev_istore (L1 := [(2, c), (0, v1), (0, v2), (0, (r2 - r4)), (0, (r6 - r8))]) 33 rfl dX0_stepSquare_31 (Nat.le_of_ble_eq_true rfl) rfl ?_
  refine ev_iload_n 34 rfl dX0_stepSquare_33 rfl rfl ?_
  refine ev_iload_n 35 rfl dX0_stepSquare_34 rfl rfl ?_
  obtain ⟨sd, H⟩ := H
  refine ev_imul 36 rfl dX0_stepSquare_35 sd ?_
  refine ev_iload 38 rfl dX0_stepSquare_36 rfl ?_
  refine ev_iload 40 rfl dX0_stepSquare_38 rfl ?_
  obtain ⟨sd, H⟩ := H
  refine ev_imul 41 rfl dX0_stepSquare_40 sd ?_
  obtain ⟨sd, H⟩ := H
  refine ev_iadd 42 rfl dX0_stepSquare_41 sd ?_
  exact ev_retI dX0_stepSquare_42 rfl H

set_option maxRecDepth 20000 in
theorem b_X0_isDressed {X : qX} {d : Nat} {sh : qS} {pt h : qM} {K : Int → qM → Prop} {c v1 v2 : Int} (hst : St sh pt) (hc : isC c)
    (H : EvI X (d + 1) mX0_isDressed 14 [(2, c), (0, v1), (0, v2), (0, 0), (0, 0), (0, 0), (0, 0), (0, 0), (8, -1), (8, -1)] [] sh pt h K) :
    RunI X (d + 1) mX0_isDressed [(2, c), (0, v1), (0, v2)] sh pt h K := by
  show Ev X (d + 1) 0 0 mX0_isDressed 0 [(2, c), (0, v1), (0, v2), (8, -1), (8, -1), (8, -1), (8, -1), (8, -1), (8, -1), (8, -1)] [] (sh, pt, h) (qRI sh pt K)
  refine ev_iconst 1 rfl dX0_isDressed_0 (by decide) ?_
  refine ev_istore_n (L1 := [(2, c), (0, v1), (0, v2), (0, 0), (8, -1), (8, -1), (8, -1), (8, -1), (8, -1), (8, -1)]) 2 rfl dX0_isDressed_1 rfl (Nat.le_of_ble_eq_true rfl) rfl ?_
  refine ev_iconst 3 rfl dX0_isDressed_2 (by decide) ?_
  refine ev_istore (L1 := [(2, c), (0, v1), (0, v2), (0, 0), (0, 0), (8, -1), (8, -1), (8, -1), (8, -1), (8, -1)]) 5 rfl dX0_isDressed_3 (Nat.le_of_ble_eq_true rfl) rfl ?_
  refine ev_iconst 6 rfl dX0_isDressed_5 (by decide) ?_
  refine ev_istore (L1 := [(2, c), (0, v1), (0, v2), (0, 0), (0, 0), (0, 0), (8, -1), (8, -1), (8, -1), (8, -1)]) 8 rfl dX0_isDressed_6 (Nat.le_of_ble_eq_true rfl) rfl ?_
  refine ev_iconst 9 rfl dX0_isDressed_8 (by decide) ?_
  refine ev_istore (L1 := [(2, c), (0, v1), (0, v2), (0, 0), (0, 0), (0, 0), (0, 0), (8, -1), (8, -1), (8, -1)]) 11 rfl dX0_isDressed_9 (Nat.le_of_ble_eq_true rfl) rfl ?_
  refine ev_iconst 12 rfl dX0_isDressed_11 (by decide) ?_
  refine ev_istore (L1 := [(2, c), (0, v1), (0, v2), (0, 0), (0, 0), (0, 0), (0, 0), (0, 0), (8, -1), (8, -1)]) 14 rfl dX0_isDressed_12 (Nat.le_of_ble_eq_true rfl) rfl ?_
  exact H

set_option maxRecDepth 20000 in
theorem b_X0_isDressed_14 {X : qX} {d : Nat} {sh : qS} {pt h : qM} {K : Int → qM → Prop} {c v1 v2 v3 v4 v5 v6 v7 : Int} (hst : St sh pt) (hc : isC c)
    (H : (((h c 4) ≤ v7 → K 1 h) ∧ (v7 < (h c 4) → (((qiand (qiushr v1 v7) 1) = 0 → (qI (v7 + 1)) ∧ EvI X (d + 1) mX0_isDressed 14 [(2, c), (0, v1), (0, v2), (0, v3), (0, v4), (0, v5), (0, v6), (0, (v7 + 1)), (8, -1), (8, -1)] [] sh pt h K) ∧ (¬ (qiand (qiushr v1 v7) 1) = 0 → RunI X d mX0_eastOf [(2, c), (0, v2), (0, v7)] sh pt h (fun r2 h1 => RunI X d mX0_eastOf [(2, c), (0, v2), (0, v4)] sh pt h1 (fun r4 h3 => (qI (r2 - r4)) ∧ RunI X d mX0_northOf [(2, c), (0, v2), (0, v7)] sh pt h3 (fun r6 h5 => RunI X d mX0_northOf [(2, c), (0, v2), (0, v4)] sh pt h5 (fun r8 h7 => (qI (r6 - r8)) ∧ ((¬ v3 = 1 → ((v3 ≤ 1 → (qI (v3 + 1)) ∧ (qI (v7 + 1)) ∧ EvI X (d + 1) mX0_isDressed 14 [(2, c), (0, v1), (0, v2), (0, (v3 + 1)), (0, v7), (0, v5), (0, v6), (0, (v7 + 1)), (8, -1), (8, -1)] [] sh pt h7 K) ∧ (1 < v3 → ((¬ (r2 - r4) = v5 → K 0 h7) ∧ ((r2 - r4) = v5 → (((r6 - r8) = v6 → (qI (v3 + 1)) ∧ (qI (v7 + 1)) ∧ EvI X (d + 1) mX0_isDressed 14 [(2, c), (0, v1), (0, v2), (0, (v3 + 1)), (0, v7), (0, v5), (0, v6), (0, (v7 + 1)), (8, -1), (8, -1)] [] sh pt h7 K) ∧ (¬ (r6 - r8) = v6 → K 0 h7))))))) ∧ (v3 = 1 → (qI (v3 + 1)) ∧ (qI (v7 + 1)) ∧ EvI X (d + 1) mX0_isDressed 14 [(2, c), (0, v1), (0, v2), (0, (v3 + 1)), (0, v7), (0, (r2 - r4)), (0, (r6 - r8)), (0, (v7 + 1)), (8, -1), (8, -1)] [] sh pt h7 K))))))))))) :
    EvI X (d + 1) mX0_isDressed 14 [(2, c), (0, v1), (0, v2), (0, v3), (0, v4), (0, v5), (0, v6), (0, v7), (8, -1), (8, -1)] [] sh pt h K := by
  show Ev X (d + 1) 0 0 mX0_isDressed 14 [(2, c), (0, v1), (0, v2), (0, v3), (0, v4), (0, v5), (0, v6), (0, v7), (8, -1), (8, -1)] [] (sh, pt, h) (qRI sh pt K)
  refine ev_iload 16 rfl dX0_isDressed_14 rfl ?_
  refine ev_aload_n 17 rfl dX0_isDressed_16 rfl rfl ?_
  refine ev_getI (ki := 4) 20 rfl dX0_isDressed_17 lf_0_27 (Or.inl rfl) (sC hst hc) (by decide) rfl ?_
  refine ev_icmp_ge (tgt := 116) 23 rfl dX0_isDressed_20 (by decide) (fun cd => ?_) (fun cd => ?_)
  · have H := H.1 cd
    refine ev_iconst 117 rfl dX0_isDressed_116 (by decide) ?_
    exact ev_retZ dX0_isDressed_117 rfl (by decide) H
  · have H := H.2 cd
    refine ev_iload_n 24 rfl dX0_isDressed_23 rfl rfl ?_
    refine ev_iload 26 rfl dX0_isDressed_24 rfl ?_
    refine ev_iushr 27 rfl dX0_isDressed_26 ?_
    refine ev_iconst 28 rfl dX0_isDressed_27 (by decide) ?_
    refine ev_iand 29 rfl dX0_isDressed_28 ?_
    refine ev_if_eq (tgt := 110) 32 rfl dX0_isDressed_29 (by decide) (fun cd => ?_) (fun cd => ?_)
    · have H := H.1 cd
      obtain ⟨sd, H⟩ := H
      refine ev_iinc (L1 := [(2, c), (0, v1), (0, v2), (0, v3), (0, v4), (0, v5), (0, v6), (0, (v7 + 1)), (8, -1), (8, -1)]) 113 rfl dX0_isDressed_110 rfl sd (Nat.le_of_ble_eq_true rfl) rfl ?_
      refine ev_goto (tgt := 14) dX0_isDressed_113 (by decide) ?_
      exact H
    · have H := H.2 cd
      refine ev_aload_n 33 rfl dX0_isDressed_32 rfl rfl ?_
      refine ev_iload_n 34 rfl dX0_isDressed_33 rfl rfl ?_
      refine ev_iload 36 rfl dX0_isDressed_34 rfl ?_
      refine ev_cVI (As := [(0, v2), (0, v7)]) (rest := []) 39 rfl dX0_isDressed_36 lm_0_66 mm_X0_eastOf (sC hst hc) rfl rfl (Nat.le_of_ble_eq_true rfl) (Nat.le_of_ble_eq_true rfl) (Nat.le_refl _) H ?_
      intro r2 h1 H
      refine ev_aload_n 40 rfl dX0_isDressed_39 rfl rfl ?_
      refine ev_iload_n 41 rfl dX0_isDressed_40 rfl rfl ?_
      refine ev_iload 43 rfl dX0_isDressed_41 rfl ?_
      refine ev_cVI (As := [(0, v2), (0, v4)]) (rest := [(0, r2)]) 46 rfl dX0_isDressed_43 lm_0_66 mm_X0_eastOf (sC hst hc) rfl rfl (Nat.le_of_ble_eq_true rfl) (Nat.le_of_ble_eq_true rfl) (Nat.le_refl _) H ?_
      intro r4 h3 H
      obtain ⟨sd, H⟩ := H
      refine ev_isub 47 rfl dX0_isDressed_46 sd ?_
      refine ev_istore (L1 := [(2, c), (0, v1), (0, v2), (0, v3), (0, v4), (0, v5), (0, v6), (0, v7), (0, (r2 - r4)), (8, -1)]) 49 rfl dX0_isDressed_47 (Nat.le_of_ble_eq_true rfl) rfl ?_
      refine ev_aload_n 50 rfl dX0_isDressed_49 rfl rfl ?_
      refine ev_iload_n 51 rfl dX0_isDressed_50 rfl rfl ?_
      refine ev_iload 53 rfl dX0_isDressed_51 rfl ?_
      refine ev_cVI (As := [(0, v2), (0, v7)]) (rest := []) 56 rfl dX0_isDressed_53 lm_0_69 mm_X0_northOf (sC hst hc) rfl rfl (Nat.le_of_ble_eq_true rfl) (Nat.le_of_ble_eq_true rfl) (Nat.le_refl _) H ?_
      intro r6 h5 H
      refine ev_aload_n 57 rfl dX0_isDressed_56 rfl rfl ?_
      refine ev_iload_n 58 rfl dX0_isDressed_57 rfl rfl ?_
      refine ev_iload 60 rfl dX0_isDressed_58 rfl ?_
      refine ev_cVI (As := [(0, v2), (0, v4)]) (rest := [(0, r6)]) 63 rfl dX0_isDressed_60 lm_0_69 mm_X0_northOf (sC hst hc) rfl rfl (Nat.le_of_ble_eq_true rfl) (Nat.le_of_ble_eq_true rfl) (Nat.le_refl _) H ?_
      intro r8 h7 H
      obtain ⟨sd, H⟩ := H
      refine ev_isub 64 rfl dX0_isDressed_63 sd ?_
      refine ev_istore (L1 := [(2, c), (0, v1), (0, v2), (0, v3), (0, v4), (0, v5), (0, v6), (0, v7), (0, (r2 - r4)), (0, (r6 - r8))]) 66 rfl dX0_isDressed_64 (Nat.le_of_ble_eq_true rfl) rfl ?_
      refine ev_iload_n 67 rfl dX0_isDressed_66 rfl rfl ?_
      refine ev_iconst 68 rfl dX0_isDressed_67 (by decide) ?_
      refine ev_icmp_ne (tgt := 82) 71 rfl dX0_isDressed_68 (by decide) (fun cd => ?_) (fun cd => ?_)
      · have H := H.1 cd
        refine ev_iload_n 83 rfl dX0_isDressed_82 rfl rfl ?_
        refine ev_iconst 84 rfl dX0_isDressed_83 (by decide) ?_
        refine ev_icmp_le (tgt := 103) 87 rfl dX0_isDressed_84 (by decide) (fun cd => ?_) (fun cd => ?_)
        · have H := H.1 cd
          obtain ⟨sd, H⟩ := H
          refine ev_iinc (L1 := [(2, c), (0, v1), (0, v2), (0, (v3 + 1)), (0, v4), (0, v5), (0, v6), (0, v7), (0, (r2 - r4)), (0, (r6 - r8))]) 106 rfl dX0_isDressed_103 rfl sd (Nat.le_of_ble_eq_true rfl) rfl ?_
          refine ev_iload 108 rfl dX0_isDressed_106 rfl ?_
          refine ev_istore (L1 := [(2, c), (0, v1), (0, v2), (0, (v3 + 1)), (0, v7), (0, v5), (0, v6), (0, v7), (0, (r2 - r4)), (0, (r6 - r8))]) 110 rfl dX0_isDressed_108 (Nat.le_of_ble_eq_true rfl) rfl ?_
          obtain ⟨sd, H⟩ := H
          refine ev_iinc (L1 := [(2, c), (0, v1), (0, v2), (0, (v3 + 1)), (0, v7), (0, v5), (0, v6), (0, (v7 + 1)), (0, (r2 - r4)), (0, (r6 - r8))]) 113 rfl dX0_isDressed_110 rfl sd (Nat.le_of_ble_eq_true rfl) rfl ?_
          refine ev_goto (tgt := 14) dX0_isDressed_113 (by decide) ?_
          refine Ev.drop [8, 9] rfl ?_
          exact H
        · have H := H.2 cd
          refine ev_iload 89 rfl dX0_isDressed_87 rfl ?_
          refine ev_iload 91 rfl dX0_isDressed_89 rfl ?_
          refine ev_icmp_ne (tgt := 101) 94 rfl dX0_isDressed_91 (by decide) (fun cd => ?_) (fun cd => ?_)
          · have H := H.1 cd
            refine ev_iconst 102 rfl dX0_isDressed_101 (by decide) ?_
            exact ev_retZ dX0_isDressed_102 rfl (by decide) H
          · have H := H.2 cd
            refine ev_iload 96 rfl dX0_isDressed_94 rfl ?_
            refine ev_iload 98 rfl dX0_isDressed_96 rfl ?_
            refine ev_icmp_eq (tgt := 103) 101 rfl dX0_isDressed_98 (by decide) (fun cd => ?_) (fun cd => ?_)
            · have H := H.1 cd
              obtain ⟨sd, H⟩ := H
              refine ev_iinc (L1 := [(2, c), (0, v1), (0, v2), (0, (v3 + 1)), (0, v4), (0, v5), (0, v6), (0, v7), (0, (r2 - r4)), (0, (r6 - r8))]) 106 rfl dX0_isDressed_103 rfl sd (Nat.le_of_ble_eq_true rfl) rfl ?_
              refine ev_iload 108 rfl dX0_isDressed_106 rfl ?_
              refine ev_istore (L1 := [(2, c), (0, v1), (0, v2), (0, (v3 + 1)), (0, v7), (0, v5), (0, v6), (0, v7), (0, (r2 - r4)), (0, (r6 - r8))]) 110 rfl dX0_isDressed_108 (Nat.le_of_ble_eq_true rfl) rfl ?_
              obtain ⟨sd, H⟩ := H
              refine ev_iinc (L1 := [(2, c), (0, v1), (0, v2), (0, (v3 + 1)), (0, v7), (0, v5), (0, v6), (0, (v7 + 1)), (0, (r2 - r4)), (0, (r6 - r8))]) 113 rfl dX0_isDressed_110 rfl sd (Nat.le_of_ble_eq_true rfl) rfl ?_
              refine ev_goto (tgt := 14) dX0_isDressed_113 (by decide) ?_
              refine Ev.drop [8, 9] rfl ?_
              exact H
            · have H := H.2 cd
              refine ev_iconst 102 rfl dX0_isDressed_101 (by decide) ?_
              exact ev_retZ dX0_isDressed_102 rfl (by decide) H
      · have H := H.2 cd
        refine ev_iload 73 rfl dX0_isDressed_71 rfl ?_
        refine ev_istore (L1 := [(2, c), (0, v1), (0, v2), (0, v3), (0, v4), (0, (r2 - r4)), (0, v6), (0, v7), (0, (r2 - r4)), (0, (r6 - r8))]) 75 rfl dX0_isDressed_73 (Nat.le_of_ble_eq_true rfl) rfl ?_
        refine ev_iload 77 rfl dX0_isDressed_75 rfl ?_
        refine ev_istore (L1 := [(2, c), (0, v1), (0, v2), (0, v3), (0, v4), (0, (r2 - r4)), (0, (r6 - r8)), (0, v7), (0, (r2 - r4)), (0, (r6 - r8))]) 79 rfl dX0_isDressed_77 (Nat.le_of_ble_eq_true rfl) rfl ?_
        refine ev_goto (tgt := 103) dX0_isDressed_79 (by decide) ?_
        obtain ⟨sd, H⟩ := H
        refine ev_iinc (L1 := [(2, c), (0, v1), (0, v2), (0, (v3 + 1)), (0, v4), (0, (r2 - r4)), (0, (r6 - r8)), (0, v7), (0, (r2 - r4)), (0, (r6 - r8))]) 106 rfl dX0_isDressed_103 rfl sd (Nat.le_of_ble_eq_true rfl) rfl ?_
        refine ev_iload 108 rfl dX0_isDressed_106 rfl ?_
        refine ev_istore (L1 := [(2, c), (0, v1), (0, v2), (0, (v3 + 1)), (0, v7), (0, (r2 - r4)), (0, (r6 - r8)), (0, v7), (0, (r2 - r4)), (0, (r6 - r8))]) 110 rfl dX0_isDressed_108 (Nat.le_of_ble_eq_true rfl) rfl ?_
        obtain ⟨sd, H⟩ := H
        refine ev_iinc (L1 := [(2, c), (0, v1), (0, v2), (0, (v3 + 1)), (0, v7), (0, (r2 - r4)), (0, (r6 - r8)), (0, (v7 + 1)), (0, (r2 - r4)), (0, (r6 - r8))]) 113 rfl dX0_isDressed_110 rfl sd (Nat.le_of_ble_eq_true rfl) rfl ?_
        refine ev_goto (tgt := 14) dX0_isDressed_113 (by decide) ?_
        refine Ev.drop [8, 9] rfl ?_
        exact H

set_option maxRecDepth 20000 in
theorem b_X0_likeness {X : qX} {d : Nat} {sh : qS} {pt h : qM} {K : Int → qM → Prop} {c v1 v2 : Int} (hst : St sh pt) (hc : isC c)
    (H : RunV X d mX0_layFigure [(2, c), (2, (c + 3)), (0, v2), (0, 0)] sh pt h (fun h1 => EvI X (d + 1) mX0_likeness 12 [(2, c), (0, v1), (8, -1), (0, 0)] [] sh pt h1 K)) :
    RunI X (d + 1) mX0_likeness [(2, c), (0, v1), (0, v2)] sh pt h K := by
  show Ev X (d + 1) 0 0 mX0_likeness 0 [(2, c), (0, v1), (0, v2), (8, -1)] [] (sh, pt, h) (qRI sh pt K)
  refine ev_aload_n 1 rfl dX0_likeness_0 rfl rfl ?_
  refine ev_aload_n 2 rfl dX0_likeness_1 rfl rfl ?_
  refine ev_getR (ki := 2) (v := (c + 3)) 5 rfl dX0_likeness_2 lf_0_20 (sC hst hc) (by decide) rfl (pC2 hst hc) ?_
  refine ev_iload_n 6 rfl dX0_likeness_5 rfl rfl ?_
  refine ev_iconst 7 rfl dX0_likeness_6 (by decide) ?_
  refine ev_cVV (As := [(2, (c + 3)), (0, v2), (0, 0)]) (rest := []) 10 rfl dX0_likeness_7 lm_0_83 mm_X0_layFigure (sC hst hc) rfl rfl (Nat.le_of_ble_eq_true rfl) (Nat.le_of_ble_eq_true rfl) (Nat.le_refl _) H ?_
  intro h1 H
  refine ev_iconst 11 rfl dX0_likeness_10 (by decide) ?_
  refine ev_istore_n (L1 := [(2, c), (0, v1), (0, v2), (0, 0)]) 12 rfl dX0_likeness_11 rfl (Nat.le_of_ble_eq_true rfl) rfl ?_
  refine Ev.drop [2] rfl ?_
  exact H

set_option maxRecDepth 20000 in
theorem b_X0_likeness_12 {X : qX} {d : Nat} {sh : qS} {pt h : qM} {K : Int → qM → Prop} {c v1 v3 : Int} (hst : St sh pt) (hc : isC c)
    (H : ((8 ≤ v3 → K (-1) h) ∧ (v3 < 8 → RunV X d mX0_layFigure [(2, c), (2, (c + 2)), (0, v1), (0, v3)] sh pt h (fun h1 => RunI X d mX0_sameFigure [(2, c)] sh pt h1 (fun r3 h2 => ((r3 = 0 → (qI (v3 + 1)) ∧ EvI X (d + 1) mX0_likeness 12 [(2, c), (0, v1), (8, -1), (0, (v3 + 1))] [] sh pt h2 K) ∧ (¬ r3 = 0 → K v3 h2))))))) :
    EvI X (d + 1) mX0_likeness 12 [(2, c), (0, v1), (8, -1), (0, v3)] [] sh pt h K := by
  show Ev X (d + 1) 0 0 mX0_likeness 12 [(2, c), (0, v1), (8, -1), (0, v3)] [] (sh, pt, h) (qRI sh pt K)
  refine ev_iload_n 13 rfl dX0_likeness_12 rfl rfl ?_
  refine ev_bipush 15 rfl dX0_likeness_13 (by decide) (by decide) ?_
  refine ev_icmp_ge (tgt := 43) 18 rfl dX0_likeness_15 (by decide) (fun cd => ?_) (fun cd => ?_)
  · have H := H.1 cd
    refine ev_iconst 44 rfl dX0_likeness_43 (by decide) ?_
    exact ev_retI dX0_likeness_44 rfl H
  · have H := H.2 cd
    refine ev_aload_n 19 rfl dX0_likeness_18 rfl rfl ?_
    refine ev_aload_n 20 rfl dX0_likeness_19 rfl rfl ?_
    refine ev_getR (ki := 1) (v := (c + 2)) 23 rfl dX0_likeness_20 lf_0_17 (sC hst hc) (by decide) rfl (pC1 hst hc) ?_
    refine ev_iload_n 24 rfl dX0_likeness_23 rfl rfl ?_
    refine ev_iload_n 25 rfl dX0_likeness_24 rfl rfl ?_
    refine ev_cVV (As := [(2, (c + 2)), (0, v1), (0, v3)]) (rest := []) 28 rfl dX0_likeness_25 lm_0_83 mm_X0_layFigure (sC hst hc) rfl rfl (Nat.le_of_ble_eq_true rfl) (Nat.le_of_ble_eq_true rfl) (Nat.le_refl _) H ?_
    intro h1 H
    refine ev_aload_n 29 rfl dX0_likeness_28 rfl rfl ?_
    refine ev_cVI (As := []) (rest := []) 32 rfl dX0_likeness_29 lm_0_87 mm_X0_sameFigure (sC hst hc) rfl rfl (Nat.le_of_ble_eq_true rfl) (Nat.le_of_ble_eq_true rfl) (Nat.le_refl _) H ?_
    intro r3 h2 H
    refine ev_if_eq (tgt := 37) 35 rfl dX0_likeness_32 (by decide) (fun cd => ?_) (fun cd => ?_)
    · have H := H.1 cd
      obtain ⟨sd, H⟩ := H
      refine ev_iinc (L1 := [(2, c), (0, v1), (8, -1), (0, (v3 + 1))]) 40 rfl dX0_likeness_37 rfl sd (Nat.le_of_ble_eq_true rfl) rfl ?_
      refine ev_goto (tgt := 12) dX0_likeness_40 (by decide) ?_
      exact H
    · have H := H.2 cd
      refine ev_iload_n 36 rfl dX0_likeness_35 rfl rfl ?_
      exact ev_retI dX0_likeness_36 rfl H

set_option maxRecDepth 20000 in
theorem b_X0_sameFigure {X : qX} {d : Nat} {sh : qS} {pt h : qM} {K : Int → qM → Prop} {c : Int} (hst : St sh pt) (hc : isC c)
    (H : EvI X d mX0_sameFigure 2 [(2, c), (0, 0)] [] sh pt h K) :
    RunI X d mX0_sameFigure [(2, c)] sh pt h K := by
  show Ev X d 0 0 mX0_sameFigure 0 [(2, c), (8, -1)] [] (sh, pt, h) (qRI sh pt K)
  refine ev_iconst 1 rfl dX0_sameFigure_0 (by decide) ?_
  refine ev_istore_n (L1 := [(2, c), (0, 0)]) 2 rfl dX0_sameFigure_1 rfl (Nat.le_of_ble_eq_true rfl) rfl ?_
  exact H

set_option maxRecDepth 20000 in
theorem b_X0_sameFigure_2 {X : qX} {d : Nat} {sh : qS} {pt h : qM} {K : Int → qM → Prop} {c v1 : Int} (hst : St sh pt) (hc : isC c)
    (H : (((h c 4) ≤ v1 → K 1 h) ∧ (v1 < (h c 4) → (0 ≤ v1 ∧ v1 < 20) ∧ (0 ≤ v1 ∧ v1 < 20) ∧ (((h (c + 2) v1) = (h (c + 3) v1) → (qI (v1 + 1)) ∧ EvI X d mX0_sameFigure 2 [(2, c), (0, (v1 + 1))] [] sh pt h K) ∧ (¬ (h (c + 2) v1) = (h (c + 3) v1) → K 0 h))))) :
    EvI X d mX0_sameFigure 2 [(2, c), (0, v1)] [] sh pt h K := by
  show Ev X d 0 0 mX0_sameFigure 2 [(2, c), (0, v1)] [] (sh, pt, h) (qRI sh pt K)
  refine ev_iload_n 3 rfl dX0_sameFigure_2 rfl rfl ?_
  refine ev_aload_n 4 rfl dX0_sameFigure_3 rfl rfl ?_
  refine ev_getI (ki := 4) 7 rfl dX0_sameFigure_4 lf_0_27 (Or.inl rfl) (sC hst hc) (by decide) rfl ?_
  refine ev_icmp_ge (tgt := 33) 10 rfl dX0_sameFigure_7 (by decide) (fun cd => ?_) (fun cd => ?_)
  · have H := H.1 cd
    refine ev_iconst 34 rfl dX0_sameFigure_33 (by decide) ?_
    exact ev_retZ dX0_sameFigure_34 rfl (by decide) H
  · have H := H.2 cd
    refine ev_aload_n 11 rfl dX0_sameFigure_10 rfl rfl ?_
    refine ev_getR (ki := 1) (v := (c + 2)) 14 rfl dX0_sameFigure_11 lf_0_17 (sC hst hc) (by decide) rfl (pC1 hst hc) ?_
    refine ev_iload_n 15 rfl dX0_sameFigure_14 rfl rfl ?_
    obtain ⟨b1, H⟩ := H
    refine ev_iaload 16 rfl dX0_sameFigure_15 (sC1 hst hc) b1.1 b1.2 ?_
    refine ev_aload_n 17 rfl dX0_sameFigure_16 rfl rfl ?_
    refine ev_getR (ki := 2) (v := (c + 3)) 20 rfl dX0_sameFigure_17 lf_0_20 (sC hst hc) (by decide) rfl (pC2 hst hc) ?_
    refine ev_iload_n 21 rfl dX0_sameFigure_20 rfl rfl ?_
    obtain ⟨b2, H⟩ := H
    refine ev_iaload 22 rfl dX0_sameFigure_21 (sC2 hst hc) b2.1 b2.2 ?_
    refine ev_icmp_eq (tgt := 27) 25 rfl dX0_sameFigure_22 (by decide) (fun cd => ?_) (fun cd => ?_)
    · have H := H.1 cd
      obtain ⟨sd, H⟩ := H
      refine ev_iinc (L1 := [(2, c), (0, (v1 + 1))]) 30 rfl dX0_sameFigure_27 rfl sd (Nat.le_of_ble_eq_true rfl) rfl ?_
      refine ev_goto (tgt := 2) dX0_sameFigure_30 (by decide) ?_
      exact H
    · have H := H.2 cd
      refine ev_iconst 26 rfl dX0_sameFigure_25 (by decide) ?_
      exact ev_retZ dX0_sameFigure_26 rfl (by decide) H

set_option maxRecDepth 20000 in
theorem b_X0_layFigure {X : qX} {d : Nat} {sh : qS} {pt h : qM} {K : qM → Prop} {c v1 v2 v3 n1 : Int} (hst : St sh pt) (hc : isC c) (ha1 : qsh sh v1 = some (0, n1))
    (H : EvV X (d + 1) mX0_layFigure 11 [(2, c), (2, v1), (0, v2), (0, v3), (0, 60), (0, 60), (0, 0), (8, -1), (8, -1)] [] sh pt h K) :
    RunV X (d + 1) mX0_layFigure [(2, c), (2, v1), (0, v2), (0, v3)] sh pt h K := by
  show Ev X (d + 1) 0 0 mX0_layFigure 0 [(2, c), (2, v1), (0, v2), (0, v3), (8, -1), (8, -1), (8, -1), (8, -1), (8, -1)] [] (sh, pt, h) (qRV sh pt K)
  refine ev_bipush 2 rfl dX0_layFigure_0 (by decide) (by decide) ?_
  refine ev_istore (L1 := [(2, c), (2, v1), (0, v2), (0, v3), (0, 60), (8, -1), (8, -1), (8, -1), (8, -1)]) 4 rfl dX0_layFigure_2 (Nat.le_of_ble_eq_true rfl) rfl ?_
  refine ev_bipush 6 rfl dX0_layFigure_4 (by decide) (by decide) ?_
  refine ev_istore (L1 := [(2, c), (2, v1), (0, v2), (0, v3), (0, 60), (0, 60), (8, -1), (8, -1), (8, -1)]) 8 rfl dX0_layFigure_6 (Nat.le_of_ble_eq_true rfl) rfl ?_
  refine ev_iconst 9 rfl dX0_layFigure_8 (by decide) ?_
  refine ev_istore (L1 := [(2, c), (2, v1), (0, v2), (0, v3), (0, 60), (0, 60), (0, 0), (8, -1), (8, -1)]) 11 rfl dX0_layFigure_9 (Nat.le_of_ble_eq_true rfl) rfl ?_
  exact H

set_option maxRecDepth 20000 in
theorem b_X0_layFigure_11 {X : qX} {d : Nat} {sh : qS} {pt h : qM} {K : qM → Prop} {c v1 v2 v3 v4 v5 v6 n1 : Int} (hst : St sh pt) (hc : isC c) (ha1 : qsh sh v1 = some (0, n1))
    (H : (((h c 4) ≤ v6 → EvV X (d + 1) mX0_layFigure 59 [(2, c), (2, v1), (0, v2), (0, v3), (0, v4), (0, v5), (0, 0), (8, -1), (8, -1)] [] sh pt h K) ∧ (v6 < (h c 4) → RunI X d mX0_movedEast [(2, c), (0, v2), (0, v6), (0, v3)] sh pt h (fun r2 h1 => RunI X d mJ9_min_7cf53 [(0, v4), (0, r2)] sh pt h1 (fun r4 h3 => RunI X d mX0_movedNorth [(2, c), (0, v2), (0, v6), (0, v3)] sh pt h3 (fun r6 h5 => RunI X d mJ9_min_7cf53 [(0, v5), (0, r6)] sh pt h5 (fun r8 h7 => (qI (v6 + 1)) ∧ EvV X (d + 1) mX0_layFigure 11 [(2, c), (2, v1), (0, v2), (0, v3), (0, r4), (0, r8), (0, (v6 + 1)), (8, -1), (8, -1)] [] sh pt h7 K))))))) :
    EvV X (d + 1) mX0_layFigure 11 [(2, c), (2, v1), (0, v2), (0, v3), (0, v4), (0, v5), (0, v6), (8, -1), (8, -1)] [] sh pt h K := by
  show Ev X (d + 1) 0 0 mX0_layFigure 11 [(2, c), (2, v1), (0, v2), (0, v3), (0, v4), (0, v5), (0, v6), (8, -1), (8, -1)] [] (sh, pt, h) (qRV sh pt K)
  refine ev_iload 13 rfl dX0_layFigure_11 rfl ?_
  refine ev_aload_n 14 rfl dX0_layFigure_13 rfl rfl ?_
  refine ev_getI (ki := 4) 17 rfl dX0_layFigure_14 lf_0_27 (Or.inl rfl) (sC hst hc) (by decide) rfl ?_
  refine ev_icmp_ge (tgt := 56) 20 rfl dX0_layFigure_17 (by decide) (fun cd => ?_) (fun cd => ?_)
  · have H := H.1 cd
    refine ev_iconst 57 rfl dX0_layFigure_56 (by decide) ?_
    refine ev_istore (L1 := [(2, c), (2, v1), (0, v2), (0, v3), (0, v4), (0, v5), (0, 0), (8, -1), (8, -1)]) 59 rfl dX0_layFigure_57 (Nat.le_of_ble_eq_true rfl) rfl ?_
    exact H
  · have H := H.2 cd
    refine ev_iload 22 rfl dX0_layFigure_20 rfl ?_
    refine ev_aload_n 23 rfl dX0_layFigure_22 rfl rfl ?_
    refine ev_iload_n 24 rfl dX0_layFigure_23 rfl rfl ?_
    refine ev_iload 26 rfl dX0_layFigure_24 rfl ?_
    refine ev_iload_n 27 rfl dX0_layFigure_26 rfl rfl ?_
    refine ev_cVI (As := [(0, v2), (0, v6), (0, v3)]) (rest := [(0, v4)]) 30 rfl dX0_layFigure_27 lm_0_91 mm_X0_movedEast (sC hst hc) rfl rfl (Nat.le_of_ble_eq_true rfl) (Nat.le_of_ble_eq_true rfl) (Nat.le_refl _) H ?_
    intro r2 h1 H
    refine ev_cSI (As := [(0, v4), (0, r2)]) (rest := []) 33 rfl dX0_layFigure_30 lm_0_95 mm_J9_min_7cf53 rfl rfl (Nat.le_of_ble_eq_true rfl) (Nat.le_of_ble_eq_true rfl) (Nat.le_refl _) H ?_
    intro r4 h3 H
    refine ev_istore (L1 := [(2, c), (2, v1), (0, v2), (0, v3), (0, r4), (0, v5), (0, v6), (8, -1), (8, -1)]) 35 rfl dX0_layFigure_33 (Nat.le_of_ble_eq_true rfl) rfl ?_
    refine ev_iload 37 rfl dX0_layFigure_35 rfl ?_
    refine ev_aload_n 38 rfl dX0_layFigure_37 rfl rfl ?_
    refine ev_iload_n 39 rfl dX0_layFigure_38 rfl rfl ?_
    refine ev_iload 41 rfl dX0_layFigure_39 rfl ?_
    refine ev_iload_n 42 rfl dX0_layFigure_41 rfl rfl ?_
    refine ev_cVI (As := [(0, v2), (0, v6), (0, v3)]) (rest := [(0, v5)]) 45 rfl dX0_layFigure_42 lm_0_98 mm_X0_movedNorth (sC hst hc) rfl rfl (Nat.le_of_ble_eq_true rfl) (Nat.le_of_ble_eq_true rfl) (Nat.le_refl _) H ?_
    intro r6 h5 H
    refine ev_cSI (As := [(0, v5), (0, r6)]) (rest := []) 48 rfl dX0_layFigure_45 lm_0_95 mm_J9_min_7cf53 rfl rfl (Nat.le_of_ble_eq_true rfl) (Nat.le_of_ble_eq_true rfl) (Nat.le_refl _) H ?_
    intro r8 h7 H
    refine ev_istore (L1 := [(2, c), (2, v1), (0, v2), (0, v3), (0, r4), (0, r8), (0, v6), (8, -1), (8, -1)]) 50 rfl dX0_layFigure_48 (Nat.le_of_ble_eq_true rfl) rfl ?_
    obtain ⟨sd, H⟩ := H
    refine ev_iinc (L1 := [(2, c), (2, v1), (0, v2), (0, v3), (0, r4), (0, r8), (0, (v6 + 1)), (8, -1), (8, -1)]) 53 rfl dX0_layFigure_50 rfl sd (Nat.le_of_ble_eq_true rfl) rfl ?_
    refine ev_goto (tgt := 11) dX0_layFigure_53 (by decide) ?_
    exact H

set_option maxRecDepth 20000 in
theorem b_X0_layFigure_59 {X : qX} {d : Nat} {sh : qS} {pt h : qM} {K : qM → Prop} {c v1 v2 v3 v4 v5 v6 n1 : Int} (hst : St sh pt) (hc : isC c) (ha1 : qsh sh v1 = some (0, n1))
    (H : (((h c 4) ≤ v6 → K h) ∧ (v6 < (h c 4) → RunI X d mX0_movedEast [(2, c), (0, v2), (0, v6), (0, v3)] sh pt h (fun r2 h1 => (qI (r2 - v4)) ∧ RunI X d mX0_movedNorth [(2, c), (0, v2), (0, v6), (0, v3)] sh pt h1 (fun r4 h3 => (qI (r4 - v5)) ∧ (qI ((r2 - v4) * 60)) ∧ (qI (((r2 - v4) * 60) + (r4 - v5))) ∧ RunV X d mX0_insert [(2, v1), (0, v6), (0, (((r2 - v4) * 60) + (r4 - v5)))] sh pt h3 (fun h5 => (qI (v6 + 1)) ∧ EvV X (d + 1) mX0_layFigure 59 [(2, c), (2, v1), (0, v2), (0, v3), (0, v4), (0, v5), (0, (v6 + 1)), (8, -1), (8, -1)] [] sh pt h5 K)))))) :
    EvV X (d + 1) mX0_layFigure 59 [(2, c), (2, v1), (0, v2), (0, v3), (0, v4), (0, v5), (0, v6), (8, -1), (8, -1)] [] sh pt h K := by
  show Ev X (d + 1) 0 0 mX0_layFigure 59 [(2, c), (2, v1), (0, v2), (0, v3), (0, v4), (0, v5), (0, v6), (8, -1), (8, -1)] [] (sh, pt, h) (qRV sh pt K)
  refine ev_iload 61 rfl dX0_layFigure_59 rfl ?_
  refine ev_aload_n 62 rfl dX0_layFigure_61 rfl rfl ?_
  refine ev_getI (ki := 4) 65 rfl dX0_layFigure_62 lf_0_27 (Or.inl rfl) (sC hst hc) (by decide) rfl ?_
  refine ev_icmp_ge (tgt := 114) 68 rfl dX0_layFigure_65 (by decide) (fun cd => ?_) (fun cd => ?_)
  · have H := H.1 cd
    exact ev_retV dX0_layFigure_114 rfl H
  · have H := H.2 cd
    refine ev_aload_n 69 rfl dX0_layFigure_68 rfl rfl ?_
    refine ev_iload_n 70 rfl dX0_layFigure_69 rfl rfl ?_
    refine ev_iload 72 rfl dX0_layFigure_70 rfl ?_
    refine ev_iload_n 73 rfl dX0_layFigure_72 rfl rfl ?_
    refine ev_cVI (As := [(0, v2), (0, v6), (0, v3)]) (rest := []) 76 rfl dX0_layFigure_73 lm_0_91 mm_X0_movedEast (sC hst hc) rfl rfl (Nat.le_of_ble_eq_true rfl) (Nat.le_of_ble_eq_true rfl) (Nat.le_refl _) H ?_
    intro r2 h1 H
    refine ev_iload 78 rfl dX0_layFigure_76 rfl ?_
    obtain ⟨sd, H⟩ := H
    refine ev_isub 79 rfl dX0_layFigure_78 sd ?_
    refine ev_istore (L1 := [(2, c), (2, v1), (0, v2), (0, v3), (0, v4), (0, v5), (0, v6), (0, (r2 - v4)), (8, -1)]) 81 rfl dX0_layFigure_79 (Nat.le_of_ble_eq_true rfl) rfl ?_
    refine ev_aload_n 82 rfl dX0_layFigure_81 rfl rfl ?_
    refine ev_iload_n 83 rfl dX0_layFigure_82 rfl rfl ?_
    refine ev_iload 85 rfl dX0_layFigure_83 rfl ?_
    refine ev_iload_n 86 rfl dX0_layFigure_85 rfl rfl ?_
    refine ev_cVI (As := [(0, v2), (0, v6), (0, v3)]) (rest := []) 89 rfl dX0_layFigure_86 lm_0_98 mm_X0_movedNorth (sC hst hc) rfl rfl (Nat.le_of_ble_eq_true rfl) (Nat.le_of_ble_eq_true rfl) (Nat.le_refl _) H ?_
    intro r4 h3 H
    refine ev_iload 91 rfl dX0_layFigure_89 rfl ?_
    obtain ⟨sd, H⟩ := H
    refine ev_isub 92 rfl dX0_layFigure_91 sd ?_
    refine ev_istore (L1 := [(2, c), (2, v1), (0, v2), (0, v3), (0, v4), (0, v5), (0, v6), (0, (r2 - v4)), (0, (r4 - v5))]) 94 rfl dX0_layFigure_92 (Nat.le_of_ble_eq_true rfl) rfl ?_
    refine ev_aload_n 95 rfl dX0_layFigure_94 rfl rfl ?_
    refine ev_iload 97 rfl dX0_layFigure_95 rfl ?_
    refine ev_iload 99 rfl dX0_layFigure_97 rfl ?_
    refine ev_bipush 101 rfl dX0_layFigure_99 (by decide) (by decide) ?_
    obtain ⟨sd, H⟩ := H
    refine ev_imul 102 rfl dX0_layFigure_101 sd ?_
    refine ev_iload 104 rfl dX0_layFigure_102 rfl ?_
    obtain ⟨sd, H⟩ := H
    refine ev_iadd 105 rfl dX0_layFigure_104 sd ?_
    refine ev_cSV (As := [(2, v1), (0, v6), (0, (((r2 - v4) * 60) + (r4 - v5)))]) (rest := []) 108 rfl dX0_layFigure_105 lm_0_101 mm_X0_insert rfl rfl (Nat.le_of_ble_eq_true rfl) (Nat.le_of_ble_eq_true rfl) (Nat.le_refl _) H ?_
    intro h5 H
    obtain ⟨sd, H⟩ := H
    refine ev_iinc (L1 := [(2, c), (2, v1), (0, v2), (0, v3), (0, v4), (0, v5), (0, (v6 + 1)), (0, (r2 - v4)), (0, (r4 - v5))]) 111 rfl dX0_layFigure_108 rfl sd (Nat.le_of_ble_eq_true rfl) rfl ?_
    refine ev_goto (tgt := 59) dX0_layFigure_111 (by decide) ?_
    refine Ev.drop [7, 8] rfl ?_
    exact H

set_option maxRecDepth 20000 in
theorem b_X0_insert {X : qX} {d : Nat} {sh : qS} {pt h : qM} {K : qM → Prop} {v0 v1 v2 n0 : Int} (hst : St sh pt) (ha0 : qsh sh v0 = some (0, n0))
    (H : EvV X d mX0_insert 5 [(2, v0), (8, -1), (0, v2), (0, v1), (0, v1)] [] sh pt h K) :
    RunV X d mX0_insert [(2, v0), (0, v1), (0, v2)] sh pt h K := by
  show Ev X d 0 0 mX0_insert 0 [(2, v0), (0, v1), (0, v2), (8, -1), (8, -1)] [] (sh, pt, h) (qRV sh pt K)
  refine ev_iload_n 1 rfl dX0_insert_0 rfl rfl ?_
  refine ev_istore_n (L1 := [(2, v0), (0, v1), (0, v2), (0, v1), (8, -1)]) 2 rfl dX0_insert_1 rfl (Nat.le_of_ble_eq_true rfl) rfl ?_
  refine ev_iload_n 3 rfl dX0_insert_2 rfl rfl ?_
  refine ev_istore (L1 := [(2, v0), (0, v1), (0, v2), (0, v1), (0, v1)]) 5 rfl dX0_insert_3 (Nat.le_of_ble_eq_true rfl) rfl ?_
  refine Ev.drop [1] rfl ?_
  exact H

set_option maxRecDepth 20000 in
theorem b_X0_insert_5 {X : qX} {d : Nat} {sh : qS} {pt h : qM} {K : qM → Prop} {v0 v2 v3 v4 n0 : Int} (hst : St sh pt) (ha0 : qsh sh v0 = some (0, n0))
    (H : ((v4 ≤ 0 → (0 ≤ v3 ∧ v3 < n0) ∧ ∀ h2 : qM, h2 = qup h v0 v3 v2 → K h2) ∧ (0 < v4 → (qI (v4 - 1)) ∧ (0 ≤ (v4 - 1) ∧ (v4 - 1) < n0) ∧ (((h v0 (v4 - 1)) ≤ v2 → (0 ≤ v3 ∧ v3 < n0) ∧ ∀ h5 : qM, h5 = qup h v0 v3 v2 → K h5) ∧ (v2 < (h v0 (v4 - 1)) → (qI (v4 - 1)) ∧ (0 ≤ (v4 - 1) ∧ (v4 - 1) < n0) ∧ (0 ≤ v4 ∧ v4 < n0) ∧ ∀ h8 : qM, h8 = qup h v0 v4 (h v0 (v4 - 1)) → (qI (v4 - 1)) ∧ (qI (v4 + (-1))) ∧ EvV X d mX0_insert 5 [(2, v0), (8, -1), (0, v2), (0, (v4 - 1)), (0, (v4 + (-1)))] [] sh pt h8 K))))) :
    EvV X d mX0_insert 5 [(2, v0), (8, -1), (0, v2), (0, v3), (0, v4)] [] sh pt h K := by
  show Ev X d 0 0 mX0_insert 5 [(2, v0), (8, -1), (0, v2), (0, v3), (0, v4)] [] (sh, pt, h) (qRV sh pt K)
  refine ev_iload 7 rfl dX0_insert_5 rfl ?_
  refine ev_if_le (tgt := 41) 10 rfl dX0_insert_7 (by decide) (fun cd => ?_) (fun cd => ?_)
  · have H := H.1 cd
    refine ev_aload_n 42 rfl dX0_insert_41 rfl rfl ?_
    refine ev_iload_n 43 rfl dX0_insert_42 rfl rfl ?_
    refine ev_iload_n 44 rfl dX0_insert_43 rfl rfl ?_
    obtain ⟨b1, H⟩ := H
    refine ev_iastore 45 rfl dX0_insert_44 ha0 b1.1 b1.2 ?_
    obtain ⟨h2, eh2⟩ : ∃ z : qM, z = qup h v0 v3 v2 := ⟨_, rfl⟩
    rw [← eh2]
    have H := H h2 eh2
    exact ev_retV dX0_insert_45 rfl H
  · have H := H.2 cd
    refine ev_aload_n 11 rfl dX0_insert_10 rfl rfl ?_
    refine ev_iload 13 rfl dX0_insert_11 rfl ?_
    refine ev_iconst 14 rfl dX0_insert_13 (by decide) ?_
    obtain ⟨sd, H⟩ := H
    refine ev_isub 15 rfl dX0_insert_14 sd ?_
    obtain ⟨b3, H⟩ := H
    refine ev_iaload 16 rfl dX0_insert_15 ha0 b3.1 b3.2 ?_
    refine ev_iload_n 17 rfl dX0_insert_16 rfl rfl ?_
    refine ev_icmp_le (tgt := 41) 20 rfl dX0_insert_17 (by decide) (fun cd => ?_) (fun cd => ?_)
    · have H := H.1 cd
      refine ev_aload_n 42 rfl dX0_insert_41 rfl rfl ?_
      refine ev_iload_n 43 rfl dX0_insert_42 rfl rfl ?_
      refine ev_iload_n 44 rfl dX0_insert_43 rfl rfl ?_
      obtain ⟨b4, H⟩ := H
      refine ev_iastore 45 rfl dX0_insert_44 ha0 b4.1 b4.2 ?_
      obtain ⟨h5, eh5⟩ : ∃ z : qM, z = qup h v0 v3 v2 := ⟨_, rfl⟩
      rw [← eh5]
      have H := H h5 eh5
      exact ev_retV dX0_insert_45 rfl H
    · have H := H.2 cd
      refine ev_aload_n 21 rfl dX0_insert_20 rfl rfl ?_
      refine ev_iload 23 rfl dX0_insert_21 rfl ?_
      refine ev_aload_n 24 rfl dX0_insert_23 rfl rfl ?_
      refine ev_iload 26 rfl dX0_insert_24 rfl ?_
      refine ev_iconst 27 rfl dX0_insert_26 (by decide) ?_
      obtain ⟨sd, H⟩ := H
      refine ev_isub 28 rfl dX0_insert_27 sd ?_
      obtain ⟨b6, H⟩ := H
      refine ev_iaload 29 rfl dX0_insert_28 ha0 b6.1 b6.2 ?_
      obtain ⟨b7, H⟩ := H
      refine ev_iastore 30 rfl dX0_insert_29 ha0 b7.1 b7.2 ?_
      obtain ⟨h8, eh8⟩ : ∃ z : qM, z = qup h v0 v4 (h v0 (v4 - 1)) := ⟨_, rfl⟩
      rw [← eh8]
      have H := H h8 eh8
      refine ev_iload 32 rfl dX0_insert_30 rfl ?_
      refine ev_iconst 33 rfl dX0_insert_32 (by decide) ?_
      obtain ⟨sd, H⟩ := H
      refine ev_isub 34 rfl dX0_insert_33 sd ?_
      refine ev_istore_n (L1 := [(2, v0), (8, -1), (0, v2), (0, (v4 - 1)), (0, v4)]) 35 rfl dX0_insert_34 rfl (Nat.le_of_ble_eq_true rfl) rfl ?_
      obtain ⟨sd, H⟩ := H
      refine ev_iinc (L1 := [(2, v0), (8, -1), (0, v2), (0, (v4 - 1)), (0, (v4 + (-1)))]) 38 rfl dX0_insert_35 rfl sd (Nat.le_of_ble_eq_true rfl) rfl ?_
      refine ev_goto (tgt := 5) dX0_insert_38 (by decide) ?_
      exact H

set_option maxRecDepth 20000 in
theorem b_X0_movedEast {X : qX} {d : Nat} {sh : qS} {pt h : qM} {K : Int → qM → Prop} {c v1 v2 v3 : Int} (hst : St sh pt) (hc : isC c)
    (H : ((v3 < 4 → RunI X d mX0_eastOf [(2, c), (0, v1), (0, v2)] sh pt h (fun r2 h1 => EvI X (d + 1) mX0_movedEast 21 [(2, c), (0, v1), (0, v2), (0, v3), (8, -1), (8, -1)] [(0, r2)] sh pt h1 K)) ∧ (4 ≤ v3 → RunI X d mX0_eastOf [(2, c), (0, v1), (0, v2)] sh pt h (fun r4 h3 => (qI (-r4)) ∧ EvI X (d + 1) mX0_movedEast 21 [(2, c), (0, v1), (0, v2), (0, v3), (8, -1), (8, -1)] [(0, (-r4))] sh pt h3 K)))) :
    RunI X (d + 1) mX0_movedEast [(2, c), (0, v1), (0, v2), (0, v3)] sh pt h K := by
  show Ev X (d + 1) 0 0 mX0_movedEast 0 [(2, c), (0, v1), (0, v2), (0, v3), (8, -1), (8, -1)] [] (sh, pt, h) (qRI sh pt K)
  refine ev_iload_n 1 rfl dX0_movedEast_0 rfl rfl ?_
  refine ev_iconst 2 rfl dX0_movedEast_1 (by decide) ?_
  refine ev_icmp_lt (tgt := 15) 5 rfl dX0_movedEast_2 (by decide) (fun cd => ?_) (fun cd => ?_)
  · have H := H.1 cd
    refine ev_aload_n 16 rfl dX0_movedEast_15 rfl rfl ?_
    refine ev_iload_n 17 rfl dX0_movedEast_16 rfl rfl ?_
    refine ev_iload_n 18 rfl dX0_movedEast_17 rfl rfl ?_
    refine ev_cVI (As := [(0, v1), (0, v2)]) (rest := []) 21 rfl dX0_movedEast_18 lm_0_66 mm_X0_eastOf (sC hst hc) rfl rfl (Nat.le_of_ble_eq_true rfl) (Nat.le_of_ble_eq_true rfl) (Nat.le_refl _) H ?_
    intro r2 h1 H
    exact H
  · have H := H.2 cd
    refine ev_aload_n 6 rfl dX0_movedEast_5 rfl rfl ?_
    refine ev_iload_n 7 rfl dX0_movedEast_6 rfl rfl ?_
    refine ev_iload_n 8 rfl dX0_movedEast_7 rfl rfl ?_
    refine ev_cVI (As := [(0, v1), (0, v2)]) (rest := []) 11 rfl dX0_movedEast_8 lm_0_66 mm_X0_eastOf (sC hst hc) rfl rfl (Nat.le_of_ble_eq_true rfl) (Nat.le_of_ble_eq_true rfl) (Nat.le_refl _) H ?_
    intro r4 h3 H
    obtain ⟨sd, H⟩ := H
    refine ev_ineg 12 rfl dX0_movedEast_11 sd ?_
    refine ev_goto (tgt := 21) dX0_movedEast_12 (by decide) ?_
    exact H

set_option maxRecDepth 20000 in
theorem b_X0_movedEast_21 {X : qX} {d : Nat} {sh : qS} {pt h : qM} {K : Int → qM → Prop} {c v1 v2 v3 u0 : Int} (hst : St sh pt) (hc : isC c)
    (H : RunI X d mX0_northOf [(2, c), (0, v1), (0, v2)] sh pt h (fun r2 h1 => (((qiand v3 3) = 0 → K u0 h1) ∧ ((qiand v3 3) = 1 → K r2 h1) ∧ ((qiand v3 3) = 2 → (qI (-u0)) ∧ K (-u0) h1) ∧ (((qiand v3 3) < 0 ∨ 2 < (qiand v3 3)) → (qI (-r2)) ∧ K (-r2) h1)))) :
    EvI X (d + 1) mX0_movedEast 21 [(2, c), (0, v1), (0, v2), (0, v3), (8, -1), (8, -1)] [(0, u0)] sh pt h K := by
  show Ev X (d + 1) 0 0 mX0_movedEast 21 [(2, c), (0, v1), (0, v2), (0, v3), (8, -1), (8, -1)] [(0, u0)] (sh, pt, h) (qRI sh pt K)
  refine ev_istore (L1 := [(2, c), (0, v1), (0, v2), (0, v3), (0, u0), (8, -1)]) 23 rfl dX0_movedEast_21 (Nat.le_of_ble_eq_true rfl) rfl ?_
  refine ev_aload_n 24 rfl dX0_movedEast_23 rfl rfl ?_
  refine ev_iload_n 25 rfl dX0_movedEast_24 rfl rfl ?_
  refine ev_iload_n 26 rfl dX0_movedEast_25 rfl rfl ?_
  refine ev_cVI (As := [(0, v1), (0, v2)]) (rest := []) 29 rfl dX0_movedEast_26 lm_0_69 mm_X0_northOf (sC hst hc) rfl rfl (Nat.le_of_ble_eq_true rfl) (Nat.le_of_ble_eq_true rfl) (Nat.le_refl _) H ?_
  intro r2 h1 H
  refine ev_istore (L1 := [(2, c), (0, v1), (0, v2), (0, v3), (0, u0), (0, r2)]) 31 rfl dX0_movedEast_29 (Nat.le_of_ble_eq_true rfl) rfl ?_
  refine ev_iload_n 32 rfl dX0_movedEast_31 rfl rfl ?_
  refine ev_iconst 33 rfl dX0_movedEast_32 (by decide) ?_
  refine ev_iand 34 rfl dX0_movedEast_33 ?_
  have hsw : (qiand v3 3) = 0 ∨ (qiand v3 3) = 1 ∨ (qiand v3 3) = 2 ∨ ((qiand v3 3) < 0 ∨ 2 < (qiand v3 3)) := by omega
  rcases hsw with cd | cd | cd | cd
  · have H := H.1 cd
    refine ev_tableIn (off := 26) (tgt := 60) dX0_movedEast_34 (by omega) (by omega) (by rw [cd]; rfl) (by decide) ?_
    refine ev_iload 62 rfl dX0_movedEast_60 rfl ?_
    exact ev_retI dX0_movedEast_62 rfl H
  · have H := H.2.1 cd
    refine ev_tableIn (off := 29) (tgt := 63) dX0_movedEast_34 (by omega) (by omega) (by rw [cd]; rfl) (by decide) ?_
    refine ev_iload 65 rfl dX0_movedEast_63 rfl ?_
    exact ev_retI dX0_movedEast_65 rfl H
  · have H := H.2.2.1 cd
    refine ev_tableIn (off := 32) (tgt := 66) dX0_movedEast_34 (by omega) (by omega) (by rw [cd]; rfl) (by decide) ?_
    refine ev_iload 68 rfl dX0_movedEast_66 rfl ?_
    obtain ⟨sd, H⟩ := H
    refine ev_ineg 69 rfl dX0_movedEast_68 sd ?_
    exact ev_retI dX0_movedEast_69 rfl H
  · have H := H.2.2.2 cd
    refine ev_tableOut (tgt := 70) dX0_movedEast_34 cd (by decide) ?_
    refine ev_iload 72 rfl dX0_movedEast_70 rfl ?_
    obtain ⟨sd, H⟩ := H
    refine ev_ineg 73 rfl dX0_movedEast_72 sd ?_
    exact ev_retI dX0_movedEast_73 rfl H

set_option maxRecDepth 20000 in
theorem b_X0_movedNorth {X : qX} {d : Nat} {sh : qS} {pt h : qM} {K : Int → qM → Prop} {c v1 v2 v3 : Int} (hst : St sh pt) (hc : isC c)
    (H : (qI (v3 + 1)) ∧ RunI X d mX0_movedEast [(2, c), (0, v1), (0, v2), (0, (qior (qiand v3 4) (qiand (v3 + 1) 3)))] sh pt h (fun r2 h1 => K r2 h1)) :
    RunI X (d + 1) mX0_movedNorth [(2, c), (0, v1), (0, v2), (0, v3)] sh pt h K := by
  show Ev X (d + 1) 0 0 mX0_movedNorth 0 [(2, c), (0, v1), (0, v2), (0, v3)] [] (sh, pt, h) (qRI sh pt K)
  refine ev_aload_n 1 rfl dX0_movedNorth_0 rfl rfl ?_
  refine ev_iload_n 2 rfl dX0_movedNorth_1 rfl rfl ?_
  refine ev_iload_n 3 rfl dX0_movedNorth_2 rfl rfl ?_
  refine ev_iload_n 4 rfl dX0_movedNorth_3 rfl rfl ?_
  refine ev_iconst 5 rfl dX0_movedNorth_4 (by decide) ?_
  refine ev_iand 6 rfl dX0_movedNorth_5 ?_
  refine ev_iload_n 7 rfl dX0_movedNorth_6 rfl rfl ?_
  refine ev_iconst 8 rfl dX0_movedNorth_7 (by decide) ?_
  obtain ⟨sd, H⟩ := H
  refine ev_iadd 9 rfl dX0_movedNorth_8 sd ?_
  refine ev_iconst 10 rfl dX0_movedNorth_9 (by decide) ?_
  refine ev_iand 11 rfl dX0_movedNorth_10 ?_
  refine ev_ior 12 rfl dX0_movedNorth_11 ?_
  refine ev_cVI (As := [(0, v1), (0, v2), (0, (qior (qiand v3 4) (qiand (v3 + 1) 3)))]) (rest := []) 15 rfl dX0_movedNorth_12 lm_0_91 mm_X0_movedEast (sC hst hc) rfl rfl (Nat.le_of_ble_eq_true rfl) (Nat.le_of_ble_eq_true rfl) (Nat.le_refl _) H ?_
  intro r2 h1 H
  exact ev_retI dX0_movedNorth_15 rfl H

set_option maxRecDepth 20000 in
theorem b_X0_seenFrom {X : qX} {d : Nat} {sh : qS} {pt h : qM} {K : Int → qM → Prop} {c v1 v2 v3 : Int} (hst : St sh pt) (hc : isC c)
    (H : EvI X (d + 1) mX0_seenFrom 6 [(2, c), (0, v1), (0, v2), (0, v3), (0, 0), (0, 0)] [] sh pt h K) :
    RunI X (d + 1) mX0_seenFrom [(2, c), (0, v1), (0, v2), (0, v3)] sh pt h K := by
  show Ev X (d + 1) 0 0 mX0_seenFrom 0 [(2, c), (0, v1), (0, v2), (0, v3), (8, -1), (8, -1)] [] (sh, pt, h) (qRI sh pt K)
  refine ev_iconst 1 rfl dX0_seenFrom_0 (by decide) ?_
  refine ev_istore (L1 := [(2, c), (0, v1), (0, v2), (0, v3), (0, 0), (8, -1)]) 3 rfl dX0_seenFrom_1 (Nat.le_of_ble_eq_true rfl) rfl ?_
  refine ev_iconst 4 rfl dX0_seenFrom_3 (by decide) ?_
  refine ev_istore (L1 := [(2, c), (0, v1), (0, v2), (0, v3), (0, 0), (0, 0)]) 6 rfl dX0_seenFrom_4 (Nat.le_of_ble_eq_true rfl) rfl ?_
  exact H

set_option maxRecDepth 20000 in
theorem b_X0_seenFrom_6 {X : qX} {d : Nat} {sh : qS} {pt h : qM} {K : Int → qM → Prop} {c v1 v2 v3 v4 v5 : Int} (hst : St sh pt) (hc : isC c)
    (H : (((h c 4) ≤ v5 → K v4 h) ∧ (v5 < (h c 4) → RunI X d mX0_isSeen [(2, c), (0, v1), (0, v5), (0, v2), (0, v3)] sh pt h (fun r2 h1 => ((r2 = 0 → (qI (v4 + 0)) ∧ (qI (v5 + 1)) ∧ EvI X (d + 1) mX0_seenFrom 6 [(2, c), (0, v1), (0, v2), (0, v3), (0, (v4 + 0)), (0, (v5 + 1))] [] sh pt h1 K) ∧ (¬ r2 = 0 → (qI (v4 + 1)) ∧ (qI (v5 + 1)) ∧ EvI X (d + 1) mX0_seenFrom 6 [(2, c), (0, v1), (0, v2), (0, v3), (0, (v4 + 1)), (0, (v5 + 1))] [] sh pt h1 K)))))) :
    EvI X (d + 1) mX0_seenFrom 6 [(2, c), (0, v1), (0, v2), (0, v3), (0, v4), (0, v5)] [] sh pt h K := by
  show Ev X (d + 1) 0 0 mX0_seenFrom 6 [(2, c), (0, v1), (0, v2), (0, v3), (0, v4), (0, v5)] [] (sh, pt, h) (qRI sh pt K)
  refine ev_iload 8 rfl dX0_seenFrom_6 rfl ?_
  refine ev_aload_n 9 rfl dX0_seenFrom_8 rfl rfl ?_
  refine ev_getI (ki := 4) 12 rfl dX0_seenFrom_9 lf_0_27 (Or.inl rfl) (sC hst hc) (by decide) rfl ?_
  refine ev_icmp_ge (tgt := 43) 15 rfl dX0_seenFrom_12 (by decide) (fun cd => ?_) (fun cd => ?_)
  · have H := H.1 cd
    refine ev_iload 45 rfl dX0_seenFrom_43 rfl ?_
    exact ev_retI dX0_seenFrom_45 rfl H
  · have H := H.2 cd
    refine ev_iload 17 rfl dX0_seenFrom_15 rfl ?_
    refine ev_aload_n 18 rfl dX0_seenFrom_17 rfl rfl ?_
    refine ev_iload_n 19 rfl dX0_seenFrom_18 rfl rfl ?_
    refine ev_iload 21 rfl dX0_seenFrom_19 rfl ?_
    refine ev_iload_n 22 rfl dX0_seenFrom_21 rfl rfl ?_
    refine ev_iload_n 23 rfl dX0_seenFrom_22 rfl rfl ?_
    refine ev_cVI (As := [(0, v1), (0, v5), (0, v2), (0, v3)]) (rest := [(0, v4)]) 26 rfl dX0_seenFrom_23 lm_0_104 mm_X0_isSeen (sC hst hc) rfl rfl (Nat.le_of_ble_eq_true rfl) (Nat.le_of_ble_eq_true rfl) (Nat.le_refl _) H ?_
    intro r2 h1 H
    refine ev_if_eq (tgt := 33) 29 rfl dX0_seenFrom_26 (by decide) (fun cd => ?_) (fun cd => ?_)
    · have H := H.1 cd
      refine ev_iconst 34 rfl dX0_seenFrom_33 (by decide) ?_
      obtain ⟨sd, H⟩ := H
      refine ev_iadd 35 rfl dX0_seenFrom_34 sd ?_
      refine ev_istore (L1 := [(2, c), (0, v1), (0, v2), (0, v3), (0, (v4 + 0)), (0, v5)]) 37 rfl dX0_seenFrom_35 (Nat.le_of_ble_eq_true rfl) rfl ?_
      obtain ⟨sd, H⟩ := H
      refine ev_iinc (L1 := [(2, c), (0, v1), (0, v2), (0, v3), (0, (v4 + 0)), (0, (v5 + 1))]) 40 rfl dX0_seenFrom_37 rfl sd (Nat.le_of_ble_eq_true rfl) rfl ?_
      refine ev_goto (tgt := 6) dX0_seenFrom_40 (by decide) ?_
      exact H
    · have H := H.2 cd
      refine ev_iconst 30 rfl dX0_seenFrom_29 (by decide) ?_
      refine ev_goto (tgt := 34) dX0_seenFrom_30 (by decide) ?_
      obtain ⟨sd, H⟩ := H
      refine ev_iadd 35 rfl dX0_seenFrom_34 sd ?_
      refine ev_istore (L1 := [(2, c), (0, v1), (0, v2), (0, v3), (0, (v4 + 1)), (0, v5)]) 37 rfl dX0_seenFrom_35 (Nat.le_of_ble_eq_true rfl) rfl ?_
      obtain ⟨sd, H⟩ := H
      refine ev_iinc (L1 := [(2, c), (0, v1), (0, v2), (0, v3), (0, (v4 + 1)), (0, (v5 + 1))]) 40 rfl dX0_seenFrom_37 rfl sd (Nat.le_of_ble_eq_true rfl) rfl ?_
      refine ev_goto (tgt := 6) dX0_seenFrom_40 (by decide) ?_
      exact H

set_option maxRecDepth 20000 in
theorem b_X0_isSeen {X : qX} {d : Nat} {sh : qS} {pt h : qM} {K : Int → qM → Prop} {c v1 v2 v3 v4 : Int} (hst : St sh pt) (hc : isC c)
    (H : RunI X d mX0_eastOf [(2, c), (0, v1), (0, v2)] sh pt h (fun r2 h1 => (qI (r2 - v3)) ∧ RunI X d mX0_northOf [(2, c), (0, v1), (0, v2)] sh pt h1 (fun r4 h3 => (qI (r4 + v4)) ∧ EvI X (d + 1) mX0_isSeen 24 [(2, c), (0, v1), (8, -1), (0, v3), (0, v4), (0, (r2 - v3)), (0, (r4 + v4)), (0, 0), (8, -1), (8, -1)] [] sh pt h3 K))) :
    RunI X (d + 1) mX0_isSeen [(2, c), (0, v1), (0, v2), (0, v3), (0, v4)] sh pt h K := by
  show Ev X (d + 1) 0 0 mX0_isSeen 0 [(2, c), (0, v1), (0, v2), (0, v3), (0, v4), (8, -1), (8, -1), (8, -1), (8, -1), (8, -1)] [] (sh, pt, h) (qRI sh pt K)
  refine ev_aload_n 1 rfl dX0_isSeen_0 rfl rfl ?_
  refine ev_iload_n 2 rfl dX0_isSeen_1 rfl rfl ?_
  refine ev_iload_n 3 rfl dX0_isSeen_2 rfl rfl ?_
  refine ev_cVI (As := [(0, v1), (0, v2)]) (rest := []) 6 rfl dX0_isSeen_3 lm_0_66 mm_X0_eastOf (sC hst hc) rfl rfl (Nat.le_of_ble_eq_true rfl) (Nat.le_of_ble_eq_true rfl) (Nat.le_refl _) H ?_
  intro r2 h1 H
  refine ev_iload_n 7 rfl dX0_isSeen_6 rfl rfl ?_
  obtain ⟨sd, H⟩ := H
  refine ev_isub 8 rfl dX0_isSeen_7 sd ?_
  refine ev_istore (L1 := [(2, c), (0, v1), (0, v2), (0, v3), (0, v4), (0, (r2 - v3)), (8, -1), (8, -1), (8, -1), (8, -1)]) 10 rfl dX0_isSeen_8 (Nat.le_of_ble_eq_true rfl) rfl ?_
  refine ev_aload_n 11 rfl dX0_isSeen_10 rfl rfl ?_
  refine ev_iload_n 12 rfl dX0_isSeen_11 rfl rfl ?_
  refine ev_iload_n 13 rfl dX0_isSeen_12 rfl rfl ?_
  refine ev_cVI (As := [(0, v1), (0, v2)]) (rest := []) 16 rfl dX0_isSeen_13 lm_0_69 mm_X0_northOf (sC hst hc) rfl rfl (Nat.le_of_ble_eq_true rfl) (Nat.le_of_ble_eq_true rfl) (Nat.le_refl _) H ?_
  intro r4 h3 H
  refine ev_iload 18 rfl dX0_isSeen_16 rfl ?_
  obtain ⟨sd, H⟩ := H
  refine ev_iadd 19 rfl dX0_isSeen_18 sd ?_
  refine ev_istore (L1 := [(2, c), (0, v1), (0, v2), (0, v3), (0, v4), (0, (r2 - v3)), (0, (r4 + v4)), (8, -1), (8, -1), (8, -1)]) 21 rfl dX0_isSeen_19 (Nat.le_of_ble_eq_true rfl) rfl ?_
  refine ev_iconst 22 rfl dX0_isSeen_21 (by decide) ?_
  refine ev_istore (L1 := [(2, c), (0, v1), (0, v2), (0, v3), (0, v4), (0, (r2 - v3)), (0, (r4 + v4)), (0, 0), (8, -1), (8, -1)]) 24 rfl dX0_isSeen_22 (Nat.le_of_ble_eq_true rfl) rfl ?_
  refine Ev.drop [2] rfl ?_
  exact H

set_option maxRecDepth 20000 in
theorem b_X0_isSeen_24 {X : qX} {d : Nat} {sh : qS} {pt h : qM} {K : Int → qM → Prop} {c v1 v3 v4 v5 v6 v7 : Int} (hst : St sh pt) (hc : isC c)
    (H : (((h c 4) ≤ v7 → K 1 h) ∧ (v7 < (h c 4) → RunI X d mX0_eastOf [(2, c), (0, v1), (0, v7)] sh pt h (fun r2 h1 => (qI (r2 - v3)) ∧ RunI X d mX0_northOf [(2, c), (0, v1), (0, v7)] sh pt h1 (fun r4 h3 => (qI (r4 + v4)) ∧ ((v6 ≤ (r4 + v4) → (qI (v7 + 1)) ∧ EvI X (d + 1) mX0_isSeen 24 [(2, c), (0, v1), (8, -1), (0, v3), (0, v4), (0, v5), (0, v6), (0, (v7 + 1)), (8, -1), (8, -1)] [] sh pt h3 K) ∧ ((r4 + v4) < v6 → (qI ((r2 - v3) * v6)) ∧ (qI (v5 * (r4 + v4))) ∧ ((¬ ((r2 - v3) * v6) = (v5 * (r4 + v4)) → (qI (v7 + 1)) ∧ EvI X (d + 1) mX0_isSeen 24 [(2, c), (0, v1), (8, -1), (0, v3), (0, v4), (0, v5), (0, v6), (0, (v7 + 1)), (8, -1), (8, -1)] [] sh pt h3 K) ∧ (((r2 - v3) * v6) = (v5 * (r4 + v4)) → K 0 h3))))))))) :
    EvI X (d + 1) mX0_isSeen 24 [(2, c), (0, v1), (8, -1), (0, v3), (0, v4), (0, v5), (0, v6), (0, v7), (8, -1), (8, -1)] [] sh pt h K := by
  show Ev X (d + 1) 0 0 mX0_isSeen 24 [(2, c), (0, v1), (8, -1), (0, v3), (0, v4), (0, v5), (0, v6), (0, v7), (8, -1), (8, -1)] [] (sh, pt, h) (qRI sh pt K)
  refine ev_iload 26 rfl dX0_isSeen_24 rfl ?_
  refine ev_aload_n 27 rfl dX0_isSeen_26 rfl rfl ?_
  refine ev_getI (ki := 4) 30 rfl dX0_isSeen_27 lf_0_27 (Or.inl rfl) (sC hst hc) (by decide) rfl ?_
  refine ev_icmp_ge (tgt := 84) 33 rfl dX0_isSeen_30 (by decide) (fun cd => ?_) (fun cd => ?_)
  · have H := H.1 cd
    refine ev_iconst 85 rfl dX0_isSeen_84 (by decide) ?_
    exact ev_retZ dX0_isSeen_85 rfl (by decide) H
  · have H := H.2 cd
    refine ev_aload_n 34 rfl dX0_isSeen_33 rfl rfl ?_
    refine ev_iload_n 35 rfl dX0_isSeen_34 rfl rfl ?_
    refine ev_iload 37 rfl dX0_isSeen_35 rfl ?_
    refine ev_cVI (As := [(0, v1), (0, v7)]) (rest := []) 40 rfl dX0_isSeen_37 lm_0_66 mm_X0_eastOf (sC hst hc) rfl rfl (Nat.le_of_ble_eq_true rfl) (Nat.le_of_ble_eq_true rfl) (Nat.le_refl _) H ?_
    intro r2 h1 H
    refine ev_iload_n 41 rfl dX0_isSeen_40 rfl rfl ?_
    obtain ⟨sd, H⟩ := H
    refine ev_isub 42 rfl dX0_isSeen_41 sd ?_
    refine ev_istore (L1 := [(2, c), (0, v1), (8, -1), (0, v3), (0, v4), (0, v5), (0, v6), (0, v7), (0, (r2 - v3)), (8, -1)]) 44 rfl dX0_isSeen_42 (Nat.le_of_ble_eq_true rfl) rfl ?_
    refine ev_aload_n 45 rfl dX0_isSeen_44 rfl rfl ?_
    refine ev_iload_n 46 rfl dX0_isSeen_45 rfl rfl ?_
    refine ev_iload 48 rfl dX0_isSeen_46 rfl ?_
    refine ev_cVI (As := [(0, v1), (0, v7)]) (rest := []) 51 rfl dX0_isSeen_48 lm_0_69 mm_X0_northOf (sC hst hc) rfl rfl (Nat.le_of_ble_eq_true rfl) (Nat.le_of_ble_eq_true rfl) (Nat.le_refl _) H ?_
    intro r4 h3 H
    refine ev_iload 53 rfl dX0_isSeen_51 rfl ?_
    obtain ⟨sd, H⟩ := H
    refine ev_iadd 54 rfl dX0_isSeen_53 sd ?_
    refine ev_istore (L1 := [(2, c), (0, v1), (8, -1), (0, v3), (0, v4), (0, v5), (0, v6), (0, v7), (0, (r2 - v3)), (0, (r4 + v4))]) 56 rfl dX0_isSeen_54 (Nat.le_of_ble_eq_true rfl) rfl ?_
    refine ev_iload 58 rfl dX0_isSeen_56 rfl ?_
    refine ev_iload 60 rfl dX0_isSeen_58 rfl ?_
    refine ev_icmp_ge (tgt := 78) 63 rfl dX0_isSeen_60 (by decide) (fun cd => ?_) (fun cd => ?_)
    · have H := H.1 cd
      obtain ⟨sd, H⟩ := H
      refine ev_iinc (L1 := [(2, c), (0, v1), (8, -1), (0, v3), (0, v4), (0, v5), (0, v6), (0, (v7 + 1)), (0, (r2 - v3)), (0, (r4 + v4))]) 81 rfl dX0_isSeen_78 rfl sd (Nat.le_of_ble_eq_true rfl) rfl ?_
      refine ev_goto (tgt := 24) dX0_isSeen_81 (by decide) ?_
      refine Ev.drop [8, 9] rfl ?_
      exact H
    · have H := H.2 cd
      refine ev_iload 65 rfl dX0_isSeen_63 rfl ?_
      refine ev_iload 67 rfl dX0_isSeen_65 rfl ?_
      obtain ⟨sd, H⟩ := H
      refine ev_imul 68 rfl dX0_isSeen_67 sd ?_
      refine ev_iload 70 rfl dX0_isSeen_68 rfl ?_
      refine ev_iload 72 rfl dX0_isSeen_70 rfl ?_
      obtain ⟨sd, H⟩ := H
      refine ev_imul 73 rfl dX0_isSeen_72 sd ?_
      refine ev_icmp_ne (tgt := 78) 76 rfl dX0_isSeen_73 (by decide) (fun cd => ?_) (fun cd => ?_)
      · have H := H.1 cd
        obtain ⟨sd, H⟩ := H
        refine ev_iinc (L1 := [(2, c), (0, v1), (8, -1), (0, v3), (0, v4), (0, v5), (0, v6), (0, (v7 + 1)), (0, (r2 - v3)), (0, (r4 + v4))]) 81 rfl dX0_isSeen_78 rfl sd (Nat.le_of_ble_eq_true rfl) rfl ?_
        refine ev_goto (tgt := 24) dX0_isSeen_81 (by decide) ?_
        refine Ev.drop [8, 9] rfl ?_
        exact H
      · have H := H.2 cd
        refine ev_iconst 77 rfl dX0_isSeen_76 (by decide) ?_
        exact ev_retZ dX0_isSeen_77 rfl (by decide) H
