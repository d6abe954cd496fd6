set_option maxRecDepth 20000 in
theorem b_X11_status {X : qX} {d : Nat} {sh : qS} {pt h : qM} {K : Int → qM → Prop} (hst : St sh pt)
    (H : ∀ h1 : qM, h1 = qup h 78 1 0 → K (h1 78 0) h1) :
    RunI X d mX11_status [(2, 78)] sh pt h K := by
  show Ev X d 0 0 mX11_status 0 [(2, 78)] [] (sh, pt, h) (qRI sh pt K)
  refine ev_aload_n 1 rfl dX11_status_0 rfl rfl ?_
  refine ev_iconst 2 rfl dX11_status_1 (by decide) ?_
  refine ev_putI (ki := 1) 5 rfl dX11_status_2 lf_11_213 (Or.inl rfl) (s_78 hst) (by decide) rfl ?_
  obtain ⟨h1, eh1⟩ : ∃ z : qM, z = qup h 78 1 0 := ⟨_, rfl⟩
  rw [← eh1]
  have H := H h1 eh1
  refine ev_aload_n 6 rfl dX11_status_5 rfl rfl ?_
  refine ev_getI (ki := 0) 9 rfl dX11_status_6 lf_11_216 (Or.inl rfl) (s_78 hst) (by decide) rfl ?_
  exact ev_retI dX11_status_9 rfl H

set_option maxRecDepth 20000 in
theorem b_X11_refuse {X : qX} {d : Nat} {sh : qS} {pt h : qM} {K : Int → qM → Prop} {v1 : Int} (hst : St sh pt)
    (H : ∀ h1 : qM, h1 = qup h 78 0 v1 → K (-1) h1) :
    RunI X d mX11_refuse [(2, 78), (0, v1)] sh pt h K := by
  show Ev X d 0 0 mX11_refuse 0 [(2, 78), (0, v1)] [] (sh, pt, h) (qRI sh pt K)
  refine ev_aload_n 1 rfl dX11_refuse_0 rfl rfl ?_
  refine ev_iload_n 2 rfl dX11_refuse_1 rfl rfl ?_
  refine ev_putI (ki := 0) 5 rfl dX11_refuse_2 lf_11_216 (Or.inl rfl) (s_78 hst) (by decide) rfl ?_
  obtain ⟨h1, eh1⟩ : ∃ z : qM, z = qup h 78 0 v1 := ⟨_, rfl⟩
  rw [← eh1]
  have H := H h1 eh1
  refine ev_iconst 6 rfl dX11_refuse_5 (by decide) ?_
  exact ev_retI dX11_refuse_6 rfl H

set_option maxRecDepth 20000 in
theorem b_X11_no {X : qX} {d : Nat} {sh : qS} {pt h : qM} {K : Int → qM → Prop} {v1 : Int} (hst : St sh pt)
    (H : ∀ h1 : qM, h1 = qup h 78 0 v1 → K 0 h1) :
    RunI X d mX11_no [(2, 78), (0, v1)] sh pt h K := by
  show Ev X d 0 0 mX11_no 0 [(2, 78), (0, v1)] [] (sh, pt, h) (qRI sh pt K)
  refine ev_aload_n 1 rfl dX11_no_0 rfl rfl ?_
  refine ev_iload_n 2 rfl dX11_no_1 rfl rfl ?_
  refine ev_putI (ki := 0) 5 rfl dX11_no_2 lf_11_216 (Or.inl rfl) (s_78 hst) (by decide) rfl ?_
  obtain ⟨h1, eh1⟩ : ∃ z : qM, z = qup h 78 0 v1 := ⟨_, rfl⟩
  rw [← eh1]
  have H := H h1 eh1
  refine ev_iconst 6 rfl dX11_no_5 (by decide) ?_
  exact ev_retZ dX11_no_6 rfl (by decide) H

set_option maxRecDepth 20000 in
theorem b_X11_isIn {X : qX} {d : Nat} {sh : qS} {pt h : qM} {K : Int → qM → Prop} {v0 v2 v4 : Int} (hst : St sh pt)
    (H : ((v0 < v2 → K 0 h) ∧ (v2 ≤ v0 → ((v4 < v0 → K 0 h) ∧ (v0 ≤ v4 → K 1 h))))) :
    RunI X d mX11_isIn [(1, v0), (1, v2), (1, v4)] sh pt h K := by
  show Ev X d 0 0 mX11_isIn 0 [(1, v0), (8, -1), (1, v2), (8, -1), (1, v4), (8, -1)] [] (sh, pt, h) (qRI sh pt K)
  refine ev_lload_n 1 rfl dX11_isIn_0 rfl rfl ?_
  refine ev_lload_n 2 rfl dX11_isIn_1 rfl rfl ?_
  refine ev_lc_lt (tgt := 17) 6 rfl dX11_isIn_2 dX11_isIn_3 (by decide) (fun cd => ?_) (fun cd => ?_)
  · have H := H.1 cd
    refine ev_iconst 18 rfl dX11_isIn_17 (by decide) ?_
    exact ev_retZ dX11_isIn_18 rfl (by decide) H
  · have H := H.2 cd
    refine ev_lload_n 7 rfl dX11_isIn_6 rfl rfl ?_
    refine ev_lload 9 rfl dX11_isIn_7 rfl ?_
    refine ev_lc_gt (tgt := 17) 13 rfl dX11_isIn_9 dX11_isIn_10 (by decide) (fun cd => ?_) (fun cd => ?_)
    · have H := H.1 cd
      refine ev_iconst 18 rfl dX11_isIn_17 (by decide) ?_
      exact ev_retZ dX11_isIn_18 rfl (by decide) H
    · have H := H.2 cd
      refine ev_iconst 14 rfl dX11_isIn_13 (by decide) ?_
      refine ev_goto (tgt := 18) dX11_isIn_14 (by decide) ?_
      exact ev_retZ dX11_isIn_18 rfl (by decide) H

set_option maxRecDepth 20000 in
theorem b_X11_isSpot {X : qX} {d : Nat} {sh : qS} {pt h : qM} {K : Int → qM → Prop} {v0 v1 : Int} (hst : St sh pt)
    (H : RunI X d mX11_isIn [(1, v0), (1, 0), (1, 59)] sh pt h (fun r2 h1 => ((r2 = 0 → K 0 h1) ∧ (¬ r2 = 0 → RunI X d mX11_isIn [(1, v1), (1, 0), (1, 39)] sh pt h1 (fun r4 h3 => ((r4 = 0 → K 0 h3) ∧ (¬ r4 = 0 → K 1 h3))))))) :
    RunI X (d + 1) mX11_isSpot [(0, v0), (0, v1)] sh pt h K := by
  show Ev X (d + 1) 0 0 mX11_isSpot 0 [(0, v0), (0, v1)] [] (sh, pt, h) (qRI sh pt K)
  refine ev_iload_n 1 rfl dX11_isSpot_0 rfl rfl ?_
  refine ev_i2l 2 rfl dX11_isSpot_1 ?_
  refine ev_lconst (v := 0) 3 rfl dX11_isSpot_2 (by decide) (by decide) ?_
  refine ev_ldc2 6 rfl dX11_isSpot_3 kl_11_219 (by decide) ?_
  refine ev_cSI (As := [(1, v0), (1, 0), (1, 59)]) (rest := []) 9 rfl dX11_isSpot_6 lm_11_221 mm_X11_isIn rfl rfl (Nat.le_of_ble_eq_true rfl) (Nat.le_of_ble_eq_true rfl) (Nat.le_refl _) H ?_
  intro r2 h1 H
  refine ev_if_eq (tgt := 28) 12 rfl dX11_isSpot_9 (by decide) (fun cd => ?_) (fun cd => ?_)
  · have H := H.1 cd
    refine ev_iconst 29 rfl dX11_isSpot_28 (by decide) ?_
    exact ev_retZ dX11_isSpot_29 rfl (by decide) H
  · have H := H.2 cd
    refine ev_iload_n 13 rfl dX11_isSpot_12 rfl rfl ?_
    refine ev_i2l 14 rfl dX11_isSpot_13 ?_
    refine ev_lconst (v := 0) 15 rfl dX11_isSpot_14 (by decide) (by decide) ?_
    refine ev_ldc2 18 rfl dX11_isSpot_15 kl_11_225 (by decide) ?_
    refine ev_cSI (As := [(1, v1), (1, 0), (1, 39)]) (rest := []) 21 rfl dX11_isSpot_18 lm_11_221 mm_X11_isIn rfl rfl (Nat.le_of_ble_eq_true rfl) (Nat.le_of_ble_eq_true rfl) (Nat.le_refl _) H ?_
    intro r4 h3 H
    refine ev_if_eq (tgt := 28) 24 rfl dX11_isSpot_21 (by decide) (fun cd => ?_) (fun cd => ?_)
    · have H := H.1 cd
      refine ev_iconst 29 rfl dX11_isSpot_28 (by decide) ?_
      exact ev_retZ dX11_isSpot_29 rfl (by decide) H
    · have H := H.2 cd
      refine ev_iconst 25 rfl dX11_isSpot_24 (by decide) ?_
      refine ev_goto (tgt := 29) dX11_isSpot_25 (by decide) ?_
      exact ev_retZ dX11_isSpot_29 rfl (by decide) H

set_option maxRecDepth 20000 in
theorem b_X11_cut {X : qX} {d : Nat} {sh : qS} {pt h : qM} {K : Int → qM → Prop} {v0 v1 : Int} (hst : St sh pt)
    (H : ((¬ v0 = 0 → ((¬ v0 = 1 → ((¬ v0 = 2 → K v1 h) ∧ (v0 = 2 → K (ql2i v1) h))) ∧ (v0 = 1 → K (qi2s (ql2i v1)) h))) ∧ (v0 = 0 → K (qi2b (ql2i v1)) h))) :
    RunL X d mX11_cut [(0, v0), (1, v1)] sh pt h K := by
  show Ev X d 0 0 mX11_cut 0 [(0, v0), (1, v1), (8, -1)] [] (sh, pt, h) (qRL sh pt K)
  refine ev_iload_n 1 rfl dX11_cut_0 rfl rfl ?_
  refine ev_if_ne (tgt := 11) 4 rfl dX11_cut_1 (by decide) (fun cd => ?_) (fun cd => ?_)
  · have H := H.1 cd
    refine ev_iload_n 12 rfl dX11_cut_11 rfl rfl ?_
    refine ev_iconst 13 rfl dX11_cut_12 (by decide) ?_
    refine ev_icmp_ne (tgt := 23) 16 rfl dX11_cut_13 (by decide) (fun cd => ?_) (fun cd => ?_)
    · have H := H.1 cd
      refine ev_iload_n 24 rfl dX11_cut_23 rfl rfl ?_
      refine ev_iconst 25 rfl dX11_cut_24 (by decide) ?_
      refine ev_icmp_ne (tgt := 34) 28 rfl dX11_cut_25 (by decide) (fun cd => ?_) (fun cd => ?_)
      · have H := H.1 cd
        refine ev_lload_n 35 rfl dX11_cut_34 rfl rfl ?_
        exact ev_retL dX11_cut_35 rfl H
      · have H := H.2 cd
        refine ev_lload_n 29 rfl dX11_cut_28 rfl rfl ?_
        refine ev_l2i 30 rfl dX11_cut_29 ?_
        refine ev_i2l 31 rfl dX11_cut_30 ?_
        refine ev_goto (tgt := 35) dX11_cut_31 (by decide) ?_
        exact ev_retL dX11_cut_35 rfl H
    · have H := H.2 cd
      refine ev_lload_n 17 rfl dX11_cut_16 rfl rfl ?_
      refine ev_l2i 18 rfl dX11_cut_17 ?_
      refine ev_i2s 19 rfl dX11_cut_18 ?_
      refine ev_i2l 20 rfl dX11_cut_19 ?_
      refine ev_goto (tgt := 35) dX11_cut_20 (by decide) ?_
      exact ev_retL dX11_cut_35 rfl H
  · have H := H.2 cd
    refine ev_lload_n 5 rfl dX11_cut_4 rfl rfl ?_
    refine ev_l2i 6 rfl dX11_cut_5 ?_
    refine ev_i2b 7 rfl dX11_cut_6 ?_
    refine ev_i2l 8 rfl dX11_cut_7 ?_
    refine ev_goto (tgt := 35) dX11_cut_8 (by decide) ?_
    exact ev_retL dX11_cut_35 rfl H

set_option maxRecDepth 20000 in
theorem b_X11_tray {X : qX} {d : Nat} {sh : qS} {pt h : qM} {K : Int → qM → Prop} {v1 v2 v3 : Int} (hst : St sh pt)
    (H : ∀ h1 : qM, h1 = qup h 78 1 0 → ∀ h2 : qM, h2 = qup h1 78 0 0 → ((v1 < 0 → RunI X d mX11_no [(2, 78), (0, 1)] sh pt h2 (fun r4 h3 => (0 ≤ r4 ∧ r4 ≤ 1) ∧ K r4 h3)) ∧ (0 ≤ v1 → ((4 ≤ v1 → RunI X d mX11_no [(2, 78), (0, 1)] sh pt h2 (fun r6 h5 => (0 ≤ r6 ∧ r6 ≤ 1) ∧ K r6 h5)) ∧ (v1 < 4 → ((v2 < 0 → RunI X d mX11_no [(2, 78), (0, 1)] sh pt h2 (fun r8 h7 => (0 ≤ r8 ∧ r8 ≤ 1) ∧ K r8 h7)) ∧ (0 ≤ v2 → ((v2 ≤ 3 → ((v3 ≤ 40 → ((0 ≤ v3 → (0 ≤ v1 ∧ v1 < 4) ∧ ∀ h10 : qM, h10 = qup h2 79 v1 v2 → (0 ≤ v1 ∧ v1 < 4) ∧ ∀ h12 : qM, h12 = qup h10 80 v1 v3 → EvI X (d + 1) mX11_tray 74 [(2, 78), (0, v1), (8, -1), (0, v3), (0, 0)] [] sh pt h12 K) ∧ (v3 < 0 → RunI X d mX11_no [(2, 78), (0, 6)] sh pt h2 (fun r14 h13 => (0 ≤ r14 ∧ r14 ≤ 1) ∧ K r14 h13)))) ∧ (40 < v3 → RunI X d mX11_no [(2, 78), (0, 5)] sh pt h2 (fun r16 h15 => (0 ≤ r16 ∧ r16 ≤ 1) ∧ K r16 h15)))) ∧ (3 < v2 → RunI X d mX11_no [(2, 78), (0, 1)] sh pt h2 (fun r18 h17 => (0 ≤ r18 ∧ r18 ≤ 1) ∧ K r18 h17)))))))))) :
    RunI X (d + 1) mX11_tray [(2, 78), (0, v1), (0, v2), (0, v3)] sh pt h K := by
  show Ev X (d + 1) 0 0 mX11_tray 0 [(2, 78), (0, v1), (0, v2), (0, v3), (8, -1)] [] (sh, pt, h) (qRI sh pt K)
  refine ev_aload_n 1 rfl dX11_tray_0 rfl rfl ?_
  refine ev_iconst 2 rfl dX11_tray_1 (by decide) ?_
  refine ev_putI (ki := 1) 5 rfl dX11_tray_2 lf_11_213 (Or.inl rfl) (s_78 hst) (by decide) rfl ?_
  obtain ⟨h1, eh1⟩ : ∃ z : qM, z = qup h 78 1 0 := ⟨_, rfl⟩
  rw [← eh1]
  have H := H h1 eh1
  refine ev_aload_n 6 rfl dX11_tray_5 rfl rfl ?_
  refine ev_iconst 7 rfl dX11_tray_6 (by decide) ?_
  refine ev_putI (ki := 0) 10 rfl dX11_tray_7 lf_11_216 (Or.inl rfl) (s_78 hst) (by decide) rfl ?_
  obtain ⟨h2, eh2⟩ : ∃ z : qM, z = qup h1 78 0 0 := ⟨_, rfl⟩
  rw [← eh2]
  have H := H h2 eh2
  refine ev_iload_n 11 rfl dX11_tray_10 rfl rfl ?_
  refine ev_if_lt (tgt := 28) 14 rfl dX11_tray_11 (by decide) (fun cd => ?_) (fun cd => ?_)
  · have H := H.1 cd
    refine ev_aload_n 29 rfl dX11_tray_28 rfl rfl ?_
    refine ev_iconst 30 rfl dX11_tray_29 (by decide) ?_
    refine ev_cVI (As := [(0, 1)]) (rest := []) 33 rfl dX11_tray_30 lm_11_227 mm_X11_no (s_78 hst) rfl rfl (Nat.le_of_ble_eq_true rfl) (Nat.le_of_ble_eq_true rfl) (Nat.le_refl _) H ?_
    intro r4 h3 H
    obtain ⟨sd, H⟩ := H
    exact ev_retZ dX11_tray_33 rfl sd H
  · have H := H.2 cd
    refine ev_iload_n 15 rfl dX11_tray_14 rfl rfl ?_
    refine ev_iconst 16 rfl dX11_tray_15 (by decide) ?_
    refine ev_icmp_ge (tgt := 28) 19 rfl dX11_tray_16 (by decide) (fun cd => ?_) (fun cd => ?_)
    · have H := H.1 cd
      refine ev_aload_n 29 rfl dX11_tray_28 rfl rfl ?_
      refine ev_iconst 30 rfl dX11_tray_29 (by decide) ?_
      refine ev_cVI (As := [(0, 1)]) (rest := []) 33 rfl dX11_tray_30 lm_11_227 mm_X11_no (s_78 hst) rfl rfl (Nat.le_of_ble_eq_true rfl) (Nat.le_of_ble_eq_true rfl) (Nat.le_refl _) H ?_
      intro r6 h5 H
      obtain ⟨sd, H⟩ := H
      exact ev_retZ dX11_tray_33 rfl sd H
    · have H := H.2 cd
      refine ev_iload_n 20 rfl dX11_tray_19 rfl rfl ?_
      refine ev_if_lt (tgt := 28) 23 rfl dX11_tray_20 (by decide) (fun cd => ?_) (fun cd => ?_)
      · have H := H.1 cd
        refine ev_aload_n 29 rfl dX11_tray_28 rfl rfl ?_
        refine ev_iconst 30 rfl dX11_tray_29 (by decide) ?_
        refine ev_cVI (As := [(0, 1)]) (rest := []) 33 rfl dX11_tray_30 lm_11_227 mm_X11_no (s_78 hst) rfl rfl (Nat.le_of_ble_eq_true rfl) (Nat.le_of_ble_eq_true rfl) (Nat.le_refl _) H ?_
        intro r8 h7 H
        obtain ⟨sd, H⟩ := H
        exact ev_retZ dX11_tray_33 rfl sd H
      · have H := H.2 cd
        refine ev_iload_n 24 rfl dX11_tray_23 rfl rfl ?_
        refine ev_iconst 25 rfl dX11_tray_24 (by decide) ?_
        refine ev_icmp_le (tgt := 34) 28 rfl dX11_tray_25 (by decide) (fun cd => ?_) (fun cd => ?_)
        · have H := H.1 cd
          refine ev_iload_n 35 rfl dX11_tray_34 rfl rfl ?_
          refine ev_bipush 37 rfl dX11_tray_35 (by decide) (by decide) ?_
          refine ev_icmp_le (tgt := 46) 40 rfl dX11_tray_37 (by decide) (fun cd => ?_) (fun cd => ?_)
          · have H := H.1 cd
            refine ev_iload_n 47 rfl dX11_tray_46 rfl rfl ?_
            refine ev_if_ge (tgt := 57) 50 rfl dX11_tray_47 (by decide) (fun cd => ?_) (fun cd => ?_)
            · have H := H.1 cd
              refine ev_aload_n 58 rfl dX11_tray_57 rfl rfl ?_
              refine ev_getR (ki := 4) (v := 79) 61 rfl dX11_tray_58 lf_11_13 (s_78 hst) (by decide) rfl (p_78_4 hst) ?_
              refine ev_iload_n 62 rfl dX11_tray_61 rfl rfl ?_
              refine ev_iload_n 63 rfl dX11_tray_62 rfl rfl ?_
              obtain ⟨b9, H⟩ := H
              refine ev_iastore 64 rfl dX11_tray_63 (s_79 hst) b9.1 b9.2 ?_
              obtain ⟨h10, eh10⟩ : ∃ z : qM, z = qup h2 79 v1 v2 := ⟨_, rfl⟩
              rw [← eh10]
              have H := H h10 eh10
              refine ev_aload_n 65 rfl dX11_tray_64 rfl rfl ?_
              refine ev_getR (ki := 5) (v := 80) 68 rfl dX11_tray_65 lf_11_17 (s_78 hst) (by decide) rfl (p_78_5 hst) ?_
              refine ev_iload_n 69 rfl dX11_tray_68 rfl rfl ?_
              refine ev_iload_n 70 rfl dX11_tray_69 rfl rfl ?_
              obtain ⟨b11, H⟩ := H
              refine ev_iastore 71 rfl dX11_tray_70 (s_80 hst) b11.1 b11.2 ?_
              obtain ⟨h12, eh12⟩ : ∃ z : qM, z = qup h10 80 v1 v3 := ⟨_, rfl⟩
              rw [← eh12]
              have H := H h12 eh12
              refine ev_iconst 72 rfl dX11_tray_71 (by decide) ?_
              refine ev_istore (L1 := [(2, 78), (0, v1), (0, v2), (0, v3), (0, 0)]) 74 rfl dX11_tray_72 (Nat.le_of_ble_eq_true rfl) rfl ?_
              refine Ev.drop [2] rfl ?_
              exact H
            · have H := H.2 cd
              refine ev_aload_n 51 rfl dX11_tray_50 rfl rfl ?_
              refine ev_bipush 53 rfl dX11_tray_51 (by decide) (by decide) ?_
              refine ev_cVI (As := [(0, 6)]) (rest := []) 56 rfl dX11_tray_53 lm_11_227 mm_X11_no (s_78 hst) rfl rfl (Nat.le_of_ble_eq_true rfl) (Nat.le_of_ble_eq_true rfl) (Nat.le_refl _) H ?_
              intro r14 h13 H
              obtain ⟨sd, H⟩ := H
              exact ev_retZ dX11_tray_56 rfl sd H
          · have H := H.2 cd
            refine ev_aload_n 41 rfl dX11_tray_40 rfl rfl ?_
            refine ev_iconst 42 rfl dX11_tray_41 (by decide) ?_
            refine ev_cVI (As := [(0, 5)]) (rest := []) 45 rfl dX11_tray_42 lm_11_227 mm_X11_no (s_78 hst) rfl rfl (Nat.le_of_ble_eq_true rfl) (Nat.le_of_ble_eq_true rfl) (Nat.le_refl _) H ?_
            intro r16 h15 H
            obtain ⟨sd, H⟩ := H
            exact ev_retZ dX11_tray_45 rfl sd H
        · have H := H.2 cd
          refine ev_aload_n 29 rfl dX11_tray_28 rfl rfl ?_
          refine ev_iconst 30 rfl dX11_tray_29 (by decide) ?_
          refine ev_cVI (As := [(0, 1)]) (rest := []) 33 rfl dX11_tray_30 lm_11_227 mm_X11_no (s_78 hst) rfl rfl (Nat.le_of_ble_eq_true rfl) (Nat.le_of_ble_eq_true rfl) (Nat.le_refl _) H ?_
          intro r18 h17 H
          obtain ⟨sd, H⟩ := H
          exact ev_retZ dX11_tray_33 rfl sd H

set_option maxRecDepth 20000 in
theorem b_X11_tray_74 {X : qX} {d : Nat} {sh : qS} {pt h : qM} {K : Int → qM → Prop} {v1 v3 v4 : Int} (hst : St sh pt)
    (H : ((v3 ≤ v4 → K 1 h) ∧ (v4 < v3 → (qI (40 * v1)) ∧ (qI ((40 * v1) + v4)) ∧ (0 ≤ ((40 * v1) + v4) ∧ ((40 * v1) + v4) < 160) ∧ ∀ h2 : qM, h2 = qup h 81 ((40 * v1) + v4) 0 → (qI (v4 + 1)) ∧ EvI X (d + 1) mX11_tray 74 [(2, 78), (0, v1), (8, -1), (0, v3), (0, (v4 + 1))] [] sh pt h2 K))) :
    EvI X (d + 1) mX11_tray 74 [(2, 78), (0, v1), (8, -1), (0, v3), (0, v4)] [] sh pt h K := by
  show Ev X (d + 1) 0 0 mX11_tray 74 [(2, 78), (0, v1), (8, -1), (0, v3), (0, v4)] [] (sh, pt, h) (qRI sh pt K)
  refine ev_iload 76 rfl dX11_tray_74 rfl ?_
  refine ev_iload_n 77 rfl dX11_tray_76 rfl rfl ?_
  refine ev_icmp_ge (tgt := 99) 80 rfl dX11_tray_77 (by decide) (fun cd => ?_) (fun cd => ?_)
  · have H := H.1 cd
    refine ev_iconst 100 rfl dX11_tray_99 (by decide) ?_
    exact ev_retZ dX11_tray_100 rfl (by decide) H
  · have H := H.2 cd
    refine ev_aload_n 81 rfl dX11_tray_80 rfl rfl ?_
    refine ev_getR (ki := 6) (v := 81) 84 rfl dX11_tray_81 lf_11_20 (s_78 hst) (by decide) rfl (p_78_6 hst) ?_
    refine ev_bipush 86 rfl dX11_tray_84 (by decide) (by decide) ?_
    refine ev_iload_n 87 rfl dX11_tray_86 rfl rfl ?_
    obtain ⟨sd, H⟩ := H
    refine ev_imul 88 rfl dX11_tray_87 sd ?_
    refine ev_iload 90 rfl dX11_tray_88 rfl ?_
    obtain ⟨sd, H⟩ := H
    refine ev_iadd 91 rfl dX11_tray_90 sd ?_
    refine ev_lconst (v := 0) 92 rfl dX11_tray_91 (by decide) (by decide) ?_
    obtain ⟨b1, H⟩ := H
    refine ev_lastore 93 rfl dX11_tray_92 (s_81 hst) b1.1 b1.2 ?_
    obtain ⟨h2, eh2⟩ : ∃ z : qM, z = qup h 81 ((40 * v1) + v4) 0 := ⟨_, rfl⟩
    rw [← eh2]
    have H := H h2 eh2
    obtain ⟨sd, H⟩ := H
    refine ev_iinc (L1 := [(2, 78), (0, v1), (8, -1), (0, v3), (0, (v4 + 1))]) 96 rfl dX11_tray_93 rfl sd (Nat.le_of_ble_eq_true rfl) rfl ?_
    refine ev_goto (tgt := 74) dX11_tray_96 (by decide) ?_
    exact H

set_option maxRecDepth 20000 in
theorem b_X11_trayed {X : qX} {d : Nat} {sh : qS} {pt h : qM} {K : Int → qM → Prop} {v1 : Int} (hst : St sh pt)
    (H : ((v1 < 0 → K 1 h) ∧ (0 ≤ v1 → ((v1 < 4 → (0 ≤ v1 ∧ v1 < 4) ∧ ((0 ≤ (h 80 v1) → K 0 h) ∧ ((h 80 v1) < 0 → K 3 h))) ∧ (4 ≤ v1 → K 1 h))))) :
    RunI X d mX11_trayed [(2, 78), (0, v1)] sh pt h K := by
  show Ev X d 0 0 mX11_trayed 0 [(2, 78), (0, v1)] [] (sh, pt, h) (qRI sh pt K)
  refine ev_iload_n 1 rfl dX11_trayed_0 rfl rfl ?_
  refine ev_if_lt (tgt := 9) 4 rfl dX11_trayed_1 (by decide) (fun cd => ?_) (fun cd => ?_)
  · have H := H.1 cd
    refine ev_iconst 10 rfl dX11_trayed_9 (by decide) ?_
    refine ev_goto (tgt := 27) dX11_trayed_10 (by decide) ?_
    exact ev_retI dX11_trayed_27 rfl H
  · have H := H.2 cd
    refine ev_iload_n 5 rfl dX11_trayed_4 rfl rfl ?_
    refine ev_iconst 6 rfl dX11_trayed_5 (by decide) ?_
    refine ev_icmp_lt (tgt := 13) 9 rfl dX11_trayed_6 (by decide) (fun cd => ?_) (fun cd => ?_)
    · have H := H.1 cd
      refine ev_aload_n 14 rfl dX11_trayed_13 rfl rfl ?_
      refine ev_getR (ki := 5) (v := 80) 17 rfl dX11_trayed_14 lf_11_17 (s_78 hst) (by decide) rfl (p_78_5 hst) ?_
      refine ev_iload_n 18 rfl dX11_trayed_17 rfl rfl ?_
      obtain ⟨b1, H⟩ := H
      refine ev_iaload 19 rfl dX11_trayed_18 (s_80 hst) b1.1 b1.2 ?_
      refine ev_if_ge (tgt := 26) 22 rfl dX11_trayed_19 (by decide) (fun cd => ?_) (fun cd => ?_)
      · have H := H.1 cd
        refine ev_iconst 27 rfl dX11_trayed_26 (by decide) ?_
        exact ev_retI dX11_trayed_27 rfl H
      · have H := H.2 cd
        refine ev_iconst 23 rfl dX11_trayed_22 (by decide) ?_
        refine ev_goto (tgt := 27) dX11_trayed_23 (by decide) ?_
        exact ev_retI dX11_trayed_27 rfl H
    · have H := H.2 cd
      refine ev_iconst 10 rfl dX11_trayed_9 (by decide) ?_
      refine ev_goto (tgt := 27) dX11_trayed_10 (by decide) ?_
      exact ev_retI dX11_trayed_27 rfl H

set_option maxRecDepth 20000 in
theorem b_X11_placed {X : qX} {d : Nat} {sh : qS} {pt h : qM} {K : Int → qM → Prop} {v1 v2 : Int} (hst : St sh pt)
    (H : RunI X d mX11_trayed [(2, 78), (0, v1)] sh pt h (fun r2 h1 => ((r2 ≤ 0 → ((v2 < 0 → K 4 h1) ∧ (0 ≤ v2 → (0 ≤ v1 ∧ v1 < 4) ∧ ((v2 < (h1 80 v1) → K 0 h1) ∧ ((h1 80 v1) ≤ v2 → K 4 h1))))) ∧ (0 < r2 → K r2 h1)))) :
    RunI X (d + 1) mX11_placed [(2, 78), (0, v1), (0, v2)] sh pt h K := by
  show Ev X (d + 1) 0 0 mX11_placed 0 [(2, 78), (0, v1), (0, v2), (8, -1)] [] (sh, pt, h) (qRI sh pt K)
  refine ev_aload_n 1 rfl dX11_placed_0 rfl rfl ?_
  refine ev_iload_n 2 rfl dX11_placed_1 rfl rfl ?_
  refine ev_cVI (As := [(0, v1)]) (rest := []) 5 rfl dX11_placed_2 lm_11_231 mm_X11_trayed (s_78 hst) rfl rfl (Nat.le_of_ble_eq_true rfl) (Nat.le_of_ble_eq_true rfl) (Nat.le_refl _) H ?_
  intro r2 h1 H
  refine ev_istore_n (L1 := [(2, 78), (0, v1), (0, v2), (0, r2)]) 6 rfl dX11_placed_5 rfl (Nat.le_of_ble_eq_true rfl) rfl ?_
  refine ev_iload_n 7 rfl dX11_placed_6 rfl rfl ?_
  refine ev_if_le (tgt := 14) 10 rfl dX11_placed_7 (by decide) (fun cd => ?_) (fun cd => ?_)
  · have H := H.1 cd
    refine ev_iload_n 15 rfl dX11_placed_14 rfl rfl ?_
    refine ev_if_lt (tgt := 28) 18 rfl dX11_placed_15 (by decide) (fun cd => ?_) (fun cd => ?_)
    · have H := H.1 cd
      refine ev_iconst 29 rfl dX11_placed_28 (by decide) ?_
      refine ev_goto (tgt := 33) dX11_placed_29 (by decide) ?_
      exact ev_retI dX11_placed_33 rfl H
    · have H := H.2 cd
      refine ev_iload_n 19 rfl dX11_placed_18 rfl rfl ?_
      refine ev_aload_n 20 rfl dX11_placed_19 rfl rfl ?_
      refine ev_getR (ki := 5) (v := 80) 23 rfl dX11_placed_20 lf_11_17 (s_78 hst) (by decide) rfl (p_78_5 hst) ?_
      refine ev_iload_n 24 rfl dX11_placed_23 rfl rfl ?_
      obtain ⟨b3, H⟩ := H
      refine ev_iaload 25 rfl dX11_placed_24 (s_80 hst) b3.1 b3.2 ?_
      refine ev_icmp_lt (tgt := 32) 28 rfl dX11_placed_25 (by decide) (fun cd => ?_) (fun cd => ?_)
      · have H := H.1 cd
        refine ev_iconst 33 rfl dX11_placed_32 (by decide) ?_
        exact ev_retI dX11_placed_33 rfl H
      · have H := H.2 cd
        refine ev_iconst 29 rfl dX11_placed_28 (by decide) ?_
        refine ev_goto (tgt := 33) dX11_placed_29 (by decide) ?_
        exact ev_retI dX11_placed_33 rfl H
  · have H := H.2 cd
    refine ev_iload_n 11 rfl dX11_placed_10 rfl rfl ?_
    refine ev_goto (tgt := 33) dX11_placed_11 (by decide) ?_
    exact ev_retI dX11_placed_33 rfl H

set_option maxRecDepth 20000 in
theorem b_X11_write {X : qX} {d : Nat} {sh : qS} {pt h : qM} {K : Int → qM → Prop} {v1 v2 v3 : Int} (hst : St sh pt)
    (H : ∀ h1 : qM, h1 = qup h 78 1 0 → RunI X d mX11_placed [(2, 78), (0, v1), (0, v2)] sh pt h1 (fun r3 h2 => ∀ h4 : qM, h4 = qup h2 78 0 r3 → (((h4 78 0) ≤ 0 → (qI (40 * v1)) ∧ (qI ((40 * v1) + v2)) ∧ (0 ≤ v1 ∧ v1 < 4) ∧ RunL X d mX11_cut [(0, (h4 79 v1)), (1, v3)] sh pt h4 (fun r7 h6 => (0 ≤ ((40 * v1) + v2) ∧ ((40 * v1) + v2) < 160) ∧ ∀ h9 : qM, h9 = qup h6 81 ((40 * v1) + v2) r7 → K 1 h9)) ∧ (0 < (h4 78 0) → K 0 h4)))) :
    RunI X (d + 1) mX11_write [(2, 78), (0, v1), (0, v2), (1, v3)] sh pt h K := by
  show Ev X (d + 1) 0 0 mX11_write 0 [(2, 78), (0, v1), (0, v2), (1, v3), (8, -1)] [] (sh, pt, h) (qRI sh pt K)
  refine ev_aload_n 1 rfl dX11_write_0 rfl rfl ?_
  refine ev_iconst 2 rfl dX11_write_1 (by decide) ?_
  refine ev_putI (ki := 1) 5 rfl dX11_write_2 lf_11_213 (Or.inl rfl) (s_78 hst) (by decide) rfl ?_
  obtain ⟨h1, eh1⟩ : ∃ z : qM, z = qup h 78 1 0 := ⟨_, rfl⟩
  rw [← eh1]
  have H := H h1 eh1
  refine ev_aload_n 6 rfl dX11_write_5 rfl rfl ?_
  refine ev_aload_n 7 rfl dX11_write_6 rfl rfl ?_
  refine ev_iload_n 8 rfl dX11_write_7 rfl rfl ?_
  refine ev_iload_n 9 rfl dX11_write_8 rfl rfl ?_
  refine ev_cVI (As := [(0, v1), (0, v2)]) (rest := [(2, 78)]) 12 rfl dX11_write_9 lm_11_235 mm_X11_placed (s_78 hst) rfl rfl (Nat.le_of_ble_eq_true rfl) (Nat.le_of_ble_eq_true rfl) (Nat.le_refl _) H ?_
  intro r3 h2 H
  refine ev_putI (ki := 0) 15 rfl dX11_write_12 lf_11_216 (Or.inl rfl) (s_78 hst) (by decide) rfl ?_
  obtain ⟨h4, eh4⟩ : ∃ z : qM, z = qup h2 78 0 r3 := ⟨_, rfl⟩
  rw [← eh4]
  have H := H h4 eh4
  refine ev_aload_n 16 rfl dX11_write_15 rfl rfl ?_
  refine ev_getI (ki := 0) 19 rfl dX11_write_16 lf_11_216 (Or.inl rfl) (s_78 hst) (by decide) rfl ?_
  refine ev_if_le (tgt := 24) 22 rfl dX11_write_19 (by decide) (fun cd => ?_) (fun cd => ?_)
  · have H := H.1 cd
    refine ev_aload_n 25 rfl dX11_write_24 rfl rfl ?_
    refine ev_getR (ki := 6) (v := 81) 28 rfl dX11_write_25 lf_11_20 (s_78 hst) (by decide) rfl (p_78_6 hst) ?_
    refine ev_bipush 30 rfl dX11_write_28 (by decide) (by decide) ?_
    refine ev_iload_n 31 rfl dX11_write_30 rfl rfl ?_
    obtain ⟨sd, H⟩ := H
    refine ev_imul 32 rfl dX11_write_31 sd ?_
    refine ev_iload_n 33 rfl dX11_write_32 rfl rfl ?_
    obtain ⟨sd, H⟩ := H
    refine ev_iadd 34 rfl dX11_write_33 sd ?_
    refine ev_aload_n 35 rfl dX11_write_34 rfl rfl ?_
    refine ev_getR (ki := 4) (v := 79) 38 rfl dX11_write_35 lf_11_13 (s_78 hst) (by decide) rfl (p_78_4 hst) ?_
    refine ev_iload_n 39 rfl dX11_write_38 rfl rfl ?_
    obtain ⟨b5, H⟩ := H
    refine ev_iaload 40 rfl dX11_write_39 (s_79 hst) b5.1 b5.2 ?_
    refine ev_lload_n 41 rfl dX11_write_40 rfl rfl ?_
    refine ev_cSL (As := [(0, (h4 79 v1)), (1, v3)]) (rest := [(0, ((40 * v1) + v2)), (2, 81)]) 44 rfl dX11_write_41 lm_11_239 mm_X11_cut rfl rfl (Nat.le_of_ble_eq_true rfl) (Nat.le_of_ble_eq_true rfl) (Nat.le_refl _) H ?_
    intro r7 h6 H
    obtain ⟨b8, H⟩ := H
    refine ev_lastore 45 rfl dX11_write_44 (s_81 hst) b8.1 b8.2 ?_
    obtain ⟨h9, eh9⟩ : ∃ z : qM, z = qup h6 81 ((40 * v1) + v2) r7 := ⟨_, rfl⟩
    rw [← eh9]
    have H := H h9 eh9
    refine ev_iconst 46 rfl dX11_write_45 (by decide) ?_
    exact ev_retZ dX11_write_46 rfl (by decide) H
  · have H := H.2 cd
    refine ev_iconst 23 rfl dX11_write_22 (by decide) ?_
    exact ev_retZ dX11_write_23 rfl (by decide) H

set_option maxRecDepth 20000 in
theorem b_X11_read {X : qX} {d : Nat} {sh : qS} {pt h : qM} {K : Int → qM → Prop} {v1 v2 : Int} (hst : St sh pt)
    (H : ∀ h1 : qM, h1 = qup h 78 1 0 → RunI X d mX11_placed [(2, 78), (0, v1), (0, v2)] sh pt h1 (fun r3 h2 => ∀ h4 : qM, h4 = qup h2 78 0 r3 → (((h4 78 0) ≤ 0 → (qI (40 * v1)) ∧ (qI ((40 * v1) + v2)) ∧ (0 ≤ ((40 * v1) + v2) ∧ ((40 * v1) + v2) < 160) ∧ K (h4 81 ((40 * v1) + v2)) h4) ∧ (0 < (h4 78 0) → K (-1) h4)))) :
    RunL X (d + 1) mX11_read [(2, 78), (0, v1), (0, v2)] sh pt h K := by
  show Ev X (d + 1) 0 0 mX11_read 0 [(2, 78), (0, v1), (0, v2)] [] (sh, pt, h) (qRL sh pt K)
  refine ev_aload_n 1 rfl dX11_read_0 rfl rfl ?_
  refine ev_iconst 2 rfl dX11_read_1 (by decide) ?_
  refine ev_putI (ki := 1) 5 rfl dX11_read_2 lf_11_213 (Or.inl rfl) (s_78 hst) (by decide) rfl ?_
  obtain ⟨h1, eh1⟩ : ∃ z : qM, z = qup h 78 1 0 := ⟨_, rfl⟩
  rw [← eh1]
  have H := H h1 eh1
  refine ev_aload_n 6 rfl dX11_read_5 rfl rfl ?_
  refine ev_aload_n 7 rfl dX11_read_6 rfl rfl ?_
  refine ev_iload_n 8 rfl dX11_read_7 rfl rfl ?_
  refine ev_iload_n 9 rfl dX11_read_8 rfl rfl ?_
  refine ev_cVI (As := [(0, v1), (0, v2)]) (rest := [(2, 78)]) 12 rfl dX11_read_9 lm_11_235 mm_X11_placed (s_78 hst) rfl rfl (Nat.le_of_ble_eq_true rfl) (Nat.le_of_ble_eq_true rfl) (Nat.le_refl _) H ?_
  intro r3 h2 H
  refine ev_putI (ki := 0) 15 rfl dX11_read_12 lf_11_216 (Or.inl rfl) (s_78 hst) (by decide) rfl ?_
  obtain ⟨h4, eh4⟩ : ∃ z : qM, z = qup h2 78 0 r3 := ⟨_, rfl⟩
  rw [← eh4]
  have H := H h4 eh4
  refine ev_aload_n 16 rfl dX11_read_15 rfl rfl ?_
  refine ev_getI (ki := 0) 19 rfl dX11_read_16 lf_11_216 (Or.inl rfl) (s_78 hst) (by decide) rfl ?_
  refine ev_if_le (tgt := 28) 22 rfl dX11_read_19 (by decide) (fun cd => ?_) (fun cd => ?_)
  · have H := H.1 cd
    refine ev_aload_n 29 rfl dX11_read_28 rfl rfl ?_
    refine ev_getR (ki := 6) (v := 81) 32 rfl dX11_read_29 lf_11_20 (s_78 hst) (by decide) rfl (p_78_6 hst) ?_
    refine ev_bipush 34 rfl dX11_read_32 (by decide) (by decide) ?_
    refine ev_iload_n 35 rfl dX11_read_34 rfl rfl ?_
    obtain ⟨sd, H⟩ := H
    refine ev_imul 36 rfl dX11_read_35 sd ?_
    refine ev_iload_n 37 rfl dX11_read_36 rfl rfl ?_
    obtain ⟨sd, H⟩ := H
    refine ev_iadd 38 rfl dX11_read_37 sd ?_
    obtain ⟨b5, H⟩ := H
    refine ev_laload 39 rfl dX11_read_38 (s_81 hst) b5.1 b5.2 ?_
    exact ev_retL dX11_read_39 rfl H
  · have H := H.2 cd
    refine ev_ldc2 25 rfl dX11_read_22 kl_11_243 (by decide) ?_
    refine ev_goto (tgt := 39) dX11_read_25 (by decide) ?_
    exact ev_retL dX11_read_39 rfl H

set_option maxRecDepth 20000 in
theorem b_X11_pour {X : qX} {d : Nat} {sh : qS} {pt h : qM} {K : Int → qM → Prop} {v1 v2 v3 v4 v5 : Int} (hst : St sh pt)
    (H : ∀ h1 : qM, h1 = qup h 78 1 0 → ∀ h2 : qM, h2 = qup h1 78 0 0 → ((v1 < 0 → RunI X d mX11_no [(2, 78), (0, 1)] sh pt h2 (fun r4 h3 => (0 ≤ r4 ∧ r4 ≤ 1) ∧ K r4 h3)) ∧ (0 ≤ v1 → ((4 ≤ v1 → RunI X d mX11_no [(2, 78), (0, 1)] sh pt h2 (fun r6 h5 => (0 ≤ r6 ∧ r6 ≤ 1) ∧ K r6 h5)) ∧ (v1 < 4 → ((v3 < 0 → RunI X d mX11_no [(2, 78), (0, 1)] sh pt h2 (fun r8 h7 => (0 ≤ r8 ∧ r8 ≤ 1) ∧ K r8 h7)) ∧ (0 ≤ v3 → ((v3 < 4 → (0 ≤ v1 ∧ v1 < 4) ∧ (((h2 80 v1) < 0 → RunI X d mX11_no [(2, 78), (0, 3)] sh pt h2 (fun r11 h10 => (0 ≤ r11 ∧ r11 ≤ 1) ∧ K r11 h10)) ∧ (0 ≤ (h2 80 v1) → (0 ≤ v3 ∧ v3 < 4) ∧ ((0 ≤ (h2 80 v3) → (0 ≤ v1 ∧ v1 < 4) ∧ (0 ≤ v3 ∧ v3 < 4) ∧ (((h2 79 v1) = (h2 79 v3) → ((0 ≤ v5 → ((v2 < 0 → RunI X d mX11_no [(2, 78), (0, 4)] sh pt h2 (fun r16 h15 => (0 ≤ r16 ∧ r16 ≤ 1) ∧ K r16 h15)) ∧ (0 ≤ v2 → ((v4 < 0 → RunI X d mX11_no [(2, 78), (0, 4)] sh pt h2 (fun r18 h17 => (0 ≤ r18 ∧ r18 ≤ 1) ∧ K r18 h17)) ∧ (0 ≤ v4 → (qL (v2 + v5)) ∧ (0 ≤ v1 ∧ v1 < 4) ∧ (((h2 80 v1) < (v2 + v5) → RunI X d mX11_no [(2, 78), (0, 4)] sh pt h2 (fun r21 h20 => (0 ≤ r21 ∧ r21 ≤ 1) ∧ K r21 h20)) ∧ ((v2 + v5) ≤ (h2 80 v1) → (qL (v4 + v5)) ∧ (0 ≤ v3 ∧ v3 < 4) ∧ (((v4 + v5) ≤ (h2 80 v3) → ((v4 ≤ v2 → EvI X (d + 1) mX11_pour 158 [(2, 78), (0, v1), (0, v2), (0, v3), (0, v4), (0, v5), (0, 0), (0, 0), (8, -1)] [] sh pt h2 K) ∧ (v2 < v4 → EvI X (d + 1) mX11_pour 158 [(2, 78), (0, v1), (0, v2), (0, v3), (0, v4), (0, v5), (0, 1), (0, 0), (8, -1)] [] sh pt h2 K))) ∧ ((h2 80 v3) < (v4 + v5) → RunI X d mX11_no [(2, 78), (0, 4)] sh pt h2 (fun r24 h23 => (0 ≤ r24 ∧ r24 ≤ 1) ∧ K r24 h23)))))))))) ∧ (v5 < 0 → RunI X d mX11_no [(2, 78), (0, 6)] sh pt h2 (fun r26 h25 => (0 ≤ r26 ∧ r26 ≤ 1) ∧ K r26 h25)))) ∧ (¬ (h2 79 v1) = (h2 79 v3) → RunI X d mX11_no [(2, 78), (0, 11)] sh pt h2 (fun r28 h27 => (0 ≤ r28 ∧ r28 ≤ 1) ∧ K r28 h27)))) ∧ ((h2 80 v3) < 0 → RunI X d mX11_no [(2, 78), (0, 3)] sh pt h2 (fun r30 h29 => (0 ≤ r30 ∧ r30 ≤ 1) ∧ K r30 h29)))))) ∧ (4 ≤ v3 → RunI X d mX11_no [(2, 78), (0, 1)] sh pt h2 (fun r32 h31 => (0 ≤ r32 ∧ r32 ≤ 1) ∧ K r32 h31)))))))))) :
    RunI X (d + 1) mX11_pour [(2, 78), (0, v1), (0, v2), (0, v3), (0, v4), (0, v5)] sh pt h K := by
  show Ev X (d + 1) 0 0 mX11_pour 0 [(2, 78), (0, v1), (0, v2), (0, v3), (0, v4), (0, v5), (8, -1), (8, -1), (8, -1)] [] (sh, pt, h) (qRI sh pt K)
  refine ev_aload_n 1 rfl dX11_pour_0 rfl rfl ?_
  refine ev_iconst 2 rfl dX11_pour_1 (by decide) ?_
  refine ev_putI (ki := 1) 5 rfl dX11_pour_2 lf_11_213 (Or.inl rfl) (s_78 hst) (by decide) rfl ?_
  obtain ⟨h1, eh1⟩ : ∃ z : qM, z = qup h 78 1 0 := ⟨_, rfl⟩
  rw [← eh1]
  have H := H h1 eh1
  refine ev_aload_n 6 rfl dX11_pour_5 rfl rfl ?_
  refine ev_iconst 7 rfl dX11_pour_6 (by decide) ?_
  refine ev_putI (ki := 0) 10 rfl dX11_pour_7 lf_11_216 (Or.inl rfl) (s_78 hst) (by decide) rfl ?_
  obtain ⟨h2, eh2⟩ : ∃ z : qM, z = qup h1 78 0 0 := ⟨_, rfl⟩
  rw [← eh2]
  have H := H h2 eh2
  refine ev_iload_n 11 rfl dX11_pour_10 rfl rfl ?_
  refine ev_if_lt (tgt := 28) 14 rfl dX11_pour_11 (by decide) (fun cd => ?_) (fun cd => ?_)
  · have H := H.1 cd
    refine ev_aload_n 29 rfl dX11_pour_28 rfl rfl ?_
    refine ev_iconst 30 rfl dX11_pour_29 (by decide) ?_
    refine ev_cVI (As := [(0, 1)]) (rest := []) 33 rfl dX11_pour_30 lm_11_227 mm_X11_no (s_78 hst) rfl rfl (Nat.le_of_ble_eq_true rfl) (Nat.le_of_ble_eq_true rfl) (Nat.le_refl _) H ?_
    intro r4 h3 H
    obtain ⟨sd, H⟩ := H
    exact ev_retZ dX11_pour_33 rfl sd H
  · have H := H.2 cd
    refine ev_iload_n 15 rfl dX11_pour_14 rfl rfl ?_
    refine ev_iconst 16 rfl dX11_pour_15 (by decide) ?_
    refine ev_icmp_ge (tgt := 28) 19 rfl dX11_pour_16 (by decide) (fun cd => ?_) (fun cd => ?_)
    · have H := H.1 cd
      refine ev_aload_n 29 rfl dX11_pour_28 rfl rfl ?_
      refine ev_iconst 30 rfl dX11_pour_29 (by decide) ?_
      refine ev_cVI (As := [(0, 1)]) (rest := []) 33 rfl dX11_pour_30 lm_11_227 mm_X11_no (s_78 hst) rfl rfl (Nat.le_of_ble_eq_true rfl) (Nat.le_of_ble_eq_true rfl) (Nat.le_refl _) H ?_
      intro r6 h5 H
      obtain ⟨sd, H⟩ := H
      exact ev_retZ dX11_pour_33 rfl sd H
    · have H := H.2 cd
      refine ev_iload_n 20 rfl dX11_pour_19 rfl rfl ?_
      refine ev_if_lt (tgt := 28) 23 rfl dX11_pour_20 (by decide) (fun cd => ?_) (fun cd => ?_)
      · have H := H.1 cd
        refine ev_aload_n 29 rfl dX11_pour_28 rfl rfl ?_
        refine ev_iconst 30 rfl dX11_pour_29 (by decide) ?_
        refine ev_cVI (As := [(0, 1)]) (rest := []) 33 rfl dX11_pour_30 lm_11_227 mm_X11_no (s_78 hst) rfl rfl (Nat.le_of_ble_eq_true rfl) (Nat.le_of_ble_eq_true rfl) (Nat.le_refl _) H ?_
        intro r8 h7 H
        obtain ⟨sd, H⟩ := H
        exact ev_retZ dX11_pour_33 rfl sd H
      · have H := H.2 cd
        refine ev_iload_n 24 rfl dX11_pour_23 rfl rfl ?_
        refine ev_iconst 25 rfl dX11_pour_24 (by decide) ?_
        refine ev_icmp_lt (tgt := 34) 28 rfl dX11_pour_25 (by decide) (fun cd => ?_) (fun cd => ?_)
        · have H := H.1 cd
          refine ev_aload_n 35 rfl dX11_pour_34 rfl rfl ?_
          refine ev_getR (ki := 5) (v := 80) 38 rfl dX11_pour_35 lf_11_17 (s_78 hst) (by decide) rfl (p_78_5 hst) ?_
          refine ev_iload_n 39 rfl dX11_pour_38 rfl rfl ?_
          obtain ⟨b9, H⟩ := H
          refine ev_iaload 40 rfl dX11_pour_39 (s_80 hst) b9.1 b9.2 ?_
          refine ev_if_lt (tgt := 52) 43 rfl dX11_pour_40 (by decide) (fun cd => ?_) (fun cd => ?_)
          · have H := H.1 cd
            refine ev_aload_n 53 rfl dX11_pour_52 rfl rfl ?_
            refine ev_iconst 54 rfl dX11_pour_53 (by decide) ?_
            refine ev_cVI (As := [(0, 3)]) (rest := []) 57 rfl dX11_pour_54 lm_11_227 mm_X11_no (s_78 hst) rfl rfl (Nat.le_of_ble_eq_true rfl) (Nat.le_of_ble_eq_true rfl) (Nat.le_refl _) H ?_
            intro r11 h10 H
            obtain ⟨sd, H⟩ := H
            exact ev_retZ dX11_pour_57 rfl sd H
          · have H := H.2 cd
            refine ev_aload_n 44 rfl dX11_pour_43 rfl rfl ?_
            refine ev_getR (ki := 5) (v := 80) 47 rfl dX11_pour_44 lf_11_17 (s_78 hst) (by decide) rfl (p_78_5 hst) ?_
            refine ev_iload_n 48 rfl dX11_pour_47 rfl rfl ?_
            obtain ⟨b12, H⟩ := H
            refine ev_iaload 49 rfl dX11_pour_48 (s_80 hst) b12.1 b12.2 ?_
            refine ev_if_ge (tgt := 58) 52 rfl dX11_pour_49 (by decide) (fun cd => ?_) (fun cd => ?_)
            · have H := H.1 cd
              refine ev_aload_n 59 rfl dX11_pour_58 rfl rfl ?_
              refine ev_getR (ki := 4) (v := 79) 62 rfl dX11_pour_59 lf_11_13 (s_78 hst) (by decide) rfl (p_78_4 hst) ?_
              refine ev_iload_n 63 rfl dX11_pour_62 rfl rfl ?_
              obtain ⟨b13, H⟩ := H
              refine ev_iaload 64 rfl dX11_pour_63 (s_79 hst) b13.1 b13.2 ?_
              refine ev_aload_n 65 rfl dX11_pour_64 rfl rfl ?_
              refine ev_getR (ki := 4) (v := 79) 68 rfl dX11_pour_65 lf_11_13 (s_78 hst) (by decide) rfl (p_78_4 hst) ?_
              refine ev_iload_n 69 rfl dX11_pour_68 rfl rfl ?_
              obtain ⟨b14, H⟩ := H
              refine ev_iaload 70 rfl dX11_pour_69 (s_79 hst) b14.1 b14.2 ?_
              refine ev_icmp_eq (tgt := 80) 73 rfl dX11_pour_70 (by decide) (fun cd => ?_) (fun cd => ?_)
              · have H := H.1 cd
                refine ev_iload 82 rfl dX11_pour_80 rfl ?_
                refine ev_if_ge (tgt := 92) 85 rfl dX11_pour_82 (by decide) (fun cd => ?_) (fun cd => ?_)
                · have H := H.1 cd
                  refine ev_iload_n 93 rfl dX11_pour_92 rfl rfl ?_
                  refine ev_if_lt (tgt := 136) 96 rfl dX11_pour_93 (by decide) (fun cd => ?_) (fun cd => ?_)
                  · have H := H.1 cd
                    refine ev_aload_n 137 rfl dX11_pour_136 rfl rfl ?_
                    refine ev_iconst 138 rfl dX11_pour_137 (by decide) ?_
                    refine ev_cVI (As := [(0, 4)]) (rest := []) 141 rfl dX11_pour_138 lm_11_227 mm_X11_no (s_78 hst) rfl rfl (Nat.le_of_ble_eq_true rfl) (Nat.le_of_ble_eq_true rfl) (Nat.le_refl _) H ?_
                    intro r16 h15 H
                    obtain ⟨sd, H⟩ := H
                    exact ev_retZ dX11_pour_141 rfl sd H
                  · have H := H.2 cd
                    refine ev_iload 98 rfl dX11_pour_96 rfl ?_
                    refine ev_if_lt (tgt := 136) 101 rfl dX11_pour_98 (by decide) (fun cd => ?_) (fun cd => ?_)
                    · have H := H.1 cd
                      refine ev_aload_n 137 rfl dX11_pour_136 rfl rfl ?_
                      refine ev_iconst 138 rfl dX11_pour_137 (by decide) ?_
                      refine ev_cVI (As := [(0, 4)]) (rest := []) 141 rfl dX11_pour_138 lm_11_227 mm_X11_no (s_78 hst) rfl rfl (Nat.le_of_ble_eq_true rfl) (Nat.le_of_ble_eq_true rfl) (Nat.le_refl _) H ?_
                      intro r18 h17 H
                      obtain ⟨sd, H⟩ := H
                      exact ev_retZ dX11_pour_141 rfl sd H
                    · have H := H.2 cd
                      refine ev_iload_n 102 rfl dX11_pour_101 rfl rfl ?_
                      refine ev_i2l 103 rfl dX11_pour_102 ?_
                      refine ev_iload 105 rfl dX11_pour_103 rfl ?_
                      refine ev_i2l 106 rfl dX11_pour_105 ?_
                      obtain ⟨sd, H⟩ := H
                      refine ev_ladd 107 rfl dX11_pour_106 sd ?_
                      refine ev_aload_n 108 rfl dX11_pour_107 rfl rfl ?_
                      refine ev_getR (ki := 5) (v := 80) 111 rfl dX11_pour_108 lf_11_17 (s_78 hst) (by decide) rfl (p_78_5 hst) ?_
                      refine ev_iload_n 112 rfl dX11_pour_111 rfl rfl ?_
                      obtain ⟨b19, H⟩ := H
                      refine ev_iaload 113 rfl dX11_pour_112 (s_80 hst) b19.1 b19.2 ?_
                      refine ev_i2l 114 rfl dX11_pour_113 ?_
                      refine ev_lc_gt (tgt := 136) 118 rfl dX11_pour_114 dX11_pour_115 (by decide) (fun cd => ?_) (fun cd => ?_)
                      · have H := H.1 cd
                        refine ev_aload_n 137 rfl dX11_pour_136 rfl rfl ?_
                        refine ev_iconst 138 rfl dX11_pour_137 (by decide) ?_
                        refine ev_cVI (As := [(0, 4)]) (rest := []) 141 rfl dX11_pour_138 lm_11_227 mm_X11_no (s_78 hst) rfl rfl (Nat.le_of_ble_eq_true rfl) (Nat.le_of_ble_eq_true rfl) (Nat.le_refl _) H ?_
                        intro r21 h20 H
                        obtain ⟨sd, H⟩ := H
                        exact ev_retZ dX11_pour_141 rfl sd H
                      · have H := H.2 cd
                        refine ev_iload 120 rfl dX11_pour_118 rfl ?_
                        refine ev_i2l 121 rfl dX11_pour_120 ?_
                        refine ev_iload 123 rfl dX11_pour_121 rfl ?_
                        refine ev_i2l 124 rfl dX11_pour_123 ?_
                        obtain ⟨sd, H⟩ := H
                        refine ev_ladd 125 rfl dX11_pour_124 sd ?_
                        refine ev_aload_n 126 rfl dX11_pour_125 rfl rfl ?_
                        refine ev_getR (ki := 5) (v := 80) 129 rfl dX11_pour_126 lf_11_17 (s_78 hst) (by decide) rfl (p_78_5 hst) ?_
                        refine ev_iload_n 130 rfl dX11_pour_129 rfl rfl ?_
                        obtain ⟨b22, H⟩ := H
                        refine ev_iaload 131 rfl dX11_pour_130 (s_80 hst) b22.1 b22.2 ?_
                        refine ev_i2l 132 rfl dX11_pour_131 ?_
                        refine ev_lc_le (tgt := 142) 136 rfl dX11_pour_132 dX11_pour_133 (by decide) (fun cd => ?_) (fun cd => ?_)
                        · have H := H.1 cd
                          refine ev_iload_n 143 rfl dX11_pour_142 rfl rfl ?_
                          refine ev_iload 145 rfl dX11_pour_143 rfl ?_
                          refine ev_icmp_ge (tgt := 152) 148 rfl dX11_pour_145 (by decide) (fun cd => ?_) (fun cd => ?_)
                          · have H := H.1 cd
                            refine ev_iconst 153 rfl dX11_pour_152 (by decide) ?_
                            refine ev_istore (L1 := [(2, 78), (0, v1), (0, v2), (0, v3), (0, v4), (0, v5), (0, 0), (8, -1), (8, -1)]) 155 rfl dX11_pour_153 (Nat.le_of_ble_eq_true rfl) rfl ?_
                            refine ev_iconst 156 rfl dX11_pour_155 (by decide) ?_
                            refine ev_istore (L1 := [(2, 78), (0, v1), (0, v2), (0, v3), (0, v4), (0, v5), (0, 0), (0, 0), (8, -1)]) 158 rfl dX11_pour_156 (Nat.le_of_ble_eq_true rfl) rfl ?_
                            exact H
                          · have H := H.2 cd
                            refine ev_iconst 149 rfl dX11_pour_148 (by decide) ?_
                            refine ev_goto (tgt := 153) dX11_pour_149 (by decide) ?_
                            refine ev_istore (L1 := [(2, 78), (0, v1), (0, v2), (0, v3), (0, v4), (0, v5), (0, 1), (8, -1), (8, -1)]) 155 rfl dX11_pour_153 (Nat.le_of_ble_eq_true rfl) rfl ?_
                            refine ev_iconst 156 rfl dX11_pour_155 (by decide) ?_
                            refine ev_istore (L1 := [(2, 78), (0, v1), (0, v2), (0, v3), (0, v4), (0, v5), (0, 1), (0, 0), (8, -1)]) 158 rfl dX11_pour_156 (Nat.le_of_ble_eq_true rfl) rfl ?_
                            exact H
                        · have H := H.2 cd
                          refine ev_aload_n 137 rfl dX11_pour_136 rfl rfl ?_
                          refine ev_iconst 138 rfl dX11_pour_137 (by decide) ?_
                          refine ev_cVI (As := [(0, 4)]) (rest := []) 141 rfl dX11_pour_138 lm_11_227 mm_X11_no (s_78 hst) rfl rfl (Nat.le_of_ble_eq_true rfl) (Nat.le_of_ble_eq_true rfl) (Nat.le_refl _) H ?_
                          intro r24 h23 H
                          obtain ⟨sd, H⟩ := H
                          exact ev_retZ dX11_pour_141 rfl sd H
                · have H := H.2 cd
                  refine ev_aload_n 86 rfl dX11_pour_85 rfl rfl ?_
                  refine ev_bipush 88 rfl dX11_pour_86 (by decide) (by decide) ?_
                  refine ev_cVI (As := [(0, 6)]) (rest := []) 91 rfl dX11_pour_88 lm_11_227 mm_X11_no (s_78 hst) rfl rfl (Nat.le_of_ble_eq_true rfl) (Nat.le_of_ble_eq_true rfl) (Nat.le_refl _) H ?_
                  intro r26 h25 H
                  obtain ⟨sd, H⟩ := H
                  exact ev_retZ dX11_pour_91 rfl sd H
              · have H := H.2 cd
                refine ev_aload_n 74 rfl dX11_pour_73 rfl rfl ?_
                refine ev_bipush 76 rfl dX11_pour_74 (by decide) (by decide) ?_
                refine ev_cVI (As := [(0, 11)]) (rest := []) 79 rfl dX11_pour_76 lm_11_227 mm_X11_no (s_78 hst) rfl rfl (Nat.le_of_ble_eq_true rfl) (Nat.le_of_ble_eq_true rfl) (Nat.le_refl _) H ?_
                intro r28 h27 H
                obtain ⟨sd, H⟩ := H
                exact ev_retZ dX11_pour_79 rfl sd H
            · have H := H.2 cd
              refine ev_aload_n 53 rfl dX11_pour_52 rfl rfl ?_
              refine ev_iconst 54 rfl dX11_pour_53 (by decide) ?_
              refine ev_cVI (As := [(0, 3)]) (rest := []) 57 rfl dX11_pour_54 lm_11_227 mm_X11_no (s_78 hst) rfl rfl (Nat.le_of_ble_eq_true rfl) (Nat.le_of_ble_eq_true rfl) (Nat.le_refl _) H ?_
              intro r30 h29 H
              obtain ⟨sd, H⟩ := H
              exact ev_retZ dX11_pour_57 rfl sd H
        · have H := H.2 cd
          refine ev_aload_n 29 rfl dX11_pour_28 rfl rfl ?_
          refine ev_iconst 30 rfl dX11_pour_29 (by decide) ?_
          refine ev_cVI (As := [(0, 1)]) (rest := []) 33 rfl dX11_pour_30 lm_11_227 mm_X11_no (s_78 hst) rfl rfl (Nat.le_of_ble_eq_true rfl) (Nat.le_of_ble_eq_true rfl) (Nat.le_refl _) H ?_
          intro r32 h31 H
          obtain ⟨sd, H⟩ := H
          exact ev_retZ dX11_pour_33 rfl sd H

set_option maxRecDepth 20000 in
theorem b_X11_pour_158 {X : qX} {d : Nat} {sh : qS} {pt h : qM} {K : Int → qM → Prop} {v1 v2 v3 v4 v5 v6 v7 : Int} (hst : St sh pt)
    (H : ((v5 ≤ v7 → K 1 h) ∧ (v7 < v5 → ((v6 = 0 → EvI X (d + 1) mX11_pour 182 [(2, 78), (0, v1), (0, v2), (0, v3), (0, v4), (0, v5), (0, v6), (0, v7), (8, -1)] [(0, v7)] sh pt h K) ∧ (¬ v6 = 0 → (qI (v5 - 1)) ∧ (qI ((v5 - 1) - v7)) ∧ EvI X (d + 1) mX11_pour 182 [(2, 78), (0, v1), (0, v2), (0, v3), (0, v4), (0, v5), (0, v6), (0, v7), (8, -1)] [(0, ((v5 - 1) - v7))] sh pt h K))))) :
    EvI X (d + 1) mX11_pour 158 [(2, 78), (0, v1), (0, v2), (0, v3), (0, v4), (0, v5), (0, v6), (0, v7), (8, -1)] [] sh pt h K := by
  show Ev X (d + 1) 0 0 mX11_pour 158 [(2, 78), (0, v1), (0, v2), (0, v3), (0, v4), (0, v5), (0, v6), (0, v7), (8, -1)] [] (sh, pt, h) (qRI sh pt K)
  refine ev_iload 160 rfl dX11_pour_158 rfl ?_
  refine ev_iload 162 rfl dX11_pour_160 rfl ?_
  refine ev_icmp_ge (tgt := 219) 165 rfl dX11_pour_162 (by decide) (fun cd => ?_) (fun cd => ?_)
  · have H := H.1 cd
    refine ev_iconst 220 rfl dX11_pour_219 (by decide) ?_
    exact ev_retZ dX11_pour_220 rfl (by decide) H
  · have H := H.2 cd
    refine ev_iload 167 rfl dX11_pour_165 rfl ?_
    refine ev_if_eq (tgt := 180) 170 rfl dX11_pour_167 (by decide) (fun cd => ?_) (fun cd => ?_)
    · have H := H.1 cd
      refine ev_iload 182 rfl dX11_pour_180 rfl ?_
      exact H
    · have H := H.2 cd
      refine ev_iload 172 rfl dX11_pour_170 rfl ?_
      refine ev_iconst 173 rfl dX11_pour_172 (by decide) ?_
      obtain ⟨sd, H⟩ := H
      refine ev_isub 174 rfl dX11_pour_173 sd ?_
      refine ev_iload 176 rfl dX11_pour_174 rfl ?_
      obtain ⟨sd, H⟩ := H
      refine ev_isub 177 rfl dX11_pour_176 sd ?_
      refine ev_goto (tgt := 182) dX11_pour_177 (by decide) ?_
      exact H

set_option maxRecDepth 20000 in
theorem b_X11_pour_182 {X : qX} {d : Nat} {sh : qS} {pt h : qM} {K : Int → qM → Prop} {v1 v2 v3 v4 v5 v6 v7 u0 : Int} (hst : St sh pt)
    (H : (qI (40 * v3)) ∧ (qI ((40 * v3) + v4)) ∧ (qI (((40 * v3) + v4) + u0)) ∧ (qI (40 * v1)) ∧ (qI ((40 * v1) + v2)) ∧ (qI (((40 * v1) + v2) + u0)) ∧ (0 ≤ (((40 * v1) + v2) + u0) ∧ (((40 * v1) + v2) + u0) < 160) ∧ (0 ≤ (((40 * v3) + v4) + u0) ∧ (((40 * v3) + v4) + u0) < 160) ∧ ∀ h3 : qM, h3 = qup h 81 (((40 * v3) + v4) + u0) (h 81 (((40 * v1) + v2) + u0)) → (qI (v7 + 1)) ∧ EvI X (d + 1) mX11_pour 158 [(2, 78), (0, v1), (0, v2), (0, v3), (0, v4), (0, v5), (0, v6), (0, (v7 + 1)), (8, -1)] [] sh pt h3 K) :
    EvI X (d + 1) mX11_pour 182 [(2, 78), (0, v1), (0, v2), (0, v3), (0, v4), (0, v5), (0, v6), (0, v7), (8, -1)] [(0, u0)] sh pt h K := by
  show Ev X (d + 1) 0 0 mX11_pour 182 [(2, 78), (0, v1), (0, v2), (0, v3), (0, v4), (0, v5), (0, v6), (0, v7), (8, -1)] [(0, u0)] (sh, pt, h) (qRI sh pt K)
  refine ev_istore (L1 := [(2, 78), (0, v1), (0, v2), (0, v3), (0, v4), (0, v5), (0, v6), (0, v7), (0, u0)]) 184 rfl dX11_pour_182 (Nat.le_of_ble_eq_true rfl) rfl ?_
  refine ev_aload_n 185 rfl dX11_pour_184 rfl rfl ?_
  refine ev_getR (ki := 6) (v := 81) 188 rfl dX11_pour_185 lf_11_20 (s_78 hst) (by decide) rfl (p_78_6 hst) ?_
  refine ev_bipush 190 rfl dX11_pour_188 (by decide) (by decide) ?_
  refine ev_iload_n 191 rfl dX11_pour_190 rfl rfl ?_
  obtain ⟨sd, H⟩ := H
  refine ev_imul 192 rfl dX11_pour_191 sd ?_
  refine ev_iload 194 rfl dX11_pour_192 rfl ?_
  obtain ⟨sd, H⟩ := H
  refine ev_iadd 195 rfl dX11_pour_194 sd ?_
  refine ev_iload 197 rfl dX11_pour_195 rfl ?_
  obtain ⟨sd, H⟩ := H
  refine ev_iadd 198 rfl dX11_pour_197 sd ?_
  refine ev_aload_n 199 rfl dX11_pour_198 rfl rfl ?_
  refine ev_getR (ki := 6) (v := 81) 202 rfl dX11_pour_199 lf_11_20 (s_78 hst) (by decide) rfl (p_78_6 hst) ?_
  refine ev_bipush 204 rfl dX11_pour_202 (by decide) (by decide) ?_
  refine ev_iload_n 205 rfl dX11_pour_204 rfl rfl ?_
  obtain ⟨sd, H⟩ := H
  refine ev_imul 206 rfl dX11_pour_205 sd ?_
  refine ev_iload_n 207 rfl dX11_pour_206 rfl rfl ?_
  obtain ⟨sd, H⟩ := H
  refine ev_iadd 208 rfl dX11_pour_207 sd ?_
  refine ev_iload 210 rfl dX11_pour_208 rfl ?_
  obtain ⟨sd, H⟩ := H
  refine ev_iadd 211 rfl dX11_pour_210 sd ?_
  obtain ⟨b1, H⟩ := H
  refine ev_laload 212 rfl dX11_pour_211 (s_81 hst) b1.1 b1.2 ?_
  obtain ⟨b2, H⟩ := H
  refine ev_lastore 213 rfl dX11_pour_212 (s_81 hst) b2.1 b2.2 ?_
  obtain ⟨h3, eh3⟩ : ∃ z : qM, z = qup h 81 (((40 * v3) + v4) + u0) (h 81 (((40 * v1) + v2) + u0)) := ⟨_, rfl⟩
  rw [← eh3]
  have H := H h3 eh3
  obtain ⟨sd, H⟩ := H
  refine ev_iinc (L1 := [(2, 78), (0, v1), (0, v2), (0, v3), (0, v4), (0, v5), (0, v6), (0, (v7 + 1)), (0, u0)]) 216 rfl dX11_pour_213 rfl sd (Nat.le_of_ble_eq_true rfl) rfl ?_
  refine ev_goto (tgt := 158) dX11_pour_216 (by decide) ?_
  refine Ev.drop [8] rfl ?_
  exact H

set_option maxRecDepth 20000 in
theorem b_X11_isMarcher {X : qX} {d : Nat} {sh : qS} {pt h : qM} {K : Int → qM → Prop} {v1 : Int} (hst : St sh pt)
    (H : (qI ((h 78 7) - 1)) ∧ RunI X d mX11_isIn [(1, v1), (1, 0), (1, ((h 78 7) - 1))] sh pt h (fun r2 h1 => (0 ≤ r2 ∧ r2 ≤ 1) ∧ K r2 h1)) :
    RunI X (d + 1) mX11_isMarcher [(2, 78), (0, v1)] sh pt h K := by
  show Ev X (d + 1) 0 0 mX11_isMarcher 0 [(2, 78), (0, v1)] [] (sh, pt, h) (qRI sh pt K)
  refine ev_iload_n 1 rfl dX11_isMarcher_0 rfl rfl ?_
  refine ev_i2l 2 rfl dX11_isMarcher_1 ?_
  refine ev_lconst (v := 0) 3 rfl dX11_isMarcher_2 (by decide) (by decide) ?_
  refine ev_aload_n 4 rfl dX11_isMarcher_3 rfl rfl ?_
  refine ev_getI (ki := 7) 7 rfl dX11_isMarcher_4 lf_11_245 (Or.inl rfl) (s_78 hst) (by decide) rfl ?_
  refine ev_iconst 8 rfl dX11_isMarcher_7 (by decide) ?_
  obtain ⟨sd, H⟩ := H
  refine ev_isub 9 rfl dX11_isMarcher_8 sd ?_
  refine ev_i2l 10 rfl dX11_isMarcher_9 ?_
  refine ev_cSI (As := [(1, v1), (1, 0), (1, ((h 78 7) - 1))]) (rest := []) 13 rfl dX11_isMarcher_10 lm_11_221 mm_X11_isIn rfl rfl (Nat.le_of_ble_eq_true rfl) (Nat.le_of_ble_eq_true rfl) (Nat.le_refl _) H ?_
  intro r2 h1 H
  obtain ⟨sd, H⟩ := H
  exact ev_retZ dX11_isMarcher_13 rfl sd H

set_option maxRecDepth 20000 in
theorem b_X11_marcher {X : qX} {d : Nat} {sh : qS} {pt h : qM} {K : Int → qM → Prop} {v1 v2 v3 : Int} (hst : St sh pt)
    (H : ∀ h1 : qM, h1 = qup h 78 1 0 → ∀ h2 : qM, h2 = qup h1 78 0 0 → RunI X d mX11_isSpot [(0, v1), (0, v2)] sh pt h2 (fun r4 h3 => ((r4 = 0 → RunI X d mX11_refuse [(2, 78), (0, 5)] sh pt h3 (fun r6 h5 => K r6 h5)) ∧ (¬ r4 = 0 → RunI X d mX11_isIn [(1, v3), (1, 0), (1, 7)] sh pt h3 (fun r8 h7 => ((¬ r8 = 0 → ((¬ (h7 78 7) = 20 → (0 ≤ (h7 78 7) ∧ (h7 78 7) < 20) ∧ ∀ h10 : qM, h10 = qup h7 82 (h7 78 7) v1 → (0 ≤ (h10 78 7) ∧ (h10 78 7) < 20) ∧ ∀ h12 : qM, h12 = qup h10 83 (h10 78 7) v2 → (0 ≤ (h12 78 7) ∧ (h12 78 7) < 20) ∧ ∀ h14 : qM, h14 = qup h12 84 (h12 78 7) v3 → (qI ((h14 78 7) + 1)) ∧ ∀ h15 : qM, h15 = qup h14 78 7 ((h14 78 7) + 1) → (qI ((h15 78 7) - 1)) ∧ K ((h15 78 7) - 1) h15) ∧ ((h7 78 7) = 20 → RunI X d mX11_refuse [(2, 78), (0, 7)] sh pt h7 (fun r17 h16 => K r17 h16)))) ∧ (r8 = 0 → RunI X d mX11_refuse [(2, 78), (0, 5)] sh pt h7 (fun r19 h18 => K r19 h18)))))))) :
    RunI X (d + 1) mX11_marcher [(2, 78), (0, v1), (0, v2), (0, v3)] sh pt h K := by
  show Ev X (d + 1) 0 0 mX11_marcher 0 [(2, 78), (0, v1), (0, v2), (0, v3)] [] (sh, pt, h) (qRI sh pt K)
  refine ev_aload_n 1 rfl dX11_marcher_0 rfl rfl ?_
  refine ev_iconst 2 rfl dX11_marcher_1 (by decide) ?_
  refine ev_putI (ki := 1) 5 rfl dX11_marcher_2 lf_11_213 (Or.inl rfl) (s_78 hst) (by decide) rfl ?_
  obtain ⟨h1, eh1⟩ : ∃ z : qM, z = qup h 78 1 0 := ⟨_, rfl⟩
  rw [← eh1]
  have H := H h1 eh1
  refine ev_aload_n 6 rfl dX11_marcher_5 rfl rfl ?_
  refine ev_iconst 7 rfl dX11_marcher_6 (by decide) ?_
  refine ev_putI (ki := 0) 10 rfl dX11_marcher_7 lf_11_216 (Or.inl rfl) (s_78 hst) (by decide) rfl ?_
  obtain ⟨h2, eh2⟩ : ∃ z : qM, z = qup h1 78 0 0 := ⟨_, rfl⟩
  rw [← eh2]
  have H := H h2 eh2
  refine ev_iload_n 11 rfl dX11_marcher_10 rfl rfl ?_
  refine ev_iload_n 12 rfl dX11_marcher_11 rfl rfl ?_
  refine ev_cSI (As := [(0, v1), (0, v2)]) (rest := []) 15 rfl dX11_marcher_12 lm_11_248 mm_X11_isSpot rfl rfl (Nat.le_of_ble_eq_true rfl) (Nat.le_of_ble_eq_true rfl) (Nat.le_refl _) H ?_
  intro r4 h3 H
  refine ev_if_eq (tgt := 30) 18 rfl dX11_marcher_15 (by decide) (fun cd => ?_) (fun cd => ?_)
  · have H := H.1 cd
    refine ev_aload_n 31 rfl dX11_marcher_30 rfl rfl ?_
    refine ev_iconst 32 rfl dX11_marcher_31 (by decide) ?_
    refine ev_cVI (As := [(0, 5)]) (rest := []) 35 rfl dX11_marcher_32 lm_11_254 mm_X11_refuse (s_78 hst) rfl rfl (Nat.le_of_ble_eq_true rfl) (Nat.le_of_ble_eq_true rfl) (Nat.le_refl _) H ?_
    intro r6 h5 H
    exact ev_retI dX11_marcher_35 rfl H
  · have H := H.2 cd
    refine ev_iload_n 19 rfl dX11_marcher_18 rfl rfl ?_
    refine ev_i2l 20 rfl dX11_marcher_19 ?_
    refine ev_lconst (v := 0) 21 rfl dX11_marcher_20 (by decide) (by decide) ?_
    refine ev_ldc2 24 rfl dX11_marcher_21 kl_11_252 (by decide) ?_
    refine ev_cSI (As := [(1, v3), (1, 0), (1, 7)]) (rest := []) 27 rfl dX11_marcher_24 lm_11_221 mm_X11_isIn rfl rfl (Nat.le_of_ble_eq_true rfl) (Nat.le_of_ble_eq_true rfl) (Nat.le_refl _) H ?_
    intro r8 h7 H
    refine ev_if_ne (tgt := 36) 30 rfl dX11_marcher_27 (by decide) (fun cd => ?_) (fun cd => ?_)
    · have H := H.1 cd
      refine ev_aload_n 37 rfl dX11_marcher_36 rfl rfl ?_
      refine ev_getI (ki := 7) 40 rfl dX11_marcher_37 lf_11_245 (Or.inl rfl) (s_78 hst) (by decide) rfl ?_
      refine ev_bipush 42 rfl dX11_marcher_40 (by decide) (by decide) ?_
      refine ev_icmp_ne (tgt := 52) 45 rfl dX11_marcher_42 (by decide) (fun cd => ?_) (fun cd => ?_)
      · have H := H.1 cd
        refine ev_aload_n 53 rfl dX11_marcher_52 rfl rfl ?_
        refine ev_getR (ki := 11) (v := 82) 56 rfl dX11_marcher_53 lf_11_28 (s_78 hst) (by decide) rfl (p_78_11 hst) ?_
        refine ev_aload_n 57 rfl dX11_marcher_56 rfl rfl ?_
        refine ev_getI (ki := 7) 60 rfl dX11_marcher_57 lf_11_245 (Or.inl rfl) (s_78 hst) (by decide) rfl ?_
        refine ev_iload_n 61 rfl dX11_marcher_60 rfl rfl ?_
        obtain ⟨b9, H⟩ := H
        refine ev_iastore 62 rfl dX11_marcher_61 (s_82 hst) b9.1 b9.2 ?_
        obtain ⟨h10, eh10⟩ : ∃ z : qM, z = qup h7 82 (h7 78 7) v1 := ⟨_, rfl⟩
        rw [← eh10]
        have H := H h10 eh10
        refine ev_aload_n 63 rfl dX11_marcher_62 rfl rfl ?_
        refine ev_getR (ki := 12) (v := 83) 66 rfl dX11_marcher_63 lf_11_31 (s_78 hst) (by decide) rfl (p_78_12 hst) ?_
        refine ev_aload_n 67 rfl dX11_marcher_66 rfl rfl ?_
        refine ev_getI (ki := 7) 70 rfl dX11_marcher_67 lf_11_245 (Or.inl rfl) (s_78 hst) (by decide) rfl ?_
        refine ev_iload_n 71 rfl dX11_marcher_70 rfl rfl ?_
        obtain ⟨b11, H⟩ := H
        refine ev_iastore 72 rfl dX11_marcher_71 (s_83 hst) b11.1 b11.2 ?_
        obtain ⟨h12, eh12⟩ : ∃ z : qM, z = qup h10 83 (h10 78 7) v2 := ⟨_, rfl⟩
        rw [← eh12]
        have H := H h12 eh12
        refine ev_aload_n 73 rfl dX11_marcher_72 rfl rfl ?_
        refine ev_getR (ki := 13) (v := 84) 76 rfl dX11_marcher_73 lf_11_34 (s_78 hst) (by decide) rfl (p_78_13 hst) ?_
        refine ev_aload_n 77 rfl dX11_marcher_76 rfl rfl ?_
        refine ev_getI (ki := 7) 80 rfl dX11_marcher_77 lf_11_245 (Or.inl rfl) (s_78 hst) (by decide) rfl ?_
        refine ev_iload_n 81 rfl dX11_marcher_80 rfl rfl ?_
        obtain ⟨b13, H⟩ := H
        refine ev_iastore 82 rfl dX11_marcher_81 (s_84 hst) b13.1 b13.2 ?_
        obtain ⟨h14, eh14⟩ : ∃ z : qM, z = qup h12 84 (h12 78 7) v3 := ⟨_, rfl⟩
        rw [← eh14]
        have H := H h14 eh14
        refine ev_aload_n 83 rfl dX11_marcher_82 rfl rfl ?_
        refine ev_dup 84 rfl dX11_marcher_83 q21 ?_
        refine ev_getI (ki := 7) 87 rfl dX11_marcher_84 lf_11_245 (Or.inl rfl) (s_78 hst) (by decide) rfl ?_
        refine ev_iconst 88 rfl dX11_marcher_87 (by decide) ?_
        obtain ⟨sd, H⟩ := H
        refine ev_iadd 89 rfl dX11_marcher_88 sd ?_
        refine ev_putI (ki := 7) 92 rfl dX11_marcher_89 lf_11_245 (Or.inl rfl) (s_78 hst) (by decide) rfl ?_
        obtain ⟨h15, eh15⟩ : ∃ z : qM, z = qup h14 78 7 ((h14 78 7) + 1) := ⟨_, rfl⟩
        rw [← eh15]
        have H := H h15 eh15
        refine ev_aload_n 93 rfl dX11_marcher_92 rfl rfl ?_
        refine ev_getI (ki := 7) 96 rfl dX11_marcher_93 lf_11_245 (Or.inl rfl) (s_78 hst) (by decide) rfl ?_
        refine ev_iconst 97 rfl dX11_marcher_96 (by decide) ?_
        obtain ⟨sd, H⟩ := H
        refine ev_isub 98 rfl dX11_marcher_97 sd ?_
        exact ev_retI dX11_marcher_98 rfl H
      · have H := H.2 cd
        refine ev_aload_n 46 rfl dX11_marcher_45 rfl rfl ?_
        refine ev_bipush 48 rfl dX11_marcher_46 (by decide) (by decide) ?_
        refine ev_cVI (As := [(0, 7)]) (rest := []) 51 rfl dX11_marcher_48 lm_11_254 mm_X11_refuse (s_78 hst) rfl rfl (Nat.le_of_ble_eq_true rfl) (Nat.le_of_ble_eq_true rfl) (Nat.le_refl _) H ?_
        intro r17 h16 H
        exact ev_retI dX11_marcher_51 rfl H
    · have H := H.2 cd
      refine ev_aload_n 31 rfl dX11_marcher_30 rfl rfl ?_
      refine ev_iconst 32 rfl dX11_marcher_31 (by decide) ?_
      refine ev_cVI (As := [(0, 5)]) (rest := []) 35 rfl dX11_marcher_32 lm_11_254 mm_X11_refuse (s_78 hst) rfl rfl (Nat.le_of_ble_eq_true rfl) (Nat.le_of_ble_eq_true rfl) (Nat.le_refl _) H ?_
      intro r19 h18 H
      exact ev_retI dX11_marcher_35 rfl H

set_option maxRecDepth 20000 in
theorem b_X11_prop {X : qX} {d : Nat} {sh : qS} {pt h : qM} {K : Int → qM → Prop} {v1 v2 : Int} (hst : St sh pt)
    (H : ∀ h1 : qM, h1 = qup h 78 1 0 → ∀ h2 : qM, h2 = qup h1 78 0 0 → RunI X d mX11_isSpot [(0, v1), (0, v2)] sh pt h2 (fun r4 h3 => ((¬ r4 = 0 → ((¬ (h3 78 8) = 30 → (qI (40 * v1)) ∧ (qI ((40 * v1) + v2)) ∧ (0 ≤ ((40 * v1) + v2) ∧ ((40 * v1) + v2) < 2400) ∧ (((h3 86 ((40 * v1) + v2)) = 0 → (qI (40 * v1)) ∧ (qI ((40 * v1) + v2)) ∧ (0 ≤ ((40 * v1) + v2) ∧ ((40 * v1) + v2) < 2400) ∧ ∀ h7 : qM, h7 = qup h3 86 ((40 * v1) + v2) 1 → (qI ((h7 78 8) + 1)) ∧ ∀ h8 : qM, h8 = qup h7 78 8 ((h7 78 8) + 1) → K 1 h8) ∧ (¬ (h3 86 ((40 * v1) + v2)) = 0 → RunI X d mX11_no [(2, 78), (0, 9)] sh pt h3 (fun r10 h9 => (0 ≤ r10 ∧ r10 ≤ 1) ∧ K r10 h9)))) ∧ ((h3 78 8) = 30 → RunI X d mX11_no [(2, 78), (0, 7)] sh pt h3 (fun r12 h11 => (0 ≤ r12 ∧ r12 ≤ 1) ∧ K r12 h11)))) ∧ (r4 = 0 → RunI X d mX11_no [(2, 78), (0, 5)] sh pt h3 (fun r14 h13 => (0 ≤ r14 ∧ r14 ≤ 1) ∧ K r14 h13))))) :
    RunI X (d + 1) mX11_prop [(2, 78), (0, v1), (0, v2)] sh pt h K := by
  show Ev X (d + 1) 0 0 mX11_prop 0 [(2, 78), (0, v1), (0, v2)] [] (sh, pt, h) (qRI sh pt K)
  refine ev_aload_n 1 rfl dX11_prop_0 rfl rfl ?_
  refine ev_iconst 2 rfl dX11_prop_1 (by decide) ?_
  refine ev_putI (ki := 1) 5 rfl dX11_prop_2 lf_11_213 (Or.inl rfl) (s_78 hst) (by decide) rfl ?_
  obtain ⟨h1, eh1⟩ : ∃ z : qM, z = qup h 78 1 0 := ⟨_, rfl⟩
  rw [← eh1]
  have H := H h1 eh1
  refine ev_aload_n 6 rfl dX11_prop_5 rfl rfl ?_
  refine ev_iconst 7 rfl dX11_prop_6 (by decide) ?_
  refine ev_putI (ki := 0) 10 rfl dX11_prop_7 lf_11_216 (Or.inl rfl) (s_78 hst) (by decide) rfl ?_
  obtain ⟨h2, eh2⟩ : ∃ z : qM, z = qup h1 78 0 0 := ⟨_, rfl⟩
  rw [← eh2]
  have H := H h2 eh2
  refine ev_iload_n 11 rfl dX11_prop_10 rfl rfl ?_
  refine ev_iload_n 12 rfl dX11_prop_11 rfl rfl ?_
  refine ev_cSI (As := [(0, v1), (0, v2)]) (rest := []) 15 rfl dX11_prop_12 lm_11_248 mm_X11_isSpot rfl rfl (Nat.le_of_ble_eq_true rfl) (Nat.le_of_ble_eq_true rfl) (Nat.le_refl _) H ?_
  intro r4 h3 H
  refine ev_if_ne (tgt := 24) 18 rfl dX11_prop_15 (by decide) (fun cd => ?_) (fun cd => ?_)
  · have H := H.1 cd
    refine ev_aload_n 25 rfl dX11_prop_24 rfl rfl ?_
    refine ev_getI (ki := 8) 28 rfl dX11_prop_25 lf_11_257 (Or.inl rfl) (s_78 hst) (by decide) rfl ?_
    refine ev_bipush 30 rfl dX11_prop_28 (by decide) (by decide) ?_
    refine ev_icmp_ne (tgt := 40) 33 rfl dX11_prop_30 (by decide) (fun cd => ?_) (fun cd => ?_)
    · have H := H.1 cd
      refine ev_aload_n 41 rfl dX11_prop_40 rfl rfl ?_
      refine ev_getR (ki := 15) (v := 86) 44 rfl dX11_prop_41 lf_11_40 (s_78 hst) (by decide) rfl (p_78_15 hst) ?_
      refine ev_bipush 46 rfl dX11_prop_44 (by decide) (by decide) ?_
      refine ev_iload_n 47 rfl dX11_prop_46 rfl rfl ?_
      obtain ⟨sd, H⟩ := H
      refine ev_imul 48 rfl dX11_prop_47 sd ?_
      refine ev_iload_n 49 rfl dX11_prop_48 rfl rfl ?_
      obtain ⟨sd, H⟩ := H
      refine ev_iadd 50 rfl dX11_prop_49 sd ?_
      obtain ⟨b5, H⟩ := H
      refine ev_zaload 51 rfl dX11_prop_50 (s_86 hst) b5.1 b5.2 ?_
      refine ev_if_eq (tgt := 61) 54 rfl dX11_prop_51 (by decide) (fun cd => ?_) (fun cd => ?_)
      · have H := H.1 cd
        refine ev_aload_n 62 rfl dX11_prop_61 rfl rfl ?_
        refine ev_getR (ki := 15) (v := 86) 65 rfl dX11_prop_62 lf_11_40 (s_78 hst) (by decide) rfl (p_78_15 hst) ?_
        refine ev_bipush 67 rfl dX11_prop_65 (by decide) (by decide) ?_
        refine ev_iload_n 68 rfl dX11_prop_67 rfl rfl ?_
        obtain ⟨sd, H⟩ := H
        refine ev_imul 69 rfl dX11_prop_68 sd ?_
        refine ev_iload_n 70 rfl dX11_prop_69 rfl rfl ?_
        obtain ⟨sd, H⟩ := H
        refine ev_iadd 71 rfl dX11_prop_70 sd ?_
        refine ev_iconst 72 rfl dX11_prop_71 (by decide) ?_
        obtain ⟨b6, H⟩ := H
        refine ev_zastore 73 rfl dX11_prop_72 (s_86 hst) b6.1 b6.2 (by decide) ?_
        obtain ⟨h7, eh7⟩ : ∃ z : qM, z = qup h3 86 ((40 * v1) + v2) 1 := ⟨_, rfl⟩
        rw [← eh7]
        have H := H h7 eh7
        refine ev_aload_n 74 rfl dX11_prop_73 rfl rfl ?_
        refine ev_dup 75 rfl dX11_prop_74 q21 ?_
        refine ev_getI (ki := 8) 78 rfl dX11_prop_75 lf_11_257 (Or.inl rfl) (s_78 hst) (by decide) rfl ?_
        refine ev_iconst 79 rfl dX11_prop_78 (by decide) ?_
        obtain ⟨sd, H⟩ := H
        refine ev_iadd 80 rfl dX11_prop_79 sd ?_
        refine ev_putI (ki := 8) 83 rfl dX11_prop_80 lf_11_257 (Or.inl rfl) (s_78 hst) (by decide) rfl ?_
        obtain ⟨h8, eh8⟩ : ∃ z : qM, z = qup h7 78 8 ((h7 78 8) + 1) := ⟨_, rfl⟩
        rw [← eh8]
        have H := H h8 eh8
        refine ev_iconst 84 rfl dX11_prop_83 (by decide) ?_
        exact ev_retZ dX11_prop_84 rfl (by decide) H
      · have H := H.2 cd
        refine ev_aload_n 55 rfl dX11_prop_54 rfl rfl ?_
        refine ev_bipush 57 rfl dX11_prop_55 (by decide) (by decide) ?_
        refine ev_cVI (As := [(0, 9)]) (rest := []) 60 rfl dX11_prop_57 lm_11_227 mm_X11_no (s_78 hst) rfl rfl (Nat.le_of_ble_eq_true rfl) (Nat.le_of_ble_eq_true rfl) (Nat.le_refl _) H ?_
        intro r10 h9 H
        obtain ⟨sd, H⟩ := H
        exact ev_retZ dX11_prop_60 rfl sd H
    · have H := H.2 cd
      refine ev_aload_n 34 rfl dX11_prop_33 rfl rfl ?_
      refine ev_bipush 36 rfl dX11_prop_34 (by decide) (by decide) ?_
      refine ev_cVI (As := [(0, 7)]) (rest := []) 39 rfl dX11_prop_36 lm_11_227 mm_X11_no (s_78 hst) rfl rfl (Nat.le_of_ble_eq_true rfl) (Nat.le_of_ble_eq_true rfl) (Nat.le_refl _) H ?_
      intro r12 h11 H
      obtain ⟨sd, H⟩ := H
      exact ev_retZ dX11_prop_39 rfl sd H
  · have H := H.2 cd
    refine ev_aload_n 19 rfl dX11_prop_18 rfl rfl ?_
    refine ev_iconst 20 rfl dX11_prop_19 (by decide) ?_
    refine ev_cVI (As := [(0, 5)]) (rest := []) 23 rfl dX11_prop_20 lm_11_227 mm_X11_no (s_78 hst) rfl rfl (Nat.le_of_ble_eq_true rfl) (Nat.le_of_ble_eq_true rfl) (Nat.le_refl _) H ?_
    intro r14 h13 H
    obtain ⟨sd, H⟩ := H
    exact ev_retZ dX11_prop_23 rfl sd H

set_option maxRecDepth 20000 in
theorem b_X11_isName {X : qX} {d : Nat} {sh : qS} {pt h : qM} {K : Int → qM → Prop} {v0 : Int} (hst : St sh pt)
    (H : ((v0 < 1 → K 0 h) ∧ (1 ≤ v0 → ((v0 < 1099511627776 → EvI X d mX11_isName 18 [(8, -1), (8, -1), (1, v0), (8, -1)] [] sh pt h K) ∧ (1099511627776 ≤ v0 → K 0 h))))) :
    RunI X d mX11_isName [(1, v0)] sh pt h K := by
  show Ev X d 0 0 mX11_isName 0 [(1, v0), (8, -1), (8, -1), (8, -1)] [] (sh, pt, h) (qRI sh pt K)
  refine ev_lload_n 1 rfl dX11_isName_0 rfl rfl ?_
  refine ev_lconst (v := 1) 2 rfl dX11_isName_1 (by decide) (by decide) ?_
  refine ev_lc_lt (tgt := 14) 6 rfl dX11_isName_2 dX11_isName_3 (by decide) (fun cd => ?_) (fun cd => ?_)
  · have H := H.1 cd
    refine ev_iconst 15 rfl dX11_isName_14 (by decide) ?_
    exact ev_retZ dX11_isName_15 rfl (by decide) H
  · have H := H.2 cd
    refine ev_lload_n 7 rfl dX11_isName_6 rfl rfl ?_
    refine ev_ldc2 10 rfl dX11_isName_7 kl_11_260 (by decide) ?_
    refine ev_lc_lt (tgt := 16) 14 rfl dX11_isName_10 dX11_isName_11 (by decide) (fun cd => ?_) (fun cd => ?_)
    · have H := H.1 cd
      refine ev_lload_n 17 rfl dX11_isName_16 rfl rfl ?_
      refine ev_lstore_n (L1 := [(1, v0), (8, -1), (1, v0), (8, -1)]) 18 rfl dX11_isName_17 rfl (Nat.le_of_ble_eq_true rfl) rfl ?_
      refine Ev.drop [0] rfl ?_
      exact H
    · have H := H.2 cd
      refine ev_iconst 15 rfl dX11_isName_14 (by decide) ?_
      exact ev_retZ dX11_isName_15 rfl (by decide) H

set_option maxRecDepth 20000 in
theorem b_X11_isName_18 {X : qX} {d : Nat} {sh : qS} {pt h : qM} {K : Int → qM → Prop} {v2 : Int} (hst : St sh pt)
    (H : ((v2 ≤ 0 → K 1 h) ∧ (0 < v2 → (0 ≤ v2) ∧ (((v2 % 32) < 1 → K 0 h) ∧ (1 ≤ (v2 % 32) → (0 ≤ v2) ∧ (((v2 % 32) ≤ 26 → (0 ≤ v2) ∧ EvI X d mX11_isName 18 [(8, -1), (8, -1), (1, (v2 / 32)), (8, -1)] [] sh pt h K) ∧ (26 < (v2 % 32) → K 0 h))))))) :
    EvI X d mX11_isName 18 [(8, -1), (8, -1), (1, v2), (8, -1)] [] sh pt h K := by
  show Ev X d 0 0 mX11_isName 18 [(8, -1), (8, -1), (1, v2), (8, -1)] [] (sh, pt, h) (qRI sh pt K)
  refine ev_lload_n 19 rfl dX11_isName_18 rfl rfl ?_
  refine ev_lconst (v := 0) 20 rfl dX11_isName_19 (by decide) (by decide) ?_
  refine ev_lc_le (tgt := 57) 24 rfl dX11_isName_20 dX11_isName_21 (by decide) (fun cd => ?_) (fun cd => ?_)
  · have H := H.1 cd
    refine ev_iconst 58 rfl dX11_isName_57 (by decide) ?_
    exact ev_retZ dX11_isName_58 rfl (by decide) H
  · have H := H.2 cd
    refine ev_lload_n 25 rfl dX11_isName_24 rfl rfl ?_
    refine ev_ldc2 28 rfl dX11_isName_25 kl_11_262 (by decide) ?_
    obtain ⟨sd, H⟩ := H
    refine ev_lremP 29 rfl dX11_isName_28 ⟨sd, by decide⟩ ?_
    refine ev_lconst (v := 1) 30 rfl dX11_isName_29 (by decide) (by decide) ?_
    refine ev_lc_lt (tgt := 46) 34 rfl dX11_isName_30 dX11_isName_31 (by decide) (fun cd => ?_) (fun cd => ?_)
    · have H := H.1 cd
      refine ev_iconst 47 rfl dX11_isName_46 (by decide) ?_
      exact ev_retZ dX11_isName_47 rfl (by decide) H
    · have H := H.2 cd
      refine ev_lload_n 35 rfl dX11_isName_34 rfl rfl ?_
      refine ev_ldc2 38 rfl dX11_isName_35 kl_11_262 (by decide) ?_
      obtain ⟨sd, H⟩ := H
      refine ev_lremP 39 rfl dX11_isName_38 ⟨sd, by decide⟩ ?_
      refine ev_ldc2 42 rfl dX11_isName_39 kl_11_264 (by decide) ?_
      refine ev_lc_le (tgt := 48) 46 rfl dX11_isName_42 dX11_isName_43 (by decide) (fun cd => ?_) (fun cd => ?_)
      · have H := H.1 cd
        refine ev_lload_n 49 rfl dX11_isName_48 rfl rfl ?_
        refine ev_ldc2 52 rfl dX11_isName_49 kl_11_262 (by decide) ?_
        obtain ⟨sd, H⟩ := H
        refine ev_ldivP 53 rfl dX11_isName_52 ⟨sd, by decide⟩ ?_
        refine ev_lstore_n (L1 := [(8, -1), (8, -1), (1, (v2 / 32)), (8, -1)]) 54 rfl dX11_isName_53 rfl (Nat.le_of_ble_eq_true rfl) rfl ?_
        refine ev_goto (tgt := 18) dX11_isName_54 (by decide) ?_
        exact H
      · have H := H.2 cd
        refine ev_iconst 47 rfl dX11_isName_46 (by decide) ?_
        exact ev_retZ dX11_isName_47 rfl (by decide) H

set_option maxRecDepth 20000 in
theorem b_X11_groupOf {X : qX} {d : Nat} {sh : qS} {pt h : qM} {K : Int → qM → Prop} {v1 : Int} (hst : St sh pt)
    (H : EvI X d mX11_groupOf 2 [(2, 78), (1, v1), (8, -1), (0, 0)] [] sh pt h K) :
    RunI X d mX11_groupOf [(2, 78), (1, v1)] sh pt h K := by
  show Ev X d 0 0 mX11_groupOf 0 [(2, 78), (1, v1), (8, -1), (8, -1)] [] (sh, pt, h) (qRI sh pt K)
  refine ev_iconst 1 rfl dX11_groupOf_0 (by decide) ?_
  refine ev_istore_n (L1 := [(2, 78), (1, v1), (8, -1), (0, 0)]) 2 rfl dX11_groupOf_1 rfl (Nat.le_of_ble_eq_true rfl) rfl ?_
  exact H

set_option maxRecDepth 20000 in
theorem b_X11_groupOf_2 {X : qX} {d : Nat} {sh : qS} {pt h : qM} {K : Int → qM → Prop} {v1 v3 : Int} (hst : St sh pt)
    (H : (((h 78 9) ≤ v3 → K (-1) h) ∧ (v3 < (h 78 9) → (0 ≤ v3 ∧ v3 < 8) ∧ ((¬ (h 87 v3) = v1 → (qI (v3 + 1)) ∧ EvI X d mX11_groupOf 2 [(2, 78), (1, v1), (8, -1), (0, (v3 + 1))] [] sh pt h K) ∧ ((h 87 v3) = v1 → K v3 h))))) :
    EvI X d mX11_groupOf 2 [(2, 78), (1, v1), (8, -1), (0, v3)] [] sh pt h K := by
  show Ev X d 0 0 mX11_groupOf 2 [(2, 78), (1, v1), (8, -1), (0, v3)] [] (sh, pt, h) (qRI sh pt K)
  refine ev_iload_n 3 rfl dX11_groupOf_2 rfl rfl ?_
  refine ev_aload_n 4 rfl dX11_groupOf_3 rfl rfl ?_
  refine ev_getI (ki := 9) 7 rfl dX11_groupOf_4 lf_11_266 (Or.inl rfl) (s_78 hst) (by decide) rfl ?_
  refine ev_icmp_ge (tgt := 29) 10 rfl dX11_groupOf_7 (by decide) (fun cd => ?_) (fun cd => ?_)
  · have H := H.1 cd
    refine ev_iconst 30 rfl dX11_groupOf_29 (by decide) ?_
    exact ev_retI dX11_groupOf_30 rfl H
  · have H := H.2 cd
    refine ev_aload_n 11 rfl dX11_groupOf_10 rfl rfl ?_
    refine ev_getR (ki := 16) (v := 87) 14 rfl dX11_groupOf_11 lf_11_44 (s_78 hst) (by decide) rfl (p_78_16 hst) ?_
    refine ev_iload_n 15 rfl dX11_groupOf_14 rfl rfl ?_
    obtain ⟨b1, H⟩ := H
    refine ev_laload 16 rfl dX11_groupOf_15 (s_87 hst) b1.1 b1.2 ?_
    refine ev_lload_n 17 rfl dX11_groupOf_16 rfl rfl ?_
    refine ev_lc_ne (tgt := 23) 21 rfl dX11_groupOf_17 dX11_groupOf_18 (by decide) (fun cd => ?_) (fun cd => ?_)
    · have H := H.1 cd
      obtain ⟨sd, H⟩ := H
      refine ev_iinc (L1 := [(2, 78), (1, v1), (8, -1), (0, (v3 + 1))]) 26 rfl dX11_groupOf_23 rfl sd (Nat.le_of_ble_eq_true rfl) rfl ?_
      refine ev_goto (tgt := 2) dX11_groupOf_26 (by decide) ?_
      exact H
    · have H := H.2 cd
      refine ev_iload_n 22 rfl dX11_groupOf_21 rfl rfl ?_
      exact ev_retI dX11_groupOf_22 rfl H

set_option maxRecDepth 20000 in
theorem b_X11_group {X : qX} {d : Nat} {sh : qS} {pt h : qM} {K : Int → qM → Prop} {v1 v3 : Int} (hst : St sh pt)
    (H : ∀ h1 : qM, h1 = qup h 78 1 0 → ∀ h2 : qM, h2 = qup h1 78 0 0 → RunI X d mX11_isName [(1, v1)] sh pt h2 (fun r4 h3 => ((r4 = 0 → RunI X d mX11_refuse [(2, 78), (0, 5)] sh pt h3 (fun r6 h5 => K r6 h5)) ∧ (¬ r4 = 0 → ((v3 < 1 → RunI X d mX11_refuse [(2, 78), (0, 5)] sh pt h3 (fun r8 h7 => K r8 h7)) ∧ (1 ≤ v3 → ((v3 < (qishl 1 (h3 78 7)) → RunI X d mX11_groupOf [(2, 78), (1, v1)] sh pt h3 (fun r10 h9 => ((0 ≤ r10 → EvI X (d + 1) mX11_group 66 [(2, 78), (1, v1), (8, -1), (0, v3), (0, r10)] [] sh pt h9 K) ∧ (r10 < 0 → ((¬ (h9 78 9) = 8 → EvI X (d + 1) mX11_group 66 [(2, 78), (1, v1), (8, -1), (0, v3), (0, r10)] [] sh pt h9 K) ∧ ((h9 78 9) = 8 → RunI X d mX11_refuse [(2, 78), (0, 7)] sh pt h9 (fun r12 h11 => K r12 h11))))))) ∧ ((qishl 1 (h3 78 7)) ≤ v3 → RunI X d mX11_refuse [(2, 78), (0, 5)] sh pt h3 (fun r14 h13 => K r14 h13))))))))) :
    RunI X (d + 1) mX11_group [(2, 78), (1, v1), (0, v3)] sh pt h K := by
  show Ev X (d + 1) 0 0 mX11_group 0 [(2, 78), (1, v1), (8, -1), (0, v3), (8, -1)] [] (sh, pt, h) (qRI sh pt K)
  refine ev_aload_n 1 rfl dX11_group_0 rfl rfl ?_
  refine ev_iconst 2 rfl dX11_group_1 (by decide) ?_
  refine ev_putI (ki := 1) 5 rfl dX11_group_2 lf_11_213 (Or.inl rfl) (s_78 hst) (by decide) rfl ?_
  obtain ⟨h1, eh1⟩ : ∃ z : qM, z = qup h 78 1 0 := ⟨_, rfl⟩
  rw [← eh1]
  have H := H h1 eh1
  refine ev_aload_n 6 rfl dX11_group_5 rfl rfl ?_
  refine ev_iconst 7 rfl dX11_group_6 (by decide) ?_
  refine ev_putI (ki := 0) 10 rfl dX11_group_7 lf_11_216 (Or.inl rfl) (s_78 hst) (by decide) rfl ?_
  obtain ⟨h2, eh2⟩ : ∃ z : qM, z = qup h1 78 0 0 := ⟨_, rfl⟩
  rw [← eh2]
  have H := H h2 eh2
  refine ev_lload_n 11 rfl dX11_group_10 rfl rfl ?_
  refine ev_cSI (As := [(1, v1)]) (rest := []) 14 rfl dX11_group_11 lm_11_269 mm_X11_isName rfl rfl (Nat.le_of_ble_eq_true rfl) (Nat.le_of_ble_eq_true rfl) (Nat.le_refl _) H ?_
  intro r4 h3 H
  refine ev_if_eq (tgt := 32) 17 rfl dX11_group_14 (by decide) (fun cd => ?_) (fun cd => ?_)
  · have H := H.1 cd
    refine ev_aload_n 33 rfl dX11_group_32 rfl rfl ?_
    refine ev_iconst 34 rfl dX11_group_33 (by decide) ?_
    refine ev_cVI (As := [(0, 5)]) (rest := []) 37 rfl dX11_group_34 lm_11_254 mm_X11_refuse (s_78 hst) rfl rfl (Nat.le_of_ble_eq_true rfl) (Nat.le_of_ble_eq_true rfl) (Nat.le_refl _) H ?_
    intro r6 h5 H
    exact ev_retI dX11_group_37 rfl H
  · have H := H.2 cd
    refine ev_iload_n 18 rfl dX11_group_17 rfl rfl ?_
    refine ev_iconst 19 rfl dX11_group_18 (by decide) ?_
    refine ev_icmp_lt (tgt := 32) 22 rfl dX11_group_19 (by decide) (fun cd => ?_) (fun cd => ?_)
    · have H := H.1 cd
      refine ev_aload_n 33 rfl dX11_group_32 rfl rfl ?_
      refine ev_iconst 34 rfl dX11_group_33 (by decide) ?_
      refine ev_cVI (As := [(0, 5)]) (rest := []) 37 rfl dX11_group_34 lm_11_254 mm_X11_refuse (s_78 hst) rfl rfl (Nat.le_of_ble_eq_true rfl) (Nat.le_of_ble_eq_true rfl) (Nat.le_refl _) H ?_
      intro r8 h7 H
      exact ev_retI dX11_group_37 rfl H
    · have H := H.2 cd
      refine ev_iload_n 23 rfl dX11_group_22 rfl rfl ?_
      refine ev_iconst 24 rfl dX11_group_23 (by decide) ?_
      refine ev_aload_n 25 rfl dX11_group_24 rfl rfl ?_
      refine ev_getI (ki := 7) 28 rfl dX11_group_25 lf_11_245 (Or.inl rfl) (s_78 hst) (by decide) rfl ?_
      refine ev_ishl 29 rfl dX11_group_28 ?_
      refine ev_icmp_lt (tgt := 38) 32 rfl dX11_group_29 (by decide) (fun cd => ?_) (fun cd => ?_)
      · have H := H.1 cd
        refine ev_aload_n 39 rfl dX11_group_38 rfl rfl ?_
        refine ev_lload_n 40 rfl dX11_group_39 rfl rfl ?_
        refine ev_cVI (As := [(1, v1)]) (rest := []) 43 rfl dX11_group_40 lm_11_273 mm_X11_groupOf (s_78 hst) rfl rfl (Nat.le_of_ble_eq_true rfl) (Nat.le_of_ble_eq_true rfl) (Nat.le_refl _) H ?_
        intro r10 h9 H
        refine ev_istore (L1 := [(2, 78), (1, v1), (8, -1), (0, v3), (0, r10)]) 45 rfl dX11_group_43 (Nat.le_of_ble_eq_true rfl) rfl ?_
        refine ev_iload 47 rfl dX11_group_45 rfl ?_
        refine ev_if_ge (tgt := 66) 50 rfl dX11_group_47 (by decide) (fun cd => ?_) (fun cd => ?_)
        · have H := H.1 cd
          exact H
        · have H := H.2 cd
          refine ev_aload_n 51 rfl dX11_group_50 rfl rfl ?_
          refine ev_getI (ki := 9) 54 rfl dX11_group_51 lf_11_266 (Or.inl rfl) (s_78 hst) (by decide) rfl ?_
          refine ev_bipush 56 rfl dX11_group_54 (by decide) (by decide) ?_
          refine ev_icmp_ne (tgt := 66) 59 rfl dX11_group_56 (by decide) (fun cd => ?_) (fun cd => ?_)
          · have H := H.1 cd
            exact H
          · have H := H.2 cd
            refine ev_aload_n 60 rfl dX11_group_59 rfl rfl ?_
            refine ev_bipush 62 rfl dX11_group_60 (by decide) (by decide) ?_
            refine ev_cVI (As := [(0, 7)]) (rest := []) 65 rfl dX11_group_62 lm_11_254 mm_X11_refuse (s_78 hst) rfl rfl (Nat.le_of_ble_eq_true rfl) (Nat.le_of_ble_eq_true rfl) (Nat.le_refl _) H ?_
            intro r12 h11 H
            exact ev_retI dX11_group_65 rfl H
      · have H := H.2 cd
        refine ev_aload_n 33 rfl dX11_group_32 rfl rfl ?_
        refine ev_iconst 34 rfl dX11_group_33 (by decide) ?_
        refine ev_cVI (As := [(0, 5)]) (rest := []) 37 rfl dX11_group_34 lm_11_254 mm_X11_refuse (s_78 hst) rfl rfl (Nat.le_of_ble_eq_true rfl) (Nat.le_of_ble_eq_true rfl) (Nat.le_refl _) H ?_
        intro r14 h13 H
        exact ev_retI dX11_group_37 rfl H

set_option maxRecDepth 20000 in
theorem b_X11_group_66 {X : qX} {d : Nat} {sh : qS} {pt h : qM} {K : Int → qM → Prop} {v1 v3 v4 : Int} (hst : St sh pt)
    (H : ((0 ≤ v4 → (0 ≤ v4 ∧ v4 < 8) ∧ ∀ h2 : qM, h2 = qup h 87 v4 v1 → (0 ≤ v4 ∧ v4 < 8) ∧ ∀ h4 : qM, h4 = qup h2 85 v4 v3 → K v4 h4) ∧ (v4 < 0 → (qI ((h 78 9) + 1)) ∧ ∀ h5 : qM, h5 = qup h 78 9 ((h 78 9) + 1) → (0 ≤ (h 78 9) ∧ (h 78 9) < 8) ∧ ∀ h7 : qM, h7 = qup h5 87 (h 78 9) v1 → (0 ≤ (h 78 9) ∧ (h 78 9) < 8) ∧ ∀ h9 : qM, h9 = qup h7 85 (h 78 9) v3 → K (h 78 9) h9))) :
    EvI X (d + 1) mX11_group 66 [(2, 78), (1, v1), (8, -1), (0, v3), (0, v4)] [] sh pt h K := by
  show Ev X (d + 1) 0 0 mX11_group 66 [(2, 78), (1, v1), (8, -1), (0, v3), (0, v4)] [] (sh, pt, h) (qRI sh pt K)
  refine ev_iload 68 rfl dX11_group_66 rfl ?_
  refine ev_if_ge (tgt := 87) 71 rfl dX11_group_68 (by decide) (fun cd => ?_) (fun cd => ?_)
  · have H := H.1 cd
    refine ev_aload_n 88 rfl dX11_group_87 rfl rfl ?_
    refine ev_getR (ki := 16) (v := 87) 91 rfl dX11_group_88 lf_11_44 (s_78 hst) (by decide) rfl (p_78_16 hst) ?_
    refine ev_iload 93 rfl dX11_group_91 rfl ?_
    refine ev_lload_n 94 rfl dX11_group_93 rfl rfl ?_
    obtain ⟨b1, H⟩ := H
    refine ev_lastore 95 rfl dX11_group_94 (s_87 hst) b1.1 b1.2 ?_
    obtain ⟨h2, eh2⟩ : ∃ z : qM, z = qup h 87 v4 v1 := ⟨_, rfl⟩
    rw [← eh2]
    have H := H h2 eh2
    refine ev_aload_n 96 rfl dX11_group_95 rfl rfl ?_
    refine ev_getR (ki := 14) (v := 85) 99 rfl dX11_group_96 lf_11_37 (s_78 hst) (by decide) rfl (p_78_14 hst) ?_
    refine ev_iload 101 rfl dX11_group_99 rfl ?_
    refine ev_iload_n 102 rfl dX11_group_101 rfl rfl ?_
    obtain ⟨b3, H⟩ := H
    refine ev_iastore 103 rfl dX11_group_102 (s_85 hst) b3.1 b3.2 ?_
    obtain ⟨h4, eh4⟩ : ∃ z : qM, z = qup h2 85 v4 v3 := ⟨_, rfl⟩
    rw [← eh4]
    have H := H h4 eh4
    refine ev_iload 105 rfl dX11_group_103 rfl ?_
    exact ev_retI dX11_group_105 rfl H
  · have H := H.2 cd
    refine ev_aload_n 72 rfl dX11_group_71 rfl rfl ?_
    refine ev_getI (ki := 9) 75 rfl dX11_group_72 lf_11_266 (Or.inl rfl) (s_78 hst) (by decide) rfl ?_
    refine ev_istore (L1 := [(2, 78), (1, v1), (8, -1), (0, v3), (0, (h 78 9))]) 77 rfl dX11_group_75 (Nat.le_of_ble_eq_true rfl) rfl ?_
    refine ev_aload_n 78 rfl dX11_group_77 rfl rfl ?_
    refine ev_dup 79 rfl dX11_group_78 q21 ?_
    refine ev_getI (ki := 9) 82 rfl dX11_group_79 lf_11_266 (Or.inl rfl) (s_78 hst) (by decide) rfl ?_
    refine ev_iconst 83 rfl dX11_group_82 (by decide) ?_
    obtain ⟨sd, H⟩ := H
    refine ev_iadd 84 rfl dX11_group_83 sd ?_
    refine ev_putI (ki := 9) 87 rfl dX11_group_84 lf_11_266 (Or.inl rfl) (s_78 hst) (by decide) rfl ?_
    obtain ⟨h5, eh5⟩ : ∃ z : qM, z = qup h 78 9 ((h 78 9) + 1) := ⟨_, rfl⟩
    rw [← eh5]
    have H := H h5 eh5
    refine ev_aload_n 88 rfl dX11_group_87 rfl rfl ?_
    refine ev_getR (ki := 16) (v := 87) 91 rfl dX11_group_88 lf_11_44 (s_78 hst) (by decide) rfl (p_78_16 hst) ?_
    refine ev_iload 93 rfl dX11_group_91 rfl ?_
    refine ev_lload_n 94 rfl dX11_group_93 rfl rfl ?_
    obtain ⟨b6, H⟩ := H
    refine ev_lastore 95 rfl dX11_group_94 (s_87 hst) b6.1 b6.2 ?_
    obtain ⟨h7, eh7⟩ : ∃ z : qM, z = qup h5 87 (h 78 9) v1 := ⟨_, rfl⟩
    rw [← eh7]
    have H := H h7 eh7
    refine ev_aload_n 96 rfl dX11_group_95 rfl rfl ?_
    refine ev_getR (ki := 14) (v := 85) 99 rfl dX11_group_96 lf_11_37 (s_78 hst) (by decide) rfl (p_78_14 hst) ?_
    refine ev_iload 101 rfl dX11_group_99 rfl ?_
    refine ev_iload_n 102 rfl dX11_group_101 rfl rfl ?_
    obtain ⟨b8, H⟩ := H
    refine ev_iastore 103 rfl dX11_group_102 (s_85 hst) b8.1 b8.2 ?_
    obtain ⟨h9, eh9⟩ : ∃ z : qM, z = qup h7 85 (h 78 9) v3 := ⟨_, rfl⟩
    rw [← eh9]
    have H := H h9 eh9
    refine ev_iload 105 rfl dX11_group_103 rfl ?_
    exact ev_retI dX11_group_105 rfl H

set_option maxRecDepth 20000 in
theorem b_X11_steps {X : qX} {d : Nat} {sh : qS} {pt h : qM} {K : Int → qM → Prop} {v1 : Int} (hst : St sh pt)
    (H : ∀ h1 : qM, h1 = qup h 78 1 0 → ∀ h2 : qM, h2 = qup h1 78 0 0 → RunI X d mX11_isIn [(1, v1), (1, 1), (1, 50)] sh pt h2 (fun r4 h3 => ((¬ r4 = 0 → ∀ h5 : qM, h5 = qup h3 78 10 v1 → K 1 h5) ∧ (r4 = 0 → RunI X d mX11_no [(2, 78), (0, 5)] sh pt h3 (fun r7 h6 => (0 ≤ r7 ∧ r7 ≤ 1) ∧ K r7 h6))))) :
    RunI X (d + 1) mX11_steps [(2, 78), (0, v1)] sh pt h K := by
  show Ev X (d + 1) 0 0 mX11_steps 0 [(2, 78), (0, v1)] [] (sh, pt, h) (qRI sh pt K)
  refine ev_aload_n 1 rfl dX11_steps_0 rfl rfl ?_
  refine ev_iconst 2 rfl dX11_steps_1 (by decide) ?_
  refine ev_putI (ki := 1) 5 rfl dX11_steps_2 lf_11_213 (Or.inl rfl) (s_78 hst) (by decide) rfl ?_
  obtain ⟨h1, eh1⟩ : ∃ z : qM, z = qup h 78 1 0 := ⟨_, rfl⟩
  rw [← eh1]
  have H := H h1 eh1
  refine ev_aload_n 6 rfl dX11_steps_5 rfl rfl ?_
  refine ev_iconst 7 rfl dX11_steps_6 (by decide) ?_
  refine ev_putI (ki := 0) 10 rfl dX11_steps_7 lf_11_216 (Or.inl rfl) (s_78 hst) (by decide) rfl ?_
  obtain ⟨h2, eh2⟩ : ∃ z : qM, z = qup h1 78 0 0 := ⟨_, rfl⟩
  rw [← eh2]
  have H := H h2 eh2
  refine ev_iload_n 11 rfl dX11_steps_10 rfl rfl ?_
  refine ev_i2l 12 rfl dX11_steps_11 ?_
  refine ev_lconst (v := 1) 13 rfl dX11_steps_12 (by decide) (by decide) ?_
  refine ev_ldc2 16 rfl dX11_steps_13 kl_11_277 (by decide) ?_
  refine ev_cSI (As := [(1, v1), (1, 1), (1, 50)]) (rest := []) 19 rfl dX11_steps_16 lm_11_221 mm_X11_isIn rfl rfl (Nat.le_of_ble_eq_true rfl) (Nat.le_of_ble_eq_true rfl) (Nat.le_refl _) H ?_
  intro r4 h3 H
  refine ev_if_ne (tgt := 28) 22 rfl dX11_steps_19 (by decide) (fun cd => ?_) (fun cd => ?_)
  · have H := H.1 cd
    refine ev_aload_n 29 rfl dX11_steps_28 rfl rfl ?_
    refine ev_iload_n 30 rfl dX11_steps_29 rfl rfl ?_
    refine ev_putI (ki := 10) 33 rfl dX11_steps_30 lf_11_24 (Or.inl rfl) (s_78 hst) (by decide) rfl ?_
    obtain ⟨h5, eh5⟩ : ∃ z : qM, z = qup h3 78 10 v1 := ⟨_, rfl⟩
    rw [← eh5]
    have H := H h5 eh5
    refine ev_iconst 34 rfl dX11_steps_33 (by decide) ?_
    exact ev_retZ dX11_steps_34 rfl (by decide) H
  · have H := H.2 cd
    refine ev_aload_n 23 rfl dX11_steps_22 rfl rfl ?_
    refine ev_iconst 24 rfl dX11_steps_23 (by decide) ?_
    refine ev_cVI (As := [(0, 5)]) (rest := []) 27 rfl dX11_steps_24 lm_11_227 mm_X11_no (s_78 hst) rfl rfl (Nat.le_of_ble_eq_true rfl) (Nat.le_of_ble_eq_true rfl) (Nat.le_refl _) H ?_
    intro r7 h6 H
    obtain ⟨sd, H⟩ := H
    exact ev_retZ dX11_steps_27 rfl sd H

set_option maxRecDepth 20000 in
theorem b_X11_look {X : qX} {d : Nat} {sh : qS} {pt h : qM} {K : Int → qM → Prop} {v1 : Int} (hst : St sh pt)
    (H : (((h 78 19) ≤ v1 → K 0 h) ∧ (v1 < (h 78 19) → (0 ≤ v1 ∧ v1 < 500) ∧ K (qiand (h 88 v1) 255) h))) :
    RunI X d mX11_look [(2, 78), (0, v1)] sh pt h K := by
  show Ev X d 0 0 mX11_look 0 [(2, 78), (0, v1)] [] (sh, pt, h) (qRI sh pt K)
  refine ev_iload_n 1 rfl dX11_look_0 rfl rfl ?_
  refine ev_aload_n 2 rfl dX11_look_1 rfl rfl ?_
  refine ev_getI (ki := 19) 5 rfl dX11_look_2 lf_11_279 (Or.inl rfl) (s_78 hst) (by decide) rfl ?_
  refine ev_icmp_ge (tgt := 21) 8 rfl dX11_look_5 (by decide) (fun cd => ?_) (fun cd => ?_)
  · have H := H.1 cd
    refine ev_iconst 22 rfl dX11_look_21 (by decide) ?_
    exact ev_retI dX11_look_22 rfl H
  · have H := H.2 cd
    refine ev_aload_n 9 rfl dX11_look_8 rfl rfl ?_
    refine ev_getR (ki := 17) (v := 88) 12 rfl dX11_look_9 lf_11_47 (s_78 hst) (by decide) rfl (p_78_17 hst) ?_
    refine ev_iload_n 13 rfl dX11_look_12 rfl rfl ?_
    obtain ⟨b1, H⟩ := H
    refine ev_baload 14 rfl dX11_look_13 (s_88 hst) b1.1 b1.2 ?_
    refine ev_sipush 17 rfl dX11_look_14 (by decide) (by decide) ?_
    refine ev_iand 18 rfl dX11_look_17 ?_
    refine ev_goto (tgt := 22) dX11_look_18 (by decide) ?_
    exact ev_retI dX11_look_22 rfl H

set_option maxRecDepth 20000 in
theorem b_X11_isLetter {X : qX} {d : Nat} {sh : qS} {pt h : qM} {K : Int → qM → Prop} {v0 : Int} (hst : St sh pt)
    (H : ((v0 < 97 → K 0 h) ∧ (97 ≤ v0 → ((122 < v0 → K 0 h) ∧ (v0 ≤ 122 → K 1 h))))) :
    RunI X d mX11_isLetter [(0, v0)] sh pt h K := by
  show Ev X d 0 0 mX11_isLetter 0 [(0, v0)] [] (sh, pt, h) (qRI sh pt K)
  refine ev_iload_n 1 rfl dX11_isLetter_0 rfl rfl ?_
  refine ev_bipush 3 rfl dX11_isLetter_1 (by decide) (by decide) ?_
  refine ev_icmp_lt (tgt := 16) 6 rfl dX11_isLetter_3 (by decide) (fun cd => ?_) (fun cd => ?_)
  · have H := H.1 cd
    refine ev_iconst 17 rfl dX11_isLetter_16 (by decide) ?_
    exact ev_retZ dX11_isLetter_17 rfl (by decide) H
  · have H := H.2 cd
    refine ev_iload_n 7 rfl dX11_isLetter_6 rfl rfl ?_
    refine ev_bipush 9 rfl dX11_isLetter_7 (by decide) (by decide) ?_
    refine ev_icmp_gt (tgt := 16) 12 rfl dX11_isLetter_9 (by decide) (fun cd => ?_) (fun cd => ?_)
    · have H := H.1 cd
      refine ev_iconst 17 rfl dX11_isLetter_16 (by decide) ?_
      exact ev_retZ dX11_isLetter_17 rfl (by decide) H
    · have H := H.2 cd
      refine ev_iconst 13 rfl dX11_isLetter_12 (by decide) ?_
      refine ev_goto (tgt := 17) dX11_isLetter_13 (by decide) ?_
      exact ev_retZ dX11_isLetter_17 rfl (by decide) H

set_option maxRecDepth 20000 in
theorem b_X11_isDigit {X : qX} {d : Nat} {sh : qS} {pt h : qM} {K : Int → qM → Prop} {v0 : Int} (hst : St sh pt)
    (H : ((v0 < 48 → K 0 h) ∧ (48 ≤ v0 → ((57 < v0 → K 0 h) ∧ (v0 ≤ 57 → K 1 h))))) :
    RunI X d mX11_isDigit [(0, v0)] sh pt h K := by
  show Ev X d 0 0 mX11_isDigit 0 [(0, v0)] [] (sh, pt, h) (qRI sh pt K)
  refine ev_iload_n 1 rfl dX11_isDigit_0 rfl rfl ?_
  refine ev_bipush 3 rfl dX11_isDigit_1 (by decide) (by decide) ?_
  refine ev_icmp_lt (tgt := 16) 6 rfl dX11_isDigit_3 (by decide) (fun cd => ?_) (fun cd => ?_)
  · have H := H.1 cd
    refine ev_iconst 17 rfl dX11_isDigit_16 (by decide) ?_
    exact ev_retZ dX11_isDigit_17 rfl (by decide) H
  · have H := H.2 cd
    refine ev_iload_n 7 rfl dX11_isDigit_6 rfl rfl ?_
    refine ev_bipush 9 rfl dX11_isDigit_7 (by decide) (by decide) ?_
    refine ev_icmp_gt (tgt := 16) 12 rfl dX11_isDigit_9 (by decide) (fun cd => ?_) (fun cd => ?_)
    · have H := H.1 cd
      refine ev_iconst 17 rfl dX11_isDigit_16 (by decide) ?_
      exact ev_retZ dX11_isDigit_17 rfl (by decide) H
    · have H := H.2 cd
      refine ev_iconst 13 rfl dX11_isDigit_12 (by decide) ?_
      refine ev_goto (tgt := 17) dX11_isDigit_13 (by decide) ?_
      exact ev_retZ dX11_isDigit_17 rfl (by decide) H

set_option maxRecDepth 20000 in
theorem b_X11_next {X : qX} {d : Nat} {sh : qS} {pt h : qM} {K : qM → Prop} (hst : St sh pt)
    (H : ∀ h1 : qM, h1 = qup h 78 25 (h 78 26) → EvV X (d + 1) mX11_next 8 [(2, 78), (8, -1)] [] sh pt h1 K) :
    RunV X (d + 1) mX11_next [(2, 78)] sh pt h K := by
  show Ev X (d + 1) 0 0 mX11_next 0 [(2, 78), (8, -1)] [] (sh, pt, h) (qRV sh pt K)
  refine ev_aload_n 1 rfl dX11_next_0 rfl rfl ?_
  refine ev_aload_n 2 rfl dX11_next_1 rfl rfl ?_
  refine ev_getI (ki := 26) 5 rfl dX11_next_2 lf_11_282 (Or.inl rfl) (s_78 hst) (by decide) rfl ?_
  refine ev_putI (ki := 25) 8 rfl dX11_next_5 lf_11_285 (Or.inl rfl) (s_78 hst) (by decide) rfl ?_
  obtain ⟨h1, eh1⟩ : ∃ z : qM, z = qup h 78 25 (h 78 26) := ⟨_, rfl⟩
  rw [← eh1]
  have H := H h1 eh1
  exact H

set_option maxRecDepth 20000 in
theorem b_X11_next_8 {X : qX} {d : Nat} {sh : qS} {pt h : qM} {K : qM → Prop} (hst : St sh pt)
    (H : (((h 78 19) ≤ (h 78 25) → EvV X (d + 1) mX11_next 58 [(2, 78), (8, -1)] [] sh pt h K) ∧ ((h 78 25) < (h 78 19) → RunI X d mX11_look [(2, 78), (0, (h 78 25))] sh pt h (fun r2 h1 => ((r2 = 10 → (qI ((h1 78 25) + 1)) ∧ ∀ h3 : qM, h3 = qup h1 78 25 ((h1 78 25) + 1) → EvV X (d + 1) mX11_next 8 [(2, 78), (8, -1)] [] sh pt h3 K) ∧ (¬ r2 = 10 → RunI X d mX11_look [(2, 78), (0, (h1 78 25))] sh pt h1 (fun r5 h4 => ((¬ r5 = 32 → EvV X (d + 1) mX11_next 58 [(2, 78), (8, -1)] [] sh pt h4 K) ∧ (r5 = 32 → (qI ((h4 78 25) + 1)) ∧ ∀ h6 : qM, h6 = qup h4 78 25 ((h4 78 25) + 1) → EvV X (d + 1) mX11_next 8 [(2, 78), (8, -1)] [] sh pt h6 K))))))))) :
    EvV X (d + 1) mX11_next 8 [(2, 78), (8, -1)] [] sh pt h K := by
  show Ev X (d + 1) 0 0 mX11_next 8 [(2, 78), (8, -1)] [] (sh, pt, h) (qRV sh pt K)
  refine ev_aload_n 9 rfl dX11_next_8 rfl rfl ?_
  refine ev_getI (ki := 25) 12 rfl dX11_next_9 lf_11_285 (Or.inl rfl) (s_78 hst) (by decide) rfl ?_
  refine ev_aload_n 13 rfl dX11_next_12 rfl rfl ?_
  refine ev_getI (ki := 19) 16 rfl dX11_next_13 lf_11_279 (Or.inl rfl) (s_78 hst) (by decide) rfl ?_
  refine ev_icmp_ge (tgt := 58) 19 rfl dX11_next_16 (by decide) (fun cd => ?_) (fun cd => ?_)
  · have H := H.1 cd
    exact H
  · have H := H.2 cd
    refine ev_aload_n 20 rfl dX11_next_19 rfl rfl ?_
    refine ev_aload_n 21 rfl dX11_next_20 rfl rfl ?_
    refine ev_getI (ki := 25) 24 rfl dX11_next_21 lf_11_285 (Or.inl rfl) (s_78 hst) (by decide) rfl ?_
    refine ev_cVI (As := [(0, (h 78 25))]) (rest := []) 27 rfl dX11_next_24 lm_11_288 mm_X11_look (s_78 hst) rfl rfl (Nat.le_of_ble_eq_true rfl) (Nat.le_of_ble_eq_true rfl) (Nat.le_refl _) H ?_
    intro r2 h1 H
    refine ev_bipush 29 rfl dX11_next_27 (by decide) (by decide) ?_
    refine ev_icmp_eq (tgt := 45) 32 rfl dX11_next_29 (by decide) (fun cd => ?_) (fun cd => ?_)
    · have H := H.1 cd
      refine ev_aload_n 46 rfl dX11_next_45 rfl rfl ?_
      refine ev_dup 47 rfl dX11_next_46 q21 ?_
      refine ev_getI (ki := 25) 50 rfl dX11_next_47 lf_11_285 (Or.inl rfl) (s_78 hst) (by decide) rfl ?_
      refine ev_iconst 51 rfl dX11_next_50 (by decide) ?_
      obtain ⟨sd, H⟩ := H
      refine ev_iadd 52 rfl dX11_next_51 sd ?_
      refine ev_putI (ki := 25) 55 rfl dX11_next_52 lf_11_285 (Or.inl rfl) (s_78 hst) (by decide) rfl ?_
      obtain ⟨h3, eh3⟩ : ∃ z : qM, z = qup h1 78 25 ((h1 78 25) + 1) := ⟨_, rfl⟩
      rw [← eh3]
      have H := H h3 eh3
      refine ev_goto (tgt := 8) dX11_next_55 (by decide) ?_
      exact H
    · have H := H.2 cd
      refine ev_aload_n 33 rfl dX11_next_32 rfl rfl ?_
      refine ev_aload_n 34 rfl dX11_next_33 rfl rfl ?_
      refine ev_getI (ki := 25) 37 rfl dX11_next_34 lf_11_285 (Or.inl rfl) (s_78 hst) (by decide) rfl ?_
      refine ev_cVI (As := [(0, (h1 78 25))]) (rest := []) 40 rfl dX11_next_37 lm_11_288 mm_X11_look (s_78 hst) rfl rfl (Nat.le_of_ble_eq_true rfl) (Nat.le_of_ble_eq_true rfl) (Nat.le_refl _) H ?_
      intro r5 h4 H
      refine ev_bipush 42 rfl dX11_next_40 (by decide) (by decide) ?_
      refine ev_icmp_ne (tgt := 58) 45 rfl dX11_next_42 (by decide) (fun cd => ?_) (fun cd => ?_)
      · have H := H.1 cd
        exact H
      · have H := H.2 cd
        refine ev_aload_n 46 rfl dX11_next_45 rfl rfl ?_
        refine ev_dup 47 rfl dX11_next_46 q21 ?_
        refine ev_getI (ki := 25) 50 rfl dX11_next_47 lf_11_285 (Or.inl rfl) (s_78 hst) (by decide) rfl ?_
        refine ev_iconst 51 rfl dX11_next_50 (by decide) ?_
        obtain ⟨sd, H⟩ := H
        refine ev_iadd 52 rfl dX11_next_51 sd ?_
        refine ev_putI (ki := 25) 55 rfl dX11_next_52 lf_11_285 (Or.inl rfl) (s_78 hst) (by decide) rfl ?_
        obtain ⟨h6, eh6⟩ : ∃ z : qM, z = qup h4 78 25 ((h4 78 25) + 1) := ⟨_, rfl⟩
        rw [← eh6]
        have H := H h6 eh6
        refine ev_goto (tgt := 8) dX11_next_55 (by decide) ?_
        exact H

set_option maxRecDepth 20000 in
theorem b_X11_next_58 {X : qX} {d : Nat} {sh : qS} {pt h : qM} {K : qM → Prop} (hst : St sh pt)
    (H : ∀ h1 : qM, h1 = qup h 78 26 (h 78 25) → (((h1 78 25) < (h1 78 19) → RunI X d mX11_look [(2, 78), (0, (h1 78 25))] sh pt h1 (fun r3 h2 => RunI X d mX11_isLetter [(0, r3)] sh pt h2 (fun r5 h4 => ((r5 = 0 → RunI X d mX11_isDigit [(0, r3)] sh pt h4 (fun r7 h6 => ((r7 = 0 → (qI ((h6 78 25) + 1)) ∧ ∀ h8 : qM, h8 = qup h6 78 26 ((h6 78 25) + 1) → ∀ h9 : qM, h9 = qup h8 78 27 r3 → ((r3 = 58 → ∀ h10 : qM, h10 = qup h9 78 24 3 → K h10) ∧ (¬ r3 = 58 → ((r3 = 59 → ∀ h11 : qM, h11 = qup h9 78 24 3 → K h11) ∧ (¬ r3 = 59 → ((r3 = 123 → ∀ h12 : qM, h12 = qup h9 78 24 3 → K h12) ∧ (¬ r3 = 123 → ((r3 = 125 → ∀ h13 : qM, h13 = qup h9 78 24 3 → K h13) ∧ (¬ r3 = 125 → ((¬ r3 = 45 → ∀ h14 : qM, h14 = qup h9 78 24 4 → K h14) ∧ (r3 = 45 → ∀ h15 : qM, h15 = qup h9 78 24 3 → K h15))))))))))) ∧ (¬ r7 = 0 → ∀ h16 : qM, h16 = qup h6 78 27 0 → EvV X (d + 1) mX11_next 210 [(2, 78), (8, -1)] [] sh pt h16 K)))) ∧ (¬ r5 = 0 → ∀ h17 : qM, h17 = qup h4 78 24 1 → ∀ h18 : qM, h18 = qup h17 78 29 0 → EvV X (d + 1) mX11_next 109 [(2, 78), (8, -1)] [] sh pt h18 K))))) ∧ ((h1 78 19) ≤ (h1 78 25) → ∀ h19 : qM, h19 = qup h1 78 24 0 → K h19))) :
    EvV X (d + 1) mX11_next 58 [(2, 78), (8, -1)] [] sh pt h K := by
  show Ev X (d + 1) 0 0 mX11_next 58 [(2, 78), (8, -1)] [] (sh, pt, h) (qRV sh pt K)
  refine ev_aload_n 59 rfl dX11_next_58 rfl rfl ?_
  refine ev_aload_n 60 rfl dX11_next_59 rfl rfl ?_
  refine ev_getI (ki := 25) 63 rfl dX11_next_60 lf_11_285 (Or.inl rfl) (s_78 hst) (by decide) rfl ?_
  refine ev_putI (ki := 26) 66 rfl dX11_next_63 lf_11_282 (Or.inl rfl) (s_78 hst) (by decide) rfl ?_
  obtain ⟨h1, eh1⟩ : ∃ z : qM, z = qup h 78 26 (h 78 25) := ⟨_, rfl⟩
  rw [← eh1]
  have H := H h1 eh1
  refine ev_aload_n 67 rfl dX11_next_66 rfl rfl ?_
  refine ev_getI (ki := 25) 70 rfl dX11_next_67 lf_11_285 (Or.inl rfl) (s_78 hst) (by decide) rfl ?_
  refine ev_aload_n 71 rfl dX11_next_70 rfl rfl ?_
  refine ev_getI (ki := 19) 74 rfl dX11_next_71 lf_11_279 (Or.inl rfl) (s_78 hst) (by decide) rfl ?_
  refine ev_icmp_lt (tgt := 83) 77 rfl dX11_next_74 (by decide) (fun cd => ?_) (fun cd => ?_)
  · have H := H.1 cd
    refine ev_aload_n 84 rfl dX11_next_83 rfl rfl ?_
    refine ev_aload_n 85 rfl dX11_next_84 rfl rfl ?_
    refine ev_getI (ki := 25) 88 rfl dX11_next_85 lf_11_285 (Or.inl rfl) (s_78 hst) (by decide) rfl ?_
    refine ev_cVI (As := [(0, (h1 78 25))]) (rest := []) 91 rfl dX11_next_88 lm_11_288 mm_X11_look (s_78 hst) rfl rfl (Nat.le_of_ble_eq_true rfl) (Nat.le_of_ble_eq_true rfl) (Nat.le_refl _) H ?_
    intro r3 h2 H
    refine ev_istore_n (L1 := [(2, 78), (0, r3)]) 92 rfl dX11_next_91 rfl (Nat.le_of_ble_eq_true rfl) rfl ?_
    refine ev_iload_n 93 rfl dX11_next_92 rfl rfl ?_
    refine ev_cSI (As := [(0, r3)]) (rest := []) 96 rfl dX11_next_93 lm_11_294 mm_X11_isLetter rfl rfl (Nat.le_of_ble_eq_true rfl) (Nat.le_of_ble_eq_true rfl) (Nat.le_refl _) H ?_
    intro r5 h4 H
    refine ev_if_eq (tgt := 198) 99 rfl dX11_next_96 (by decide) (fun cd => ?_) (fun cd => ?_)
    · have H := H.1 cd
      refine ev_iload_n 199 rfl dX11_next_198 rfl rfl ?_
      refine ev_cSI (As := [(0, r3)]) (rest := []) 202 rfl dX11_next_199 lm_11_305 mm_X11_isDigit rfl rfl (Nat.le_of_ble_eq_true rfl) (Nat.le_of_ble_eq_true rfl) (Nat.le_refl _) H ?_
      intro r7 h6 H
      refine ev_if_eq (tgt := 298) 205 rfl dX11_next_202 (by decide) (fun cd => ?_) (fun cd => ?_)
      · have H := H.1 cd
        refine ev_aload_n 299 rfl dX11_next_298 rfl rfl ?_
        refine ev_aload_n 300 rfl dX11_next_299 rfl rfl ?_
        refine ev_getI (ki := 25) 303 rfl dX11_next_300 lf_11_285 (Or.inl rfl) (s_78 hst) (by decide) rfl ?_
        refine ev_iconst 304 rfl dX11_next_303 (by decide) ?_
        obtain ⟨sd, H⟩ := H
        refine ev_iadd 305 rfl dX11_next_304 sd ?_
        refine ev_putI (ki := 26) 308 rfl dX11_next_305 lf_11_282 (Or.inl rfl) (s_78 hst) (by decide) rfl ?_
        obtain ⟨h8, eh8⟩ : ∃ z : qM, z = qup h6 78 26 ((h6 78 25) + 1) := ⟨_, rfl⟩
        rw [← eh8]
        have H := H h8 eh8
        refine ev_aload_n 309 rfl dX11_next_308 rfl rfl ?_
        refine ev_iload_n 310 rfl dX11_next_309 rfl rfl ?_
        refine ev_putI (ki := 27) 313 rfl dX11_next_310 lf_11_308 (Or.inl rfl) (s_78 hst) (by decide) rfl ?_
        obtain ⟨h9, eh9⟩ : ∃ z : qM, z = qup h8 78 27 r3 := ⟨_, rfl⟩
        rw [← eh9]
        have H := H h9 eh9
        refine ev_aload_n 314 rfl dX11_next_313 rfl rfl ?_
        refine ev_iload_n 315 rfl dX11_next_314 rfl rfl ?_
        refine ev_bipush 317 rfl dX11_next_315 (by decide) (by decide) ?_
        refine ev_icmp_eq (tgt := 344) 320 rfl dX11_next_317 (by decide) (fun cd => ?_) (fun cd => ?_)
        · have H := H.1 cd
          refine ev_iconst 345 rfl dX11_next_344 (by decide) ?_
          refine ev_goto (tgt := 349) dX11_next_345 (by decide) ?_
          refine ev_putI (ki := 24) 352 rfl dX11_next_349 lf_11_291 (Or.inl rfl) (s_78 hst) (by decide) rfl ?_
          obtain ⟨h10, eh10⟩ : ∃ z : qM, z = qup h9 78 24 3 := ⟨_, rfl⟩
          rw [← eh10]
          have H := H h10 eh10
          exact ev_retV dX11_next_352 rfl H
        · have H := H.2 cd
          refine ev_iload_n 321 rfl dX11_next_320 rfl rfl ?_
          refine ev_bipush 323 rfl dX11_next_321 (by decide) (by decide) ?_
          refine ev_icmp_eq (tgt := 344) 326 rfl dX11_next_323 (by decide) (fun cd => ?_) (fun cd => ?_)
          · have H := H.1 cd
            refine ev_iconst 345 rfl dX11_next_344 (by decide) ?_
            refine ev_goto (tgt := 349) dX11_next_345 (by decide) ?_
            refine ev_putI (ki := 24) 352 rfl dX11_next_349 lf_11_291 (Or.inl rfl) (s_78 hst) (by decide) rfl ?_
            obtain ⟨h11, eh11⟩ : ∃ z : qM, z = qup h9 78 24 3 := ⟨_, rfl⟩
            rw [← eh11]
            have H := H h11 eh11
            exact ev_retV dX11_next_352 rfl H
          · have H := H.2 cd
            refine ev_iload_n 327 rfl dX11_next_326 rfl rfl ?_
            refine ev_bipush 329 rfl dX11_next_327 (by decide) (by decide) ?_
            refine ev_icmp_eq (tgt := 344) 332 rfl dX11_next_329 (by decide) (fun cd => ?_) (fun cd => ?_)
            · have H := H.1 cd
              refine ev_iconst 345 rfl dX11_next_344 (by decide) ?_
              refine ev_goto (tgt := 349) dX11_next_345 (by decide) ?_
              refine ev_putI (ki := 24) 352 rfl dX11_next_349 lf_11_291 (Or.inl rfl) (s_78 hst) (by decide) rfl ?_
              obtain ⟨h12, eh12⟩ : ∃ z : qM, z = qup h9 78 24 3 := ⟨_, rfl⟩
              rw [← eh12]
              have H := H h12 eh12
              exact ev_retV dX11_next_352 rfl H
            · have H := H.2 cd
              refine ev_iload_n 333 rfl dX11_next_332 rfl rfl ?_
              refine ev_bipush 335 rfl dX11_next_333 (by decide) (by decide) ?_
              refine ev_icmp_eq (tgt := 344) 338 rfl dX11_next_335 (by decide) (fun cd => ?_) (fun cd => ?_)
              · have H := H.1 cd
                refine ev_iconst 345 rfl dX11_next_344 (by decide) ?_
                refine ev_goto (tgt := 349) dX11_next_345 (by decide) ?_
                refine ev_putI (ki := 24) 352 rfl dX11_next_349 lf_11_291 (Or.inl rfl) (s_78 hst) (by decide) rfl ?_
                obtain ⟨h13, eh13⟩ : ∃ z : qM, z = qup h9 78 24 3 := ⟨_, rfl⟩
                rw [← eh13]
                have H := H h13 eh13
                exact ev_retV dX11_next_352 rfl H
              · have H := H.2 cd
                refine ev_iload_n 339 rfl dX11_next_338 rfl rfl ?_
                refine ev_bipush 341 rfl dX11_next_339 (by decide) (by decide) ?_
                refine ev_icmp_ne (tgt := 348) 344 rfl dX11_next_341 (by decide) (fun cd => ?_) (fun cd => ?_)
                · have H := H.1 cd
                  refine ev_iconst 349 rfl dX11_next_348 (by decide) ?_
                  refine ev_putI (ki := 24) 352 rfl dX11_next_349 lf_11_291 (Or.inl rfl) (s_78 hst) (by decide) rfl ?_
                  obtain ⟨h14, eh14⟩ : ∃ z : qM, z = qup h9 78 24 4 := ⟨_, rfl⟩
                  rw [← eh14]
                  have H := H h14 eh14
                  exact ev_retV dX11_next_352 rfl H
                · have H := H.2 cd
                  refine ev_iconst 345 rfl dX11_next_344 (by decide) ?_
                  refine ev_goto (tgt := 349) dX11_next_345 (by decide) ?_
                  refine ev_putI (ki := 24) 352 rfl dX11_next_349 lf_11_291 (Or.inl rfl) (s_78 hst) (by decide) rfl ?_
                  obtain ⟨h15, eh15⟩ : ∃ z : qM, z = qup h9 78 24 3 := ⟨_, rfl⟩
                  rw [← eh15]
                  have H := H h15 eh15
                  exact ev_retV dX11_next_352 rfl H
      · have H := H.2 cd
        refine ev_aload_n 206 rfl dX11_next_205 rfl rfl ?_
        refine ev_iconst 207 rfl dX11_next_206 (by decide) ?_
        refine ev_putI (ki := 27) 210 rfl dX11_next_207 lf_11_308 (Or.inl rfl) (s_78 hst) (by decide) rfl ?_
        obtain ⟨h16, eh16⟩ : ∃ z : qM, z = qup h6 78 27 0 := ⟨_, rfl⟩
        rw [← eh16]
        have H := H h16 eh16
        refine Ev.drop [1] rfl ?_
        exact H
    · have H := H.2 cd
      refine ev_aload_n 100 rfl dX11_next_99 rfl rfl ?_
      refine ev_iconst 101 rfl dX11_next_100 (by decide) ?_
      refine ev_putI (ki := 24) 104 rfl dX11_next_101 lf_11_291 (Or.inl rfl) (s_78 hst) (by decide) rfl ?_
      obtain ⟨h17, eh17⟩ : ∃ z : qM, z = qup h4 78 24 1 := ⟨_, rfl⟩
      rw [← eh17]
      have H := H h17 eh17
      refine ev_aload_n 105 rfl dX11_next_104 rfl rfl ?_
      refine ev_lconst (v := 0) 106 rfl dX11_next_105 (by decide) (by decide) ?_
      refine ev_putL (ki := 29) 109 rfl dX11_next_106 lf_11_297 (s_78 hst) (by decide) rfl ?_
      obtain ⟨h18, eh18⟩ : ∃ z : qM, z = qup h17 78 29 0 := ⟨_, rfl⟩
      rw [← eh18]
      have H := H h18 eh18
      refine Ev.drop [1] rfl ?_
      exact H
  · have H := H.2 cd
    refine ev_aload_n 78 rfl dX11_next_77 rfl rfl ?_
    refine ev_iconst 79 rfl dX11_next_78 (by decide) ?_
    refine ev_putI (ki := 24) 82 rfl dX11_next_79 lf_11_291 (Or.inl rfl) (s_78 hst) (by decide) rfl ?_
    obtain ⟨h19, eh19⟩ : ∃ z : qM, z = qup h1 78 24 0 := ⟨_, rfl⟩
    rw [← eh19]
    have H := H h19 eh19
    exact ev_retV dX11_next_82 rfl H

set_option maxRecDepth 20000 in
theorem b_X11_next_210 {X : qX} {d : Nat} {sh : qS} {pt h : qM} {K : qM → Prop} (hst : St sh pt)
    (H : RunI X d mX11_look [(2, 78), (0, (h 78 26))] sh pt h (fun r2 h1 => RunI X d mX11_isDigit [(0, r2)] sh pt h1 (fun r4 h3 => ((r4 = 0 → (qI ((h3 78 26) - (h3 78 25))) ∧ ((((h3 78 26) - (h3 78 25)) ≤ 3 → ∀ h5 : qM, h5 = qup h3 78 24 2 → K h5) ∧ (3 < ((h3 78 26) - (h3 78 25)) → ∀ h6 : qM, h6 = qup h3 78 24 4 → K h6))) ∧ (¬ r4 = 0 → (qI ((h3 78 26) - (h3 78 25))) ∧ ((3 ≤ ((h3 78 26) - (h3 78 25)) → (qI ((h3 78 26) + 1)) ∧ ∀ h7 : qM, h7 = qup h3 78 26 ((h3 78 26) + 1) → EvV X (d + 1) mX11_next 210 [(2, 78), (8, -1)] [] sh pt h7 K) ∧ (((h3 78 26) - (h3 78 25)) < 3 → (qI (10 * (h3 78 27))) ∧ RunI X d mX11_look [(2, 78), (0, (h3 78 26))] sh pt h3 (fun r9 h8 => (qI ((10 * (h3 78 27)) + r9)) ∧ (qI (((10 * (h3 78 27)) + r9) - 48)) ∧ ∀ h10 : qM, h10 = qup h8 78 27 (((10 * (h3 78 27)) + r9) - 48) → (qI ((h10 78 26) + 1)) ∧ ∀ h11 : qM, h11 = qup h10 78 26 ((h10 78 26) + 1) → EvV X (d + 1) mX11_next 210 [(2, 78), (8, -1)] [] sh pt h11 K)))))))) :
    EvV X (d + 1) mX11_next 210 [(2, 78), (8, -1)] [] sh pt h K := by
  show Ev X (d + 1) 0 0 mX11_next 210 [(2, 78), (8, -1)] [] (sh, pt, h) (qRV sh pt K)
  refine ev_aload_n 211 rfl dX11_next_210 rfl rfl ?_
  refine ev_aload_n 212 rfl dX11_next_211 rfl rfl ?_
  refine ev_getI (ki := 26) 215 rfl dX11_next_212 lf_11_282 (Or.inl rfl) (s_78 hst) (by decide) rfl ?_
  refine ev_cVI (As := [(0, (h 78 26))]) (rest := []) 218 rfl dX11_next_215 lm_11_288 mm_X11_look (s_78 hst) rfl rfl (Nat.le_of_ble_eq_true rfl) (Nat.le_of_ble_eq_true rfl) (Nat.le_refl _) H ?_
  intro r2 h1 H
  refine ev_cSI (As := [(0, r2)]) (rest := []) 221 rfl dX11_next_218 lm_11_305 mm_X11_isDigit rfl rfl (Nat.le_of_ble_eq_true rfl) (Nat.le_of_ble_eq_true rfl) (Nat.le_refl _) H ?_
  intro r4 h3 H
  refine ev_if_eq (tgt := 273) 224 rfl dX11_next_221 (by decide) (fun cd => ?_) (fun cd => ?_)
  · have H := H.1 cd
    refine ev_aload_n 274 rfl dX11_next_273 rfl rfl ?_
    refine ev_aload_n 275 rfl dX11_next_274 rfl rfl ?_
    refine ev_getI (ki := 26) 278 rfl dX11_next_275 lf_11_282 (Or.inl rfl) (s_78 hst) (by decide) rfl ?_
    refine ev_aload_n 279 rfl dX11_next_278 rfl rfl ?_
    refine ev_getI (ki := 25) 282 rfl dX11_next_279 lf_11_285 (Or.inl rfl) (s_78 hst) (by decide) rfl ?_
    obtain ⟨sd, H⟩ := H
    refine ev_isub 283 rfl dX11_next_282 sd ?_
    refine ev_iconst 284 rfl dX11_next_283 (by decide) ?_
    refine ev_icmp_le (tgt := 291) 287 rfl dX11_next_284 (by decide) (fun cd => ?_) (fun cd => ?_)
    · have H := H.1 cd
      refine ev_iconst 292 rfl dX11_next_291 (by decide) ?_
      refine ev_putI (ki := 24) 295 rfl dX11_next_292 lf_11_291 (Or.inl rfl) (s_78 hst) (by decide) rfl ?_
      obtain ⟨h5, eh5⟩ : ∃ z : qM, z = qup h3 78 24 2 := ⟨_, rfl⟩
      rw [← eh5]
      have H := H h5 eh5
      refine ev_goto (tgt := 352) dX11_next_295 (by decide) ?_
      exact ev_retV dX11_next_352 rfl H
    · have H := H.2 cd
      refine ev_iconst 288 rfl dX11_next_287 (by decide) ?_
      refine ev_goto (tgt := 292) dX11_next_288 (by decide) ?_
      refine ev_putI (ki := 24) 295 rfl dX11_next_292 lf_11_291 (Or.inl rfl) (s_78 hst) (by decide) rfl ?_
      obtain ⟨h6, eh6⟩ : ∃ z : qM, z = qup h3 78 24 4 := ⟨_, rfl⟩
      rw [← eh6]
      have H := H h6 eh6
      refine ev_goto (tgt := 352) dX11_next_295 (by decide) ?_
      exact ev_retV dX11_next_352 rfl H
  · have H := H.2 cd
    refine ev_aload_n 225 rfl dX11_next_224 rfl rfl ?_
    refine ev_getI (ki := 26) 228 rfl dX11_next_225 lf_11_282 (Or.inl rfl) (s_78 hst) (by decide) rfl ?_
    refine ev_aload_n 229 rfl dX11_next_228 rfl rfl ?_
    refine ev_getI (ki := 25) 232 rfl dX11_next_229 lf_11_285 (Or.inl rfl) (s_78 hst) (by decide) rfl ?_
    obtain ⟨sd, H⟩ := H
    refine ev_isub 233 rfl dX11_next_232 sd ?_
    refine ev_iconst 234 rfl dX11_next_233 (by decide) ?_
    refine ev_icmp_ge (tgt := 260) 237 rfl dX11_next_234 (by decide) (fun cd => ?_) (fun cd => ?_)
    · have H := H.1 cd
      refine ev_aload_n 261 rfl dX11_next_260 rfl rfl ?_
      refine ev_dup 262 rfl dX11_next_261 q21 ?_
      refine ev_getI (ki := 26) 265 rfl dX11_next_262 lf_11_282 (Or.inl rfl) (s_78 hst) (by decide) rfl ?_
      refine ev_iconst 266 rfl dX11_next_265 (by decide) ?_
      obtain ⟨sd, H⟩ := H
      refine ev_iadd 267 rfl dX11_next_266 sd ?_
      refine ev_putI (ki := 26) 270 rfl dX11_next_267 lf_11_282 (Or.inl rfl) (s_78 hst) (by decide) rfl ?_
      obtain ⟨h7, eh7⟩ : ∃ z : qM, z = qup h3 78 26 ((h3 78 26) + 1) := ⟨_, rfl⟩
      rw [← eh7]
      have H := H h7 eh7
      refine ev_goto (tgt := 210) dX11_next_270 (by decide) ?_
      exact H
    · have H := H.2 cd
      refine ev_aload_n 238 rfl dX11_next_237 rfl rfl ?_
      refine ev_bipush 240 rfl dX11_next_238 (by decide) (by decide) ?_
      refine ev_aload_n 241 rfl dX11_next_240 rfl rfl ?_
      refine ev_getI (ki := 27) 244 rfl dX11_next_241 lf_11_308 (Or.inl rfl) (s_78 hst) (by decide) rfl ?_
      obtain ⟨sd, H⟩ := H
      refine ev_imul 245 rfl dX11_next_244 sd ?_
      refine ev_aload_n 246 rfl dX11_next_245 rfl rfl ?_
      refine ev_aload_n 247 rfl dX11_next_246 rfl rfl ?_
      refine ev_getI (ki := 26) 250 rfl dX11_next_247 lf_11_282 (Or.inl rfl) (s_78 hst) (by decide) rfl ?_
      refine ev_cVI (As := [(0, (h3 78 26))]) (rest := [(0, (10 * (h3 78 27))), (2, 78)]) 253 rfl dX11_next_250 lm_11_288 mm_X11_look (s_78 hst) rfl rfl (Nat.le_of_ble_eq_true rfl) (Nat.le_of_ble_eq_true rfl) (Nat.le_refl _) H ?_
      intro r9 h8 H
      obtain ⟨sd, H⟩ := H
      refine ev_iadd 254 rfl dX11_next_253 sd ?_
      refine ev_bipush 256 rfl dX11_next_254 (by decide) (by decide) ?_
      obtain ⟨sd, H⟩ := H
      refine ev_isub 257 rfl dX11_next_256 sd ?_
      refine ev_putI (ki := 27) 260 rfl dX11_next_257 lf_11_308 (Or.inl rfl) (s_78 hst) (by decide) rfl ?_
      obtain ⟨h10, eh10⟩ : ∃ z : qM, z = qup h8 78 27 (((10 * (h3 78 27)) + r9) - 48) := ⟨_, rfl⟩
      rw [← eh10]
      have H := H h10 eh10
      refine ev_aload_n 261 rfl dX11_next_260 rfl rfl ?_
      refine ev_dup 262 rfl dX11_next_261 q21 ?_
      refine ev_getI (ki := 26) 265 rfl dX11_next_262 lf_11_282 (Or.inl rfl) (s_78 hst) (by decide) rfl ?_
      refine ev_iconst 266 rfl dX11_next_265 (by decide) ?_
      obtain ⟨sd, H⟩ := H
      refine ev_iadd 267 rfl dX11_next_266 sd ?_
      refine ev_putI (ki := 26) 270 rfl dX11_next_267 lf_11_282 (Or.inl rfl) (s_78 hst) (by decide) rfl ?_
      obtain ⟨h11, eh11⟩ : ∃ z : qM, z = qup h10 78 26 ((h10 78 26) + 1) := ⟨_, rfl⟩
      rw [← eh11]
      have H := H h11 eh11
      refine ev_goto (tgt := 210) dX11_next_270 (by decide) ?_
      exact H

set_option maxRecDepth 20000 in
theorem b_X11_next_109 {X : qX} {d : Nat} {sh : qS} {pt h : qM} {K : qM → Prop} (hst : St sh pt)
    (H : RunI X d mX11_look [(2, 78), (0, (h 78 26))] sh pt h (fun r2 h1 => RunI X d mX11_isLetter [(0, r2)] sh pt h1 (fun r4 h3 => ((r4 = 0 → (qI ((h3 78 26) - (h3 78 25))) ∧ ∀ h5 : qM, h5 = qup h3 78 28 ((h3 78 26) - (h3 78 25)) → K h5) ∧ (¬ r4 = 0 → (qI ((h3 78 26) - (h3 78 25))) ∧ ((8 ≤ ((h3 78 26) - (h3 78 25)) → ∀ h6 : qM, h6 = qup h3 78 29 (-1) → (qI ((h6 78 26) + 1)) ∧ ∀ h7 : qM, h7 = qup h6 78 26 ((h6 78 26) + 1) → EvV X (d + 1) mX11_next 109 [(2, 78), (8, -1)] [] sh pt h7 K) ∧ (((h3 78 26) - (h3 78 25)) < 8 → (qL ((h3 78 29) * 32)) ∧ RunI X d mX11_look [(2, 78), (0, (h3 78 26))] sh pt h3 (fun r9 h8 => (qL (((h3 78 29) * 32) + r9)) ∧ (qL ((((h3 78 29) * 32) + r9) - 96)) ∧ ∀ h10 : qM, h10 = qup h8 78 29 ((((h3 78 29) * 32) + r9) - 96) → (qI ((h10 78 26) + 1)) ∧ ∀ h11 : qM, h11 = qup h10 78 26 ((h10 78 26) + 1) → EvV X (d + 1) mX11_next 109 [(2, 78), (8, -1)] [] sh pt h11 K)))))))) :
    EvV X (d + 1) mX11_next 109 [(2, 78), (8, -1)] [] sh pt h K := by
  show Ev X (d + 1) 0 0 mX11_next 109 [(2, 78), (8, -1)] [] (sh, pt, h) (qRV sh pt K)
  refine ev_aload_n 110 rfl dX11_next_109 rfl rfl ?_
  refine ev_aload_n 111 rfl dX11_next_110 rfl rfl ?_
  refine ev_getI (ki := 26) 114 rfl dX11_next_111 lf_11_282 (Or.inl rfl) (s_78 hst) (by decide) rfl ?_
  refine ev_cVI (As := [(0, (h 78 26))]) (rest := []) 117 rfl dX11_next_114 lm_11_288 mm_X11_look (s_78 hst) rfl rfl (Nat.le_of_ble_eq_true rfl) (Nat.le_of_ble_eq_true rfl) (Nat.le_refl _) H ?_
  intro r2 h1 H
  refine ev_cSI (As := [(0, r2)]) (rest := []) 120 rfl dX11_next_117 lm_11_294 mm_X11_isLetter rfl rfl (Nat.le_of_ble_eq_true rfl) (Nat.le_of_ble_eq_true rfl) (Nat.le_refl _) H ?_
  intro r4 h3 H
  refine ev_if_eq (tgt := 182) 123 rfl dX11_next_120 (by decide) (fun cd => ?_) (fun cd => ?_)
  · have H := H.1 cd
    refine ev_aload_n 183 rfl dX11_next_182 rfl rfl ?_
    refine ev_aload_n 184 rfl dX11_next_183 rfl rfl ?_
    refine ev_getI (ki := 26) 187 rfl dX11_next_184 lf_11_282 (Or.inl rfl) (s_78 hst) (by decide) rfl ?_
    refine ev_aload_n 188 rfl dX11_next_187 rfl rfl ?_
    refine ev_getI (ki := 25) 191 rfl dX11_next_188 lf_11_285 (Or.inl rfl) (s_78 hst) (by decide) rfl ?_
    obtain ⟨sd, H⟩ := H
    refine ev_isub 192 rfl dX11_next_191 sd ?_
    refine ev_putI (ki := 28) 195 rfl dX11_next_192 lf_11_302 (Or.inl rfl) (s_78 hst) (by decide) rfl ?_
    obtain ⟨h5, eh5⟩ : ∃ z : qM, z = qup h3 78 28 ((h3 78 26) - (h3 78 25)) := ⟨_, rfl⟩
    rw [← eh5]
    have H := H h5 eh5
    refine ev_goto (tgt := 352) dX11_next_195 (by decide) ?_
    exact ev_retV dX11_next_352 rfl H
  · have H := H.2 cd
    refine ev_aload_n 124 rfl dX11_next_123 rfl rfl ?_
    refine ev_aload_n 125 rfl dX11_next_124 rfl rfl ?_
    refine ev_getI (ki := 26) 128 rfl dX11_next_125 lf_11_282 (Or.inl rfl) (s_78 hst) (by decide) rfl ?_
    refine ev_aload_n 129 rfl dX11_next_128 rfl rfl ?_
    refine ev_getI (ki := 25) 132 rfl dX11_next_129 lf_11_285 (Or.inl rfl) (s_78 hst) (by decide) rfl ?_
    obtain ⟨sd, H⟩ := H
    refine ev_isub 133 rfl dX11_next_132 sd ?_
    refine ev_bipush 135 rfl dX11_next_133 (by decide) (by decide) ?_
    refine ev_icmp_ge (tgt := 163) 138 rfl dX11_next_135 (by decide) (fun cd => ?_) (fun cd => ?_)
    · have H := H.1 cd
      refine ev_ldc2 166 rfl dX11_next_163 kl_11_243 (by decide) ?_
      refine ev_putL (ki := 29) 169 rfl dX11_next_166 lf_11_297 (s_78 hst) (by decide) rfl ?_
      obtain ⟨h6, eh6⟩ : ∃ z : qM, z = qup h3 78 29 (-1) := ⟨_, rfl⟩
      rw [← eh6]
      have H := H h6 eh6
      refine ev_aload_n 170 rfl dX11_next_169 rfl rfl ?_
      refine ev_dup 171 rfl dX11_next_170 q21 ?_
      refine ev_getI (ki := 26) 174 rfl dX11_next_171 lf_11_282 (Or.inl rfl) (s_78 hst) (by decide) rfl ?_
      refine ev_iconst 175 rfl dX11_next_174 (by decide) ?_
      obtain ⟨sd, H⟩ := H
      refine ev_iadd 176 rfl dX11_next_175 sd ?_
      refine ev_putI (ki := 26) 179 rfl dX11_next_176 lf_11_282 (Or.inl rfl) (s_78 hst) (by decide) rfl ?_
      obtain ⟨h7, eh7⟩ : ∃ z : qM, z = qup h6 78 26 ((h6 78 26) + 1) := ⟨_, rfl⟩
      rw [← eh7]
      have H := H h7 eh7
      refine ev_goto (tgt := 109) dX11_next_179 (by decide) ?_
      exact H
    · have H := H.2 cd
      refine ev_aload_n 139 rfl dX11_next_138 rfl rfl ?_
      refine ev_getL (ki := 29) 142 rfl dX11_next_139 lf_11_297 (s_78 hst) (by decide) rfl ?_
      refine ev_ldc2 145 rfl dX11_next_142 kl_11_262 (by decide) ?_
      obtain ⟨sd, H⟩ := H
      refine ev_lmul 146 rfl dX11_next_145 sd ?_
      refine ev_aload_n 147 rfl dX11_next_146 rfl rfl ?_
      refine ev_aload_n 148 rfl dX11_next_147 rfl rfl ?_
      refine ev_getI (ki := 26) 151 rfl dX11_next_148 lf_11_282 (Or.inl rfl) (s_78 hst) (by decide) rfl ?_
      refine ev_cVI (As := [(0, (h3 78 26))]) (rest := [(1, ((h3 78 29) * 32)), (2, 78)]) 154 rfl dX11_next_151 lm_11_288 mm_X11_look (s_78 hst) rfl rfl (Nat.le_of_ble_eq_true rfl) (Nat.le_of_ble_eq_true rfl) (Nat.le_refl _) H ?_
      intro r9 h8 H
      refine ev_i2l 155 rfl dX11_next_154 ?_
      obtain ⟨sd, H⟩ := H
      refine ev_ladd 156 rfl dX11_next_155 sd ?_
      refine ev_ldc2 159 rfl dX11_next_156 kl_11_300 (by decide) ?_
      obtain ⟨sd, H⟩ := H
      refine ev_lsub 160 rfl dX11_next_159 sd ?_
      refine ev_goto (tgt := 166) dX11_next_160 (by decide) ?_
      refine ev_putL (ki := 29) 169 rfl dX11_next_166 lf_11_297 (s_78 hst) (by decide) rfl ?_
      obtain ⟨h10, eh10⟩ : ∃ z : qM, z = qup h8 78 29 ((((h3 78 29) * 32) + r9) - 96) := ⟨_, rfl⟩
      rw [← eh10]
      have H := H h10 eh10
      refine ev_aload_n 170 rfl dX11_next_169 rfl rfl ?_
      refine ev_dup 171 rfl dX11_next_170 q21 ?_
      refine ev_getI (ki := 26) 174 rfl dX11_next_171 lf_11_282 (Or.inl rfl) (s_78 hst) (by decide) rfl ?_
      refine ev_iconst 175 rfl dX11_next_174 (by decide) ?_
      obtain ⟨sd, H⟩ := H
      refine ev_iadd 176 rfl dX11_next_175 sd ?_
      refine ev_putI (ki := 26) 179 rfl dX11_next_176 lf_11_282 (Or.inl rfl) (s_78 hst) (by decide) rfl ?_
      obtain ⟨h11, eh11⟩ : ∃ z : qM, z = qup h10 78 26 ((h10 78 26) + 1) := ⟨_, rfl⟩
      rw [← eh11]
      have H := H h11 eh11
      refine ev_goto (tgt := 109) dX11_next_179 (by decide) ?_
      exact H

set_option maxRecDepth 20000 in
theorem b_X11_spelled {X : qX} {d : Nat} {sh : qS} {pt h : qM} {K : Int → qM → Prop} {v0 v1 v2 v3 v4 v5 : Int} (hst : St sh pt)
    (H : (qL (v0 - 96)) ∧ (qL ((v0 - 96) * 32)) ∧ (qL (((v0 - 96) * 32) + v1)) ∧ (qL ((((v0 - 96) * 32) + v1) - 96)) ∧ ∀ x1 : Int, x1 = ((((v0 - 96) * 32) + v1) - 96) → ((v2 ≤ 0 → EvL X d mX11_spelled 45 [(8, -1), (8, -1), (8, -1), (0, v3), (0, v4), (0, v5), (8, -1), (8, -1)] [(1, x1)] sh pt h K) ∧ (0 < v2 → (qL (x1 * 32)) ∧ (qL ((x1 * 32) + v2)) ∧ (qL (((x1 * 32) + v2) - 96)) ∧ EvL X d mX11_spelled 45 [(8, -1), (8, -1), (8, -1), (0, v3), (0, v4), (0, v5), (8, -1), (8, -1)] [(1, (((x1 * 32) + v2) - 96))] sh pt h K))) :
    RunL X d mX11_spelled [(0, v0), (0, v1), (0, v2), (0, v3), (0, v4), (0, v5)] sh pt h K := by
  show Ev X d 0 0 mX11_spelled 0 [(0, v0), (0, v1), (0, v2), (0, v3), (0, v4), (0, v5), (8, -1), (8, -1)] [] (sh, pt, h) (qRL sh pt K)
  refine ev_iload_n 1 rfl dX11_spelled_0 rfl rfl ?_
  refine ev_i2l 2 rfl dX11_spelled_1 ?_
  refine ev_ldc2 5 rfl dX11_spelled_2 kl_11_300 (by decide) ?_
  obtain ⟨sd, H⟩ := H
  refine ev_lsub 6 rfl dX11_spelled_5 sd ?_
  refine ev_lstore (L1 := [(0, v0), (0, v1), (0, v2), (0, v3), (0, v4), (0, v5), (1, (v0 - 96)), (8, -1)]) 8 rfl dX11_spelled_6 (Nat.le_of_ble_eq_true rfl) rfl ?_
  refine ev_lload 10 rfl dX11_spelled_8 rfl ?_
  refine ev_ldc2 13 rfl dX11_spelled_10 kl_11_262 (by decide) ?_
  obtain ⟨sd, H⟩ := H
  refine ev_lmul 14 rfl dX11_spelled_13 sd ?_
  refine ev_iload_n 15 rfl dX11_spelled_14 rfl rfl ?_
  refine ev_i2l 16 rfl dX11_spelled_15 ?_
  obtain ⟨sd, H⟩ := H
  refine ev_ladd 17 rfl dX11_spelled_16 sd ?_
  refine ev_ldc2 20 rfl dX11_spelled_17 kl_11_300 (by decide) ?_
  obtain ⟨sd, H⟩ := H
  refine ev_lsub 21 rfl dX11_spelled_20 sd ?_
  obtain ⟨x1, ex1⟩ : ∃ z : Int, z = ((((v0 - 96) * 32) + v1) - 96) := ⟨_, rfl⟩
  rw [← ex1]
  have H := H x1 ex1
  refine ev_lstore (L1 := [(0, v0), (0, v1), (0, v2), (0, v3), (0, v4), (0, v5), (1, x1), (8, -1)]) 23 rfl dX11_spelled_21 (Nat.le_of_ble_eq_true rfl) rfl ?_
  refine ev_iload_n 24 rfl dX11_spelled_23 rfl rfl ?_
  refine ev_if_le (tgt := 43) 27 rfl dX11_spelled_24 (by decide) (fun cd => ?_) (fun cd => ?_)
  · have H := H.1 cd
    refine ev_lload 45 rfl dX11_spelled_43 rfl ?_
    refine Ev.drop [0, 1, 2, 6] rfl ?_
    exact H
  · have H := H.2 cd
    refine ev_lload 29 rfl dX11_spelled_27 rfl ?_
    refine ev_ldc2 32 rfl dX11_spelled_29 kl_11_262 (by decide) ?_
    obtain ⟨sd, H⟩ := H
    refine ev_lmul 33 rfl dX11_spelled_32 sd ?_
    refine ev_iload_n 34 rfl dX11_spelled_33 rfl rfl ?_
    refine ev_i2l 35 rfl dX11_spelled_34 ?_
    obtain ⟨sd, H⟩ := H
    refine ev_ladd 36 rfl dX11_spelled_35 sd ?_
    refine ev_ldc2 39 rfl dX11_spelled_36 kl_11_300 (by decide) ?_
    obtain ⟨sd, H⟩ := H
    refine ev_lsub 40 rfl dX11_spelled_39 sd ?_
    refine ev_goto (tgt := 45) dX11_spelled_40 (by decide) ?_
    refine Ev.drop [0, 1, 2, 6] rfl ?_
    exact H

set_option maxRecDepth 20000 in
theorem b_X11_spelled_45 {X : qX} {d : Nat} {sh : qS} {pt h : qM} {K : Int → qM → Prop} {v3 v4 v5 u0 : Int} (hst : St sh pt)
    (H : ((v3 ≤ 0 → EvL X d mX11_spelled 69 [(8, -1), (8, -1), (8, -1), (8, -1), (0, v4), (0, v5), (8, -1), (8, -1)] [(1, u0)] sh pt h K) ∧ (0 < v3 → (qL (u0 * 32)) ∧ (qL ((u0 * 32) + v3)) ∧ (qL (((u0 * 32) + v3) - 96)) ∧ EvL X d mX11_spelled 69 [(8, -1), (8, -1), (8, -1), (8, -1), (0, v4), (0, v5), (8, -1), (8, -1)] [(1, (((u0 * 32) + v3) - 96))] sh pt h K))) :
    EvL X d mX11_spelled 45 [(8, -1), (8, -1), (8, -1), (0, v3), (0, v4), (0, v5), (8, -1), (8, -1)] [(1, u0)] sh pt h K := by
  show Ev X d 0 0 mX11_spelled 45 [(8, -1), (8, -1), (8, -1), (0, v3), (0, v4), (0, v5), (8, -1), (8, -1)] [(1, u0)] (sh, pt, h) (qRL sh pt K)
  refine ev_lstore (L1 := [(8, -1), (8, -1), (8, -1), (0, v3), (0, v4), (0, v5), (1, u0), (8, -1)]) 47 rfl dX11_spelled_45 (Nat.le_of_ble_eq_true rfl) rfl ?_
  refine ev_iload_n 48 rfl dX11_spelled_47 rfl rfl ?_
  refine ev_if_le (tgt := 67) 51 rfl dX11_spelled_48 (by decide) (fun cd => ?_) (fun cd => ?_)
  · have H := H.1 cd
    refine ev_lload 69 rfl dX11_spelled_67 rfl ?_
    refine Ev.drop [3, 6] rfl ?_
    exact H
  · have H := H.2 cd
    refine ev_lload 53 rfl dX11_spelled_51 rfl ?_
    refine ev_ldc2 56 rfl dX11_spelled_53 kl_11_262 (by decide) ?_
    obtain ⟨sd, H⟩ := H
    refine ev_lmul 57 rfl dX11_spelled_56 sd ?_
    refine ev_iload_n 58 rfl dX11_spelled_57 rfl rfl ?_
    refine ev_i2l 59 rfl dX11_spelled_58 ?_
    obtain ⟨sd, H⟩ := H
    refine ev_ladd 60 rfl dX11_spelled_59 sd ?_
    refine ev_ldc2 63 rfl dX11_spelled_60 kl_11_300 (by decide) ?_
    obtain ⟨sd, H⟩ := H
    refine ev_lsub 64 rfl dX11_spelled_63 sd ?_
    refine ev_goto (tgt := 69) dX11_spelled_64 (by decide) ?_
    refine Ev.drop [3, 6] rfl ?_
    exact H

set_option maxRecDepth 20000 in
theorem b_X11_spelled_69 {X : qX} {d : Nat} {sh : qS} {pt h : qM} {K : Int → qM → Prop} {v4 v5 u0 : Int} (hst : St sh pt)
    (H : ((v4 ≤ 0 → EvL X d mX11_spelled 95 [(8, -1), (8, -1), (8, -1), (8, -1), (8, -1), (0, v5), (8, -1), (8, -1)] [(1, u0)] sh pt h K) ∧ (0 < v4 → (qL (u0 * 32)) ∧ (qL ((u0 * 32) + v4)) ∧ (qL (((u0 * 32) + v4) - 96)) ∧ EvL X d mX11_spelled 95 [(8, -1), (8, -1), (8, -1), (8, -1), (8, -1), (0, v5), (8, -1), (8, -1)] [(1, (((u0 * 32) + v4) - 96))] sh pt h K))) :
    EvL X d mX11_spelled 69 [(8, -1), (8, -1), (8, -1), (8, -1), (0, v4), (0, v5), (8, -1), (8, -1)] [(1, u0)] sh pt h K := by
  show Ev X d 0 0 mX11_spelled 69 [(8, -1), (8, -1), (8, -1), (8, -1), (0, v4), (0, v5), (8, -1), (8, -1)] [(1, u0)] (sh, pt, h) (qRL sh pt K)
  refine ev_lstore (L1 := [(8, -1), (8, -1), (8, -1), (8, -1), (0, v4), (0, v5), (1, u0), (8, -1)]) 71 rfl dX11_spelled_69 (Nat.le_of_ble_eq_true rfl) rfl ?_
  refine ev_iload 73 rfl dX11_spelled_71 rfl ?_
  refine ev_if_le (tgt := 93) 76 rfl dX11_spelled_73 (by decide) (fun cd => ?_) (fun cd => ?_)
  · have H := H.1 cd
    refine ev_lload 95 rfl dX11_spelled_93 rfl ?_
    refine Ev.drop [4, 6] rfl ?_
    exact H
  · have H := H.2 cd
    refine ev_lload 78 rfl dX11_spelled_76 rfl ?_
    refine ev_ldc2 81 rfl dX11_spelled_78 kl_11_262 (by decide) ?_
    obtain ⟨sd, H⟩ := H
    refine ev_lmul 82 rfl dX11_spelled_81 sd ?_
    refine ev_iload 84 rfl dX11_spelled_82 rfl ?_
    refine ev_i2l 85 rfl dX11_spelled_84 ?_
    obtain ⟨sd, H⟩ := H
    refine ev_ladd 86 rfl dX11_spelled_85 sd ?_
    refine ev_ldc2 89 rfl dX11_spelled_86 kl_11_300 (by decide) ?_
    obtain ⟨sd, H⟩ := H
    refine ev_lsub 90 rfl dX11_spelled_89 sd ?_
    refine ev_goto (tgt := 95) dX11_spelled_90 (by decide) ?_
    refine Ev.drop [4, 6] rfl ?_
    exact H

set_option maxRecDepth 20000 in
theorem b_X11_spelled_95 {X : qX} {d : Nat} {sh : qS} {pt h : qM} {K : Int → qM → Prop} {v5 u0 : Int} (hst : St sh pt)
    (H : ((v5 ≤ 0 → K u0 h) ∧ (0 < v5 → (qL (u0 * 32)) ∧ (qL ((u0 * 32) + v5)) ∧ (qL (((u0 * 32) + v5) - 96)) ∧ K (((u0 * 32) + v5) - 96) h))) :
    EvL X d mX11_spelled 95 [(8, -1), (8, -1), (8, -1), (8, -1), (8, -1), (0, v5), (8, -1), (8, -1)] [(1, u0)] sh pt h K := by
  show Ev X d 0 0 mX11_spelled 95 [(8, -1), (8, -1), (8, -1), (8, -1), (8, -1), (0, v5), (8, -1), (8, -1)] [(1, u0)] (sh, pt, h) (qRL sh pt K)
  refine ev_lstore (L1 := [(8, -1), (8, -1), (8, -1), (8, -1), (8, -1), (0, v5), (1, u0), (8, -1)]) 97 rfl dX11_spelled_95 (Nat.le_of_ble_eq_true rfl) rfl ?_
  refine ev_iload 99 rfl dX11_spelled_97 rfl ?_
  refine ev_if_le (tgt := 119) 102 rfl dX11_spelled_99 (by decide) (fun cd => ?_) (fun cd => ?_)
  · have H := H.1 cd
    refine ev_lload 121 rfl dX11_spelled_119 rfl ?_
    exact ev_retL dX11_spelled_121 rfl H
  · have H := H.2 cd
    refine ev_lload 104 rfl dX11_spelled_102 rfl ?_
    refine ev_ldc2 107 rfl dX11_spelled_104 kl_11_262 (by decide) ?_
    obtain ⟨sd, H⟩ := H
    refine ev_lmul 108 rfl dX11_spelled_107 sd ?_
    refine ev_iload 110 rfl dX11_spelled_108 rfl ?_
    refine ev_i2l 111 rfl dX11_spelled_110 ?_
    obtain ⟨sd, H⟩ := H
    refine ev_ladd 112 rfl dX11_spelled_111 sd ?_
    refine ev_ldc2 115 rfl dX11_spelled_112 kl_11_300 (by decide) ?_
    obtain ⟨sd, H⟩ := H
    refine ev_lsub 116 rfl dX11_spelled_115 sd ?_
    refine ev_goto (tgt := 121) dX11_spelled_116 (by decide) ?_
    exact ev_retL dX11_spelled_121 rfl H

set_option maxRecDepth 20000 in
theorem b_X11_isWord {X : qX} {d : Nat} {sh : qS} {pt h : qM} {K : Int → qM → Prop} {v1 : Int} (hst : St sh pt)
    (H : ((¬ (h 78 24) = 1 → K 0 h) ∧ ((h 78 24) = 1 → ((¬ (h 78 29) = v1 → K 0 h) ∧ ((h 78 29) = v1 → K 1 h))))) :
    RunI X d mX11_isWord [(2, 78), (1, v1)] sh pt h K := by
  show Ev X d 0 0 mX11_isWord 0 [(2, 78), (1, v1), (8, -1)] [] (sh, pt, h) (qRI sh pt K)
  refine ev_aload_n 1 rfl dX11_isWord_0 rfl rfl ?_
  refine ev_getI (ki := 24) 4 rfl dX11_isWord_1 lf_11_291 (Or.inl rfl) (s_78 hst) (by decide) rfl ?_
  refine ev_iconst 5 rfl dX11_isWord_4 (by decide) ?_
  refine ev_icmp_ne (tgt := 21) 8 rfl dX11_isWord_5 (by decide) (fun cd => ?_) (fun cd => ?_)
  · have H := H.1 cd
    refine ev_iconst 22 rfl dX11_isWord_21 (by decide) ?_
    exact ev_retZ dX11_isWord_22 rfl (by decide) H
  · have H := H.2 cd
    refine ev_aload_n 9 rfl dX11_isWord_8 rfl rfl ?_
    refine ev_getL (ki := 29) 12 rfl dX11_isWord_9 lf_11_297 (s_78 hst) (by decide) rfl ?_
    refine ev_lload_n 13 rfl dX11_isWord_12 rfl rfl ?_
    refine ev_lc_ne (tgt := 21) 17 rfl dX11_isWord_13 dX11_isWord_14 (by decide) (fun cd => ?_) (fun cd => ?_)
    · have H := H.1 cd
      refine ev_iconst 22 rfl dX11_isWord_21 (by decide) ?_
      exact ev_retZ dX11_isWord_22 rfl (by decide) H
    · have H := H.2 cd
      refine ev_iconst 18 rfl dX11_isWord_17 (by decide) ?_
      refine ev_goto (tgt := 22) dX11_isWord_18 (by decide) ?_
      exact ev_retZ dX11_isWord_22 rfl (by decide) H

set_option maxRecDepth 20000 in
theorem b_X11_isSign {X : qX} {d : Nat} {sh : qS} {pt h : qM} {K : Int → qM → Prop} {v1 : Int} (hst : St sh pt)
    (H : ((¬ (h 78 24) = 3 → K 0 h) ∧ ((h 78 24) = 3 → ((¬ (h 78 27) = v1 → K 0 h) ∧ ((h 78 27) = v1 → K 1 h))))) :
    RunI X d mX11_isSign [(2, 78), (0, v1)] sh pt h K := by
  show Ev X d 0 0 mX11_isSign 0 [(2, 78), (0, v1)] [] (sh, pt, h) (qRI sh pt K)
  refine ev_aload_n 1 rfl dX11_isSign_0 rfl rfl ?_
  refine ev_getI (ki := 24) 4 rfl dX11_isSign_1 lf_11_291 (Or.inl rfl) (s_78 hst) (by decide) rfl ?_
  refine ev_iconst 5 rfl dX11_isSign_4 (by decide) ?_
  refine ev_icmp_ne (tgt := 20) 8 rfl dX11_isSign_5 (by decide) (fun cd => ?_) (fun cd => ?_)
  · have H := H.1 cd
    refine ev_iconst 21 rfl dX11_isSign_20 (by decide) ?_
    exact ev_retZ dX11_isSign_21 rfl (by decide) H
  · have H := H.2 cd
    refine ev_aload_n 9 rfl dX11_isSign_8 rfl rfl ?_
    refine ev_getI (ki := 27) 12 rfl dX11_isSign_9 lf_11_308 (Or.inl rfl) (s_78 hst) (by decide) rfl ?_
    refine ev_iload_n 13 rfl dX11_isSign_12 rfl rfl ?_
    refine ev_icmp_ne (tgt := 20) 16 rfl dX11_isSign_13 (by decide) (fun cd => ?_) (fun cd => ?_)
    · have H := H.1 cd
      refine ev_iconst 21 rfl dX11_isSign_20 (by decide) ?_
      exact ev_retZ dX11_isSign_21 rfl (by decide) H
    · have H := H.2 cd
      refine ev_iconst 17 rfl dX11_isSign_16 (by decide) ?_
      refine ev_goto (tgt := 21) dX11_isSign_17 (by decide) ?_
      exact ev_retZ dX11_isSign_21 rfl (by decide) H

set_option maxRecDepth 20000 in
theorem b_X11_fail {X : qX} {d : Nat} {sh : qS} {pt h : qM} {K : qM → Prop} {v1 v2 : Int} (hst : St sh pt)
    (H : (((h 78 22) ≤ 0 → ∀ h1 : qM, h1 = qup h 78 22 v1 → ∀ h2 : qM, h2 = qup h1 78 23 v2 → K h2) ∧ (0 < (h 78 22) → K h))) :
    RunV X d mX11_fail [(2, 78), (0, v1), (0, v2)] sh pt h K := by
  show Ev X d 0 0 mX11_fail 0 [(2, 78), (0, v1), (0, v2)] [] (sh, pt, h) (qRV sh pt K)
  refine ev_aload_n 1 rfl dX11_fail_0 rfl rfl ?_
  refine ev_getI (ki := 22) 4 rfl dX11_fail_1 lf_11_311 (Or.inl rfl) (s_78 hst) (by decide) rfl ?_
  refine ev_if_le (tgt := 8) 7 rfl dX11_fail_4 (by decide) (fun cd => ?_) (fun cd => ?_)
  · have H := H.1 cd
    refine ev_aload_n 9 rfl dX11_fail_8 rfl rfl ?_
    refine ev_iload_n 10 rfl dX11_fail_9 rfl rfl ?_
    refine ev_putI (ki := 22) 13 rfl dX11_fail_10 lf_11_311 (Or.inl rfl) (s_78 hst) (by decide) rfl ?_
    obtain ⟨h1, eh1⟩ : ∃ z : qM, z = qup h 78 22 v1 := ⟨_, rfl⟩
    rw [← eh1]
    have H := H h1 eh1
    refine ev_aload_n 14 rfl dX11_fail_13 rfl rfl ?_
    refine ev_iload_n 15 rfl dX11_fail_14 rfl rfl ?_
    refine ev_putI (ki := 23) 18 rfl dX11_fail_15 lf_11_314 (Or.inl rfl) (s_78 hst) (by decide) rfl ?_
    obtain ⟨h2, eh2⟩ : ∃ z : qM, z = qup h1 78 23 v2 := ⟨_, rfl⟩
    rw [← eh2]
    have H := H h2 eh2
    exact ev_retV dX11_fail_18 rfl H
  · have H := H.2 cd
    exact ev_retV dX11_fail_7 rfl H

set_option maxRecDepth 20000 in
theorem b_X11_wrong {X : qX} {d : Nat} {sh : qS} {pt h : qM} {K : qM → Prop} (hst : St sh pt)
    (H : ((¬ (h 78 24) = 4 → RunV X d mX11_fail [(2, 78), (0, 2), (0, (h 78 25))] sh pt h (fun h1 => K h1)) ∧ ((h 78 24) = 4 → RunV X d mX11_fail [(2, 78), (0, 1), (0, (h 78 25))] sh pt h (fun h2 => K h2)))) :
    RunV X (d + 1) mX11_wrong [(2, 78)] sh pt h K := by
  show Ev X (d + 1) 0 0 mX11_wrong 0 [(2, 78)] [] (sh, pt, h) (qRV sh pt K)
  refine ev_aload_n 1 rfl dX11_wrong_0 rfl rfl ?_
  refine ev_aload_n 2 rfl dX11_wrong_1 rfl rfl ?_
  refine ev_getI (ki := 24) 5 rfl dX11_wrong_2 lf_11_291 (Or.inl rfl) (s_78 hst) (by decide) rfl ?_
  refine ev_iconst 6 rfl dX11_wrong_5 (by decide) ?_
  refine ev_icmp_ne (tgt := 13) 9 rfl dX11_wrong_6 (by decide) (fun cd => ?_) (fun cd => ?_)
  · have H := H.1 cd
    refine ev_iconst 14 rfl dX11_wrong_13 (by decide) ?_
    refine ev_aload_n 15 rfl dX11_wrong_14 rfl rfl ?_
    refine ev_getI (ki := 25) 18 rfl dX11_wrong_15 lf_11_285 (Or.inl rfl) (s_78 hst) (by decide) rfl ?_
    refine ev_cVV (As := [(0, 2), (0, (h 78 25))]) (rest := []) 21 rfl dX11_wrong_18 lm_11_317 mm_X11_fail (s_78 hst) rfl rfl (Nat.le_of_ble_eq_true rfl) (Nat.le_of_ble_eq_true rfl) (Nat.le_refl _) H ?_
    intro h1 H
    exact ev_retV dX11_wrong_21 rfl H
  · have H := H.2 cd
    refine ev_iconst 10 rfl dX11_wrong_9 (by decide) ?_
    refine ev_goto (tgt := 14) dX11_wrong_10 (by decide) ?_
    refine ev_aload_n 15 rfl dX11_wrong_14 rfl rfl ?_
    refine ev_getI (ki := 25) 18 rfl dX11_wrong_15 lf_11_285 (Or.inl rfl) (s_78 hst) (by decide) rfl ?_
    refine ev_cVV (As := [(0, 1), (0, (h 78 25))]) (rest := []) 21 rfl dX11_wrong_18 lm_11_317 mm_X11_fail (s_78 hst) rfl rfl (Nat.le_of_ble_eq_true rfl) (Nat.le_of_ble_eq_true rfl) (Nat.le_refl _) H ?_
    intro h2 H
    exact ev_retV dX11_wrong_21 rfl H

set_option maxRecDepth 20000 in
theorem b_X11_sign {X : qX} {d : Nat} {sh : qS} {pt h : qM} {K : qM → Prop} {v1 : Int} (hst : St sh pt)
    (H : (((h 78 22) ≤ 0 → RunI X d mX11_isSign [(2, 78), (0, v1)] sh pt h (fun r2 h1 => ((r2 = 0 → RunV X d mX11_wrong [(2, 78)] sh pt h1 (fun h3 => K h3)) ∧ (¬ r2 = 0 → RunV X d mX11_next [(2, 78)] sh pt h1 (fun h4 => K h4))))) ∧ (0 < (h 78 22) → K h))) :
    RunV X (d + 1) mX11_sign [(2, 78), (0, v1)] sh pt h K := by
  show Ev X (d + 1) 0 0 mX11_sign 0 [(2, 78), (0, v1)] [] (sh, pt, h) (qRV sh pt K)
  refine ev_aload_n 1 rfl dX11_sign_0 rfl rfl ?_
  refine ev_getI (ki := 22) 4 rfl dX11_sign_1 lf_11_311 (Or.inl rfl) (s_78 hst) (by decide) rfl ?_
  refine ev_if_le (tgt := 8) 7 rfl dX11_sign_4 (by decide) (fun cd => ?_) (fun cd => ?_)
  · have H := H.1 cd
    refine ev_aload_n 9 rfl dX11_sign_8 rfl rfl ?_
    refine ev_iload_n 10 rfl dX11_sign_9 rfl rfl ?_
    refine ev_cVI (As := [(0, v1)]) (rest := []) 13 rfl dX11_sign_10 lm_11_321 mm_X11_isSign (s_78 hst) rfl rfl (Nat.le_of_ble_eq_true rfl) (Nat.le_of_ble_eq_true rfl) (Nat.le_refl _) H ?_
    intro r2 h1 H
    refine ev_if_eq (tgt := 23) 16 rfl dX11_sign_13 (by decide) (fun cd => ?_) (fun cd => ?_)
    · have H := H.1 cd
      refine ev_aload_n 24 rfl dX11_sign_23 rfl rfl ?_
      refine ev_cVV (As := []) (rest := []) 27 rfl dX11_sign_24 lm_11_327 mm_X11_wrong (s_78 hst) rfl rfl (Nat.le_of_ble_eq_true rfl) (Nat.le_of_ble_eq_true rfl) (Nat.le_refl _) H ?_
      intro h3 H
      exact ev_retV dX11_sign_27 rfl H
    · have H := H.2 cd
      refine ev_aload_n 17 rfl dX11_sign_16 rfl rfl ?_
      refine ev_cVV (As := []) (rest := []) 20 rfl dX11_sign_17 lm_11_324 mm_X11_next (s_78 hst) rfl rfl (Nat.le_of_ble_eq_true rfl) (Nat.le_of_ble_eq_true rfl) (Nat.le_refl _) H ?_
      intro h4 H
      refine ev_goto (tgt := 27) dX11_sign_20 (by decide) ?_
      exact ev_retV dX11_sign_27 rfl H
  · have H := H.2 cd
    exact ev_retV dX11_sign_7 rfl H

set_option maxRecDepth 20000 in
theorem b_X11_count {X : qX} {d : Nat} {sh : qS} {pt h : qM} {K : Int → qM → Prop} {v1 v2 : Int} (hst : St sh pt)
    (H : ((¬ (h 78 22) = 0 → EvI X (d + 1) mX11_count 19 [(2, 78), (0, v1), (0, v2), (8, -1)] [] sh pt h K) ∧ ((h 78 22) = 0 → (((h 78 24) = 2 → EvI X (d + 1) mX11_count 19 [(2, 78), (0, v1), (0, v2), (8, -1)] [] sh pt h K) ∧ (¬ (h 78 24) = 2 → RunV X d mX11_wrong [(2, 78)] sh pt h (fun h1 => EvI X (d + 1) mX11_count 19 [(2, 78), (0, v1), (0, v2), (8, -1)] [] sh pt h1 K)))))) :
    RunI X (d + 1) mX11_count [(2, 78), (0, v1), (0, v2)] sh pt h K := by
  show Ev X (d + 1) 0 0 mX11_count 0 [(2, 78), (0, v1), (0, v2), (8, -1)] [] (sh, pt, h) (qRI sh pt K)
  refine ev_aload_n 1 rfl dX11_count_0 rfl rfl ?_
  refine ev_getI (ki := 22) 4 rfl dX11_count_1 lf_11_311 (Or.inl rfl) (s_78 hst) (by decide) rfl ?_
  refine ev_if_ne (tgt := 19) 7 rfl dX11_count_4 (by decide) (fun cd => ?_) (fun cd => ?_)
  · have H := H.1 cd
    exact H
  · have H := H.2 cd
    refine ev_aload_n 8 rfl dX11_count_7 rfl rfl ?_
    refine ev_getI (ki := 24) 11 rfl dX11_count_8 lf_11_291 (Or.inl rfl) (s_78 hst) (by decide) rfl ?_
    refine ev_iconst 12 rfl dX11_count_11 (by decide) ?_
    refine ev_icmp_eq (tgt := 19) 15 rfl dX11_count_12 (by decide) (fun cd => ?_) (fun cd => ?_)
    · have H := H.1 cd
      exact H
    · have H := H.2 cd
      refine ev_aload_n 16 rfl dX11_count_15 rfl rfl ?_
      refine ev_cVV (As := []) (rest := []) 19 rfl dX11_count_16 lm_11_327 mm_X11_wrong (s_78 hst) rfl rfl (Nat.le_of_ble_eq_true rfl) (Nat.le_of_ble_eq_true rfl) (Nat.le_refl _) H ?_
      intro h1 H
      exact H

set_option maxRecDepth 20000 in
theorem b_X11_count_19 {X : qX} {d : Nat} {sh : qS} {pt h : qM} {K : Int → qM → Prop} {v1 v2 : Int} (hst : St sh pt)
    (H : ((¬ (h 78 22) = 0 → (((h 78 22) ≤ 0 → RunV X d mX11_next [(2, 78)] sh pt h (fun h1 => K (h 78 27) h1)) ∧ (0 < (h 78 22) → K 0 h))) ∧ ((h 78 22) = 0 → RunI X d mX11_isIn [(1, (h 78 27)), (1, v1), (1, v2)] sh pt h (fun r3 h2 => ((¬ r3 = 0 → (((h2 78 22) ≤ 0 → RunV X d mX11_next [(2, 78)] sh pt h2 (fun h4 => K (h2 78 27) h4)) ∧ (0 < (h2 78 22) → K 0 h2))) ∧ (r3 = 0 → RunV X d mX11_fail [(2, 78), (0, 4), (0, (h2 78 25))] sh pt h2 (fun h5 => (((h5 78 22) ≤ 0 → RunV X d mX11_next [(2, 78)] sh pt h5 (fun h6 => K (h5 78 27) h6)) ∧ (0 < (h5 78 22) → K 0 h5))))))))) :
    EvI X (d + 1) mX11_count 19 [(2, 78), (0, v1), (0, v2), (8, -1)] [] sh pt h K := by
  show Ev X (d + 1) 0 0 mX11_count 19 [(2, 78), (0, v1), (0, v2), (8, -1)] [] (sh, pt, h) (qRI sh pt K)
  refine ev_aload_n 20 rfl dX11_count_19 rfl rfl ?_
  refine ev_getI (ki := 22) 23 rfl dX11_count_20 lf_11_311 (Or.inl rfl) (s_78 hst) (by decide) rfl ?_
  refine ev_if_ne (tgt := 50) 26 rfl dX11_count_23 (by decide) (fun cd => ?_) (fun cd => ?_)
  · have H := H.1 cd
    refine ev_aload_n 51 rfl dX11_count_50 rfl rfl ?_
    refine ev_getI (ki := 22) 54 rfl dX11_count_51 lf_11_311 (Or.inl rfl) (s_78 hst) (by decide) rfl ?_
    refine ev_if_le (tgt := 59) 57 rfl dX11_count_54 (by decide) (fun cd => ?_) (fun cd => ?_)
    · have H := H.1 cd
      refine ev_aload_n 60 rfl dX11_count_59 rfl rfl ?_
      refine ev_getI (ki := 27) 63 rfl dX11_count_60 lf_11_308 (Or.inl rfl) (s_78 hst) (by decide) rfl ?_
      refine ev_istore_n (L1 := [(2, 78), (0, v1), (0, v2), (0, (h 78 27))]) 64 rfl dX11_count_63 rfl (Nat.le_of_ble_eq_true rfl) rfl ?_
      refine ev_aload_n 65 rfl dX11_count_64 rfl rfl ?_
      refine ev_cVV (As := []) (rest := []) 68 rfl dX11_count_65 lm_11_324 mm_X11_next (s_78 hst) rfl rfl (Nat.le_of_ble_eq_true rfl) (Nat.le_of_ble_eq_true rfl) (Nat.le_refl _) H ?_
      intro h1 H
      refine ev_iload_n 69 rfl dX11_count_68 rfl rfl ?_
      exact ev_retI dX11_count_69 rfl H
    · have H := H.2 cd
      refine ev_iconst 58 rfl dX11_count_57 (by decide) ?_
      exact ev_retI dX11_count_58 rfl H
  · have H := H.2 cd
    refine ev_aload_n 27 rfl dX11_count_26 rfl rfl ?_
    refine ev_getI (ki := 27) 30 rfl dX11_count_27 lf_11_308 (Or.inl rfl) (s_78 hst) (by decide) rfl ?_
    refine ev_i2l 31 rfl dX11_count_30 ?_
    refine ev_iload_n 32 rfl dX11_count_31 rfl rfl ?_
    refine ev_i2l 33 rfl dX11_count_32 ?_
    refine ev_iload_n 34 rfl dX11_count_33 rfl rfl ?_
    refine ev_i2l 35 rfl dX11_count_34 ?_
    refine ev_cSI (As := [(1, (h 78 27)), (1, v1), (1, v2)]) (rest := []) 38 rfl dX11_count_35 lm_11_221 mm_X11_isIn rfl rfl (Nat.le_of_ble_eq_true rfl) (Nat.le_of_ble_eq_true rfl) (Nat.le_refl _) H ?_
    intro r3 h2 H
    refine ev_if_ne (tgt := 50) 41 rfl dX11_count_38 (by decide) (fun cd => ?_) (fun cd => ?_)
    · have H := H.1 cd
      refine ev_aload_n 51 rfl dX11_count_50 rfl rfl ?_
      refine ev_getI (ki := 22) 54 rfl dX11_count_51 lf_11_311 (Or.inl rfl) (s_78 hst) (by decide) rfl ?_
      refine ev_if_le (tgt := 59) 57 rfl dX11_count_54 (by decide) (fun cd => ?_) (fun cd => ?_)
      · have H := H.1 cd
        refine ev_aload_n 60 rfl dX11_count_59 rfl rfl ?_
        refine ev_getI (ki := 27) 63 rfl dX11_count_60 lf_11_308 (Or.inl rfl) (s_78 hst) (by decide) rfl ?_
        refine ev_istore_n (L1 := [(2, 78), (0, v1), (0, v2), (0, (h2 78 27))]) 64 rfl dX11_count_63 rfl (Nat.le_of_ble_eq_true rfl) rfl ?_
        refine ev_aload_n 65 rfl dX11_count_64 rfl rfl ?_
        refine ev_cVV (As := []) (rest := []) 68 rfl dX11_count_65 lm_11_324 mm_X11_next (s_78 hst) rfl rfl (Nat.le_of_ble_eq_true rfl) (Nat.le_of_ble_eq_true rfl) (Nat.le_refl _) H ?_
        intro h4 H
        refine ev_iload_n 69 rfl dX11_count_68 rfl rfl ?_
        exact ev_retI dX11_count_69 rfl H
      · have H := H.2 cd
        refine ev_iconst 58 rfl dX11_count_57 (by decide) ?_
        exact ev_retI dX11_count_58 rfl H
    · have H := H.2 cd
      refine ev_aload_n 42 rfl dX11_count_41 rfl rfl ?_
      refine ev_iconst 43 rfl dX11_count_42 (by decide) ?_
      refine ev_aload_n 44 rfl dX11_count_43 rfl rfl ?_
      refine ev_getI (ki := 25) 47 rfl dX11_count_44 lf_11_285 (Or.inl rfl) (s_78 hst) (by decide) rfl ?_
      refine ev_cVV (As := [(0, 4), (0, (h2 78 25))]) (rest := []) 50 rfl dX11_count_47 lm_11_317 mm_X11_fail (s_78 hst) rfl rfl (Nat.le_of_ble_eq_true rfl) (Nat.le_of_ble_eq_true rfl) (Nat.le_refl _) H ?_
      intro h5 H
      refine ev_aload_n 51 rfl dX11_count_50 rfl rfl ?_
      refine ev_getI (ki := 22) 54 rfl dX11_count_51 lf_11_311 (Or.inl rfl) (s_78 hst) (by decide) rfl ?_
      refine ev_if_le (tgt := 59) 57 rfl dX11_count_54 (by decide) (fun cd => ?_) (fun cd => ?_)
      · have H := H.1 cd
        refine ev_aload_n 60 rfl dX11_count_59 rfl rfl ?_
        refine ev_getI (ki := 27) 63 rfl dX11_count_60 lf_11_308 (Or.inl rfl) (s_78 hst) (by decide) rfl ?_
        refine ev_istore_n (L1 := [(2, 78), (0, v1), (0, v2), (0, (h5 78 27))]) 64 rfl dX11_count_63 rfl (Nat.le_of_ble_eq_true rfl) rfl ?_
        refine ev_aload_n 65 rfl dX11_count_64 rfl rfl ?_
        refine ev_cVV (As := []) (rest := []) 68 rfl dX11_count_65 lm_11_324 mm_X11_next (s_78 hst) rfl rfl (Nat.le_of_ble_eq_true rfl) (Nat.le_of_ble_eq_true rfl) (Nat.le_refl _) H ?_
        intro h6 H
        refine ev_iload_n 69 rfl dX11_count_68 rfl rfl ?_
        exact ev_retI dX11_count_69 rfl H
      · have H := H.2 cd
        refine ev_iconst 58 rfl dX11_count_57 (by decide) ?_
        exact ev_retI dX11_count_58 rfl H
