set_option maxRecDepth 20000 in
theorem b_J9_floorDiv_7cf53 {X : qX} {d : Nat} {sh : qS} {pt h : qM} {K : Int → qM → Prop} {v0 v1 : Int} (hst : St sh pt)
    (H : (v1 ≠ 0 ∧ qI (v0.tdiv v1)) ∧ ((0 ≤ (qixor v0 v1) → K (v0.tdiv v1) h) ∧ ((qixor v0 v1) < 0 → (qI ((v0.tdiv v1) * v1)) ∧ ((((v0.tdiv v1) * v1) = v0 → K (v0.tdiv v1) h) ∧ (¬ ((v0.tdiv v1) * v1) = v0 → (qI ((v0.tdiv v1) - 1)) ∧ K ((v0.tdiv v1) - 1) h))))) :
    RunI X d mJ9_floorDiv_7cf53 [(0, v0), (0, v1)] sh pt h K := by
  show Ev X d 0 0 mJ9_floorDiv_7cf53 0 [(0, v0), (0, v1), (8, -1)] [] (sh, pt, h) (qRI sh pt K)
  refine ev_iload_n 1 rfl dJ9_floorDiv_7cf53_0 rfl rfl ?_
  refine ev_iload_n 2 rfl dJ9_floorDiv_7cf53_1 rfl rfl ?_
  obtain ⟨sd, H⟩ := H
  refine ev_idiv 3 rfl dJ9_floorDiv_7cf53_2 sd.1 sd.2 ?_
  refine ev_istore_n (L1 := [(0, v0), (0, v1), (0, (v0.tdiv v1))]) 4 rfl dJ9_floorDiv_7cf53_3 rfl (Nat.le_of_ble_eq_true rfl) rfl ?_
  refine ev_iload_n 5 rfl dJ9_floorDiv_7cf53_4 rfl rfl ?_
  refine ev_iload_n 6 rfl dJ9_floorDiv_7cf53_5 rfl rfl ?_
  refine ev_ixor 7 rfl dJ9_floorDiv_7cf53_6 ?_
  refine ev_if_ge (tgt := 21) 10 rfl dJ9_floorDiv_7cf53_7 (by decide) (fun cd => ?_) (fun cd => ?_)
  · have H := H.1 cd
    refine ev_iload_n 22 rfl dJ9_floorDiv_7cf53_21 rfl rfl ?_
    exact ev_retI dJ9_floorDiv_7cf53_22 rfl H
  · have H := H.2 cd
    refine ev_iload_n 11 rfl dJ9_floorDiv_7cf53_10 rfl rfl ?_
    refine ev_iload_n 12 rfl dJ9_floorDiv_7cf53_11 rfl rfl ?_
    obtain ⟨sd, H⟩ := H
    refine ev_imul 13 rfl dJ9_floorDiv_7cf53_12 sd ?_
    refine ev_iload_n 14 rfl dJ9_floorDiv_7cf53_13 rfl rfl ?_
    refine ev_icmp_eq (tgt := 21) 17 rfl dJ9_floorDiv_7cf53_14 (by decide) (fun cd => ?_) (fun cd => ?_)
    · have H := H.1 cd
      refine ev_iload_n 22 rfl dJ9_floorDiv_7cf53_21 rfl rfl ?_
      exact ev_retI dJ9_floorDiv_7cf53_22 rfl H
    · have H := H.2 cd
      refine ev_iload_n 18 rfl dJ9_floorDiv_7cf53_17 rfl rfl ?_
      refine ev_iconst 19 rfl dJ9_floorDiv_7cf53_18 (by decide) ?_
      obtain ⟨sd, H⟩ := H
      refine ev_isub 20 rfl dJ9_floorDiv_7cf53_19 sd ?_
      exact ev_retI dJ9_floorDiv_7cf53_20 rfl H

set_option maxRecDepth 20000 in
theorem b_J9_max_7cf53 {X : qX} {d : Nat} {sh : qS} {pt h : qM} {K : Int → qM → Prop} {v0 v1 : Int} (hst : St sh pt)
    (H : ((v0 < v1 → K v1 h) ∧ (v1 ≤ v0 → K v0 h))) :
    RunI X d mJ9_max_7cf53 [(0, v0), (0, v1)] sh pt h K := by
  show Ev X d 0 0 mJ9_max_7cf53 0 [(0, v0), (0, v1)] [] (sh, pt, h) (qRI sh pt K)
  refine ev_iload_n 1 rfl dJ9_max_7cf53_0 rfl rfl ?_
  refine ev_iload_n 2 rfl dJ9_max_7cf53_1 rfl rfl ?_
  refine ev_icmp_lt (tgt := 9) 5 rfl dJ9_max_7cf53_2 (by decide) (fun cd => ?_) (fun cd => ?_)
  · have H := H.1 cd
    refine ev_iload_n 10 rfl dJ9_max_7cf53_9 rfl rfl ?_
    exact ev_retI dJ9_max_7cf53_10 rfl H
  · have H := H.2 cd
    refine ev_iload_n 6 rfl dJ9_max_7cf53_5 rfl rfl ?_
    refine ev_goto (tgt := 10) dJ9_max_7cf53_6 (by decide) ?_
    exact ev_retI dJ9_max_7cf53_10 rfl H

set_option maxRecDepth 20000 in
theorem b_J9_min_7cf53 {X : qX} {d : Nat} {sh : qS} {pt h : qM} {K : Int → qM → Prop} {v0 v1 : Int} (hst : St sh pt)
    (H : ((v1 < v0 → K v1 h) ∧ (v0 ≤ v1 → K v0 h))) :
    RunI X d mJ9_min_7cf53 [(0, v0), (0, v1)] sh pt h K := by
  show Ev X d 0 0 mJ9_min_7cf53 0 [(0, v0), (0, v1)] [] (sh, pt, h) (qRI sh pt K)
  refine ev_iload_n 1 rfl dJ9_min_7cf53_0 rfl rfl ?_
  refine ev_iload_n 2 rfl dJ9_min_7cf53_1 rfl rfl ?_
  refine ev_icmp_gt (tgt := 9) 5 rfl dJ9_min_7cf53_2 (by decide) (fun cd => ?_) (fun cd => ?_)
  · have H := H.1 cd
    refine ev_iload_n 10 rfl dJ9_min_7cf53_9 rfl rfl ?_
    exact ev_retI dJ9_min_7cf53_10 rfl H
  · have H := H.2 cd
    refine ev_iload_n 6 rfl dJ9_min_7cf53_5 rfl rfl ?_
    refine ev_goto (tgt := 10) dJ9_min_7cf53_6 (by decide) ?_
    exact ev_retI dJ9_min_7cf53_10 rfl H

set_option maxRecDepth 20000 in
theorem b_J7_fill_d0a16 {X : qX} {d : Nat} {sh : qS} {pt h : qM} {K : qM → Prop} {v0 v1 n0 : Int} (hst : St sh pt) (ha0 : qsh sh v0 = some (1, n0))
    (H : EvV X d mJ7_fill_d0a16 6 [(2, v0), (1, v1), (8, -1), (0, 0), (0, n0)] [] sh pt h K) :
    RunV X d mJ7_fill_d0a16 [(2, v0), (1, v1)] sh pt h K := by
  show Ev X d 0 0 mJ7_fill_d0a16 0 [(2, v0), (1, v1), (8, -1), (8, -1), (8, -1)] [] (sh, pt, h) (qRV sh pt K)
  refine ev_iconst 1 rfl dJ7_fill_d0a16_0 (by decide) ?_
  refine ev_istore_n (L1 := [(2, v0), (1, v1), (8, -1), (0, 0), (8, -1)]) 2 rfl dJ7_fill_d0a16_1 rfl (Nat.le_of_ble_eq_true rfl) rfl ?_
  refine ev_aload_n 3 rfl dJ7_fill_d0a16_2 rfl rfl ?_
  refine ev_alen 4 rfl dJ7_fill_d0a16_3 ha0 (by decide) ?_
  refine ev_istore (L1 := [(2, v0), (1, v1), (8, -1), (0, 0), (0, n0)]) 6 rfl dJ7_fill_d0a16_4 (Nat.le_of_ble_eq_true rfl) rfl ?_
  exact H

set_option maxRecDepth 20000 in
theorem b_J7_fill_d0a16_6 {X : qX} {d : Nat} {sh : qS} {pt h : qM} {K : qM → Prop} {v0 v1 v3 v4 n0 : Int} (hst : St sh pt) (ha0 : qsh sh v0 = some (1, n0))
    (H : ((v4 ≤ v3 → K h) ∧ (v3 < v4 → (0 ≤ v3 ∧ v3 < n0) ∧ ∀ h2 : qM, h2 = qup h v0 v3 v1 → (qI (v3 + 1)) ∧ EvV X d mJ7_fill_d0a16 6 [(2, v0), (1, v1), (8, -1), (0, (v3 + 1)), (0, v4)] [] sh pt h2 K))) :
    EvV X d mJ7_fill_d0a16 6 [(2, v0), (1, v1), (8, -1), (0, v3), (0, v4)] [] sh pt h K := by
  show Ev X d 0 0 mJ7_fill_d0a16 6 [(2, v0), (1, v1), (8, -1), (0, v3), (0, v4)] [] (sh, pt, h) (qRV sh pt K)
  refine ev_iload_n 7 rfl dJ7_fill_d0a16_6 rfl rfl ?_
  refine ev_iload 9 rfl dJ7_fill_d0a16_7 rfl ?_
  refine ev_icmp_ge (tgt := 22) 12 rfl dJ7_fill_d0a16_9 (by decide) (fun cd => ?_) (fun cd => ?_)
  · have H := H.1 cd
    exact ev_retV dJ7_fill_d0a16_22 rfl H
  · have H := H.2 cd
    refine ev_aload_n 13 rfl dJ7_fill_d0a16_12 rfl rfl ?_
    refine ev_iload_n 14 rfl dJ7_fill_d0a16_13 rfl rfl ?_
    refine ev_lload_n 15 rfl dJ7_fill_d0a16_14 rfl rfl ?_
    obtain ⟨b1, H⟩ := H
    refine ev_lastore 16 rfl dJ7_fill_d0a16_15 ha0 b1.1 b1.2 ?_
    obtain ⟨h2, eh2⟩ : ∃ z : qM, z = qup h v0 v3 v1 := ⟨_, rfl⟩
    rw [← eh2]
    have H := H h2 eh2
    obtain ⟨sd, H⟩ := H
    refine ev_iinc (L1 := [(2, v0), (1, v1), (8, -1), (0, (v3 + 1)), (0, v4)]) 19 rfl dJ7_fill_d0a16_16 rfl sd (Nat.le_of_ble_eq_true rfl) rfl ?_
    refine ev_goto (tgt := 6) dJ7_fill_d0a16_19 (by decide) ?_
    exact H

set_option maxRecDepth 20000 in
theorem b_J7_fill_53178 {X : qX} {d : Nat} {sh : qS} {pt h : qM} {K : qM → Prop} {v0 v1 n0 : Int} (hst : St sh pt) (ha0 : qsh sh v0 = some (0, n0))
    (H : EvV X d mJ7_fill_53178 5 [(2, v0), (0, v1), (0, 0), (0, n0)] [] sh pt h K) :
    RunV X d mJ7_fill_53178 [(2, v0), (0, v1)] sh pt h K := by
  show Ev X d 0 0 mJ7_fill_53178 0 [(2, v0), (0, v1), (8, -1), (8, -1)] [] (sh, pt, h) (qRV sh pt K)
  refine ev_iconst 1 rfl dJ7_fill_53178_0 (by decide) ?_
  refine ev_istore_n (L1 := [(2, v0), (0, v1), (0, 0), (8, -1)]) 2 rfl dJ7_fill_53178_1 rfl (Nat.le_of_ble_eq_true rfl) rfl ?_
  refine ev_aload_n 3 rfl dJ7_fill_53178_2 rfl rfl ?_
  refine ev_alen 4 rfl dJ7_fill_53178_3 ha0 (by decide) ?_
  refine ev_istore_n (L1 := [(2, v0), (0, v1), (0, 0), (0, n0)]) 5 rfl dJ7_fill_53178_4 rfl (Nat.le_of_ble_eq_true rfl) rfl ?_
  exact H

set_option maxRecDepth 20000 in
theorem b_J7_fill_53178_5 {X : qX} {d : Nat} {sh : qS} {pt h : qM} {K : qM → Prop} {v0 v1 v2 v3 n0 : Int} (hst : St sh pt) (ha0 : qsh sh v0 = some (0, n0))
    (H : ((v3 ≤ v2 → K h) ∧ (v2 < v3 → (0 ≤ v2 ∧ v2 < n0) ∧ ∀ h2 : qM, h2 = qup h v0 v2 v1 → (qI (v2 + 1)) ∧ EvV X d mJ7_fill_53178 5 [(2, v0), (0, v1), (0, (v2 + 1)), (0, v3)] [] sh pt h2 K))) :
    EvV X d mJ7_fill_53178 5 [(2, v0), (0, v1), (0, v2), (0, v3)] [] sh pt h K := by
  show Ev X d 0 0 mJ7_fill_53178 5 [(2, v0), (0, v1), (0, v2), (0, v3)] [] (sh, pt, h) (qRV sh pt K)
  refine ev_iload_n 6 rfl dJ7_fill_53178_5 rfl rfl ?_
  refine ev_iload_n 7 rfl dJ7_fill_53178_6 rfl rfl ?_
  refine ev_icmp_ge (tgt := 20) 10 rfl dJ7_fill_53178_7 (by decide) (fun cd => ?_) (fun cd => ?_)
  · have H := H.1 cd
    exact ev_retV dJ7_fill_53178_20 rfl H
  · have H := H.2 cd
    refine ev_aload_n 11 rfl dJ7_fill_53178_10 rfl rfl ?_
    refine ev_iload_n 12 rfl dJ7_fill_53178_11 rfl rfl ?_
    refine ev_iload_n 13 rfl dJ7_fill_53178_12 rfl rfl ?_
    obtain ⟨b1, H⟩ := H
    refine ev_iastore 14 rfl dJ7_fill_53178_13 ha0 b1.1 b1.2 ?_
    obtain ⟨h2, eh2⟩ : ∃ z : qM, z = qup h v0 v2 v1 := ⟨_, rfl⟩
    rw [← eh2]
    have H := H h2 eh2
    obtain ⟨sd, H⟩ := H
    refine ev_iinc (L1 := [(2, v0), (0, v1), (0, (v2 + 1)), (0, v3)]) 17 rfl dJ7_fill_53178_14 rfl sd (Nat.le_of_ble_eq_true rfl) rfl ?_
    refine ev_goto (tgt := 5) dJ7_fill_53178_17 (by decide) ?_
    exact H

set_option maxRecDepth 20000 in
theorem b_J7_fill_031fb {X : qX} {d : Nat} {sh : qS} {pt h : qM} {K : qM → Prop} {v0 v1 n0 : Int} (hst : St sh pt) (ha0 : qsh sh v0 = some (2, n0))
    (H : EvV X d mJ7_fill_031fb 5 [(2, v0), (0, v1), (0, 0), (0, n0)] [] sh pt h K) :
    RunV X d mJ7_fill_031fb [(2, v0), (0, v1)] sh pt h K := by
  show Ev X d 0 0 mJ7_fill_031fb 0 [(2, v0), (0, v1), (8, -1), (8, -1)] [] (sh, pt, h) (qRV sh pt K)
  refine ev_iconst 1 rfl dJ7_fill_031fb_0 (by decide) ?_
  refine ev_istore_n (L1 := [(2, v0), (0, v1), (0, 0), (8, -1)]) 2 rfl dJ7_fill_031fb_1 rfl (Nat.le_of_ble_eq_true rfl) rfl ?_
  refine ev_aload_n 3 rfl dJ7_fill_031fb_2 rfl rfl ?_
  refine ev_alen 4 rfl dJ7_fill_031fb_3 ha0 (by decide) ?_
  refine ev_istore_n (L1 := [(2, v0), (0, v1), (0, 0), (0, n0)]) 5 rfl dJ7_fill_031fb_4 rfl (Nat.le_of_ble_eq_true rfl) rfl ?_
  exact H

set_option maxRecDepth 20000 in
theorem b_J7_fill_031fb_5 {X : qX} {d : Nat} {sh : qS} {pt h : qM} {K : qM → Prop} {v0 v1 v2 v3 n0 : Int} (hst : St sh pt) (ha0 : qsh sh v0 = some (2, n0))
    (H : ((v3 ≤ v2 → K h) ∧ (v2 < v3 → (0 ≤ v2 ∧ v2 < n0) ∧ (-128 ≤ v1 ∧ v1 ≤ 127) ∧ ∀ h3 : qM, h3 = qup h v0 v2 v1 → (qI (v2 + 1)) ∧ EvV X d mJ7_fill_031fb 5 [(2, v0), (0, v1), (0, (v2 + 1)), (0, v3)] [] sh pt h3 K))) :
    EvV X d mJ7_fill_031fb 5 [(2, v0), (0, v1), (0, v2), (0, v3)] [] sh pt h K := by
  show Ev X d 0 0 mJ7_fill_031fb 5 [(2, v0), (0, v1), (0, v2), (0, v3)] [] (sh, pt, h) (qRV sh pt K)
  refine ev_iload_n 6 rfl dJ7_fill_031fb_5 rfl rfl ?_
  refine ev_iload_n 7 rfl dJ7_fill_031fb_6 rfl rfl ?_
  refine ev_icmp_ge (tgt := 20) 10 rfl dJ7_fill_031fb_7 (by decide) (fun cd => ?_) (fun cd => ?_)
  · have H := H.1 cd
    exact ev_retV dJ7_fill_031fb_20 rfl H
  · have H := H.2 cd
    refine ev_aload_n 11 rfl dJ7_fill_031fb_10 rfl rfl ?_
    refine ev_iload_n 12 rfl dJ7_fill_031fb_11 rfl rfl ?_
    refine ev_iload_n 13 rfl dJ7_fill_031fb_12 rfl rfl ?_
    obtain ⟨b1, H⟩ := H
    obtain ⟨sv2, H⟩ := H
    refine ev_bastore 14 rfl dJ7_fill_031fb_13 ha0 b1.1 b1.2 sv2 ?_
    obtain ⟨h3, eh3⟩ : ∃ z : qM, z = qup h v0 v2 v1 := ⟨_, rfl⟩
    rw [← eh3]
    have H := H h3 eh3
    obtain ⟨sd, H⟩ := H
    refine ev_iinc (L1 := [(2, v0), (0, v1), (0, (v2 + 1)), (0, v3)]) 17 rfl dJ7_fill_031fb_14 rfl sd (Nat.le_of_ble_eq_true rfl) rfl ?_
    refine ev_goto (tgt := 5) dJ7_fill_031fb_17 (by decide) ?_
    exact H

set_option maxRecDepth 20000 in
theorem b_X8_lay {X : qX} {d : Nat} {sh : qS} {pt h : qM} {K : qM → Prop} {w v1 v2 : Int} (hst : St sh pt) (hw : isW w)
    (H : ∀ h1 : qM, h1 = qup h w 1 1 → ∀ h2 : qM, h2 = qup h1 w 2 v1 → ∀ h3 : qM, h3 = qup h2 w 3 v2 → RunV X d mJ7_fill_d0a16 [(2, (w + 1)), (1, 0)] sh pt h3 (fun h4 => K h4)) :
    RunV X (d + 1) mX8_lay [(2, w), (0, v1), (0, v2)] sh pt h K := by
  show Ev X (d + 1) 0 0 mX8_lay 0 [(2, w), (0, v1), (0, v2)] [] (sh, pt, h) (qRV sh pt K)
  refine ev_aload_n 1 rfl dX8_lay_0 rfl rfl ?_
  refine ev_iconst 2 rfl dX8_lay_1 (by decide) ?_
  refine ev_putI (ki := 1) 5 rfl dX8_lay_2 lf_8_13 (Or.inr ⟨rfl, by decide, by decide⟩) (sW hst hw) (by decide) rfl ?_
  obtain ⟨h1, eh1⟩ : ∃ z : qM, z = qup h w 1 1 := ⟨_, rfl⟩
  rw [← eh1]
  have H := H h1 eh1
  refine ev_aload_n 6 rfl dX8_lay_5 rfl rfl ?_
  refine ev_iload_n 7 rfl dX8_lay_6 rfl rfl ?_
  refine ev_putI (ki := 2) 10 rfl dX8_lay_7 lf_8_17 (Or.inl rfl) (sW hst hw) (by decide) rfl ?_
  obtain ⟨h2, eh2⟩ : ∃ z : qM, z = qup h1 w 2 v1 := ⟨_, rfl⟩
  rw [← eh2]
  have H := H h2 eh2
  refine ev_aload_n 11 rfl dX8_lay_10 rfl rfl ?_
  refine ev_iload_n 12 rfl dX8_lay_11 rfl rfl ?_
  refine ev_putI (ki := 3) 15 rfl dX8_lay_12 lf_8_21 (Or.inl rfl) (sW hst hw) (by decide) rfl ?_
  obtain ⟨h3, eh3⟩ : ∃ z : qM, z = qup h2 w 3 v2 := ⟨_, rfl⟩
  rw [← eh3]
  have H := H h3 eh3
  refine ev_aload_n 16 rfl dX8_lay_15 rfl rfl ?_
  refine ev_getR (ki := 0) (v := (w + 1)) 19 rfl dX8_lay_16 lf_8_9 (sW hst hw) (by decide) rfl (pW0 hst hw) ?_
  refine ev_lconst (v := 0) 20 rfl dX8_lay_19 (by decide) (by decide) ?_
  refine ev_cSV (As := [(2, (w + 1)), (1, 0)]) (rest := []) 23 rfl dX8_lay_20 lm_8_24 mm_J7_fill_d0a16 rfl rfl (Nat.le_of_ble_eq_true rfl) (Nat.le_of_ble_eq_true rfl) (Nat.le_refl _) H ?_
  intro h4 H
  exact ev_retV dX8_lay_23 rfl H

set_option maxRecDepth 20000 in
theorem b_X8_put {X : qX} {d : Nat} {sh : qS} {pt h : qM} {K : qM → Prop} {w v1 v2 : Int} (hst : St sh pt) (hw : isW w)
    (H : RunL X d mX8_cut [(2, w), (1, v2)] sh pt h (fun r2 h1 => (0 ≤ v1 ∧ v1 < 40) ∧ ∀ h4 : qM, h4 = qup h1 (w + 1) v1 r2 → K h4)) :
    RunV X (d + 1) mX8_put [(2, w), (0, v1), (1, v2)] sh pt h K := by
  show Ev X (d + 1) 0 0 mX8_put 0 [(2, w), (0, v1), (1, v2), (8, -1)] [] (sh, pt, h) (qRV sh pt K)
  refine ev_aload_n 1 rfl dX8_put_0 rfl rfl ?_
  refine ev_getR (ki := 0) (v := (w + 1)) 4 rfl dX8_put_1 lf_8_9 (sW hst hw) (by decide) rfl (pW0 hst hw) ?_
  refine ev_iload_n 5 rfl dX8_put_4 rfl rfl ?_
  refine ev_aload_n 6 rfl dX8_put_5 rfl rfl ?_
  refine ev_lload_n 7 rfl dX8_put_6 rfl rfl ?_
  refine ev_cVL (As := [(1, v2)]) (rest := [(0, v1), (2, (w + 1))]) 10 rfl dX8_put_7 lm_8_30 mm_X8_cut (sW hst hw) rfl rfl (Nat.le_of_ble_eq_true rfl) (Nat.le_of_ble_eq_true rfl) (Nat.le_refl _) H ?_
  intro r2 h1 H
  obtain ⟨b3, H⟩ := H
  refine ev_lastore 11 rfl dX8_put_10 (sW0 hst hw) b3.1 b3.2 ?_
  obtain ⟨h4, eh4⟩ : ∃ z : qM, z = qup h1 (w + 1) v1 r2 := ⟨_, rfl⟩
  rw [← eh4]
  have H := H h4 eh4
  exact ev_retV dX8_put_11 rfl H

set_option maxRecDepth 20000 in
theorem b_X8_hasRange {X : qX} {d : Nat} {sh : qS} {pt h : qM} {K : Int → qM → Prop} {w v1 v2 : Int} (hst : St sh pt) (hw : isW w)
    (H : ((v1 < 0 → K 0 h) ∧ (0 ≤ v1 → (qI ((h w 3) - v2)) ∧ ((((h w 3) - v2) < v1 → K 0 h) ∧ (v1 ≤ ((h w 3) - v2) → K 1 h))))) :
    RunI X d mX8_hasRange [(2, w), (0, v1), (0, v2)] sh pt h K := by
  show Ev X d 0 0 mX8_hasRange 0 [(2, w), (0, v1), (0, v2)] [] (sh, pt, h) (qRI sh pt K)
  refine ev_iload_n 1 rfl dX8_hasRange_0 rfl rfl ?_
  refine ev_if_lt (tgt := 18) 4 rfl dX8_hasRange_1 (by decide) (fun cd => ?_) (fun cd => ?_)
  · have H := H.1 cd
    refine ev_iconst 19 rfl dX8_hasRange_18 (by decide) ?_
    exact ev_retZ dX8_hasRange_19 rfl (by decide) H
  · have H := H.2 cd
    refine ev_iload_n 5 rfl dX8_hasRange_4 rfl rfl ?_
    refine ev_aload_n 6 rfl dX8_hasRange_5 rfl rfl ?_
    refine ev_getI (ki := 3) 9 rfl dX8_hasRange_6 lf_8_21 (Or.inl rfl) (sW hst hw) (by decide) rfl ?_
    refine ev_iload_n 10 rfl dX8_hasRange_9 rfl rfl ?_
    obtain ⟨sd, H⟩ := H
    refine ev_isub 11 rfl dX8_hasRange_10 sd ?_
    refine ev_icmp_gt (tgt := 18) 14 rfl dX8_hasRange_11 (by decide) (fun cd => ?_) (fun cd => ?_)
    · have H := H.1 cd
      refine ev_iconst 19 rfl dX8_hasRange_18 (by decide) ?_
      exact ev_retZ dX8_hasRange_19 rfl (by decide) H
    · have H := H.2 cd
      refine ev_iconst 15 rfl dX8_hasRange_14 (by decide) ?_
      refine ev_goto (tgt := 19) dX8_hasRange_15 (by decide) ?_
      exact ev_retZ dX8_hasRange_19 rfl (by decide) H

set_option maxRecDepth 20000 in
theorem b_X8_cut {X : qX} {d : Nat} {sh : qS} {pt h : qM} {K : Int → qM → Prop} {w v1 : Int} (hst : St sh pt) (hw : isW w)
    (H : (((h w 2) = 0 → K (qi2b (ql2i v1)) h) ∧ ((h w 2) = 1 → K (qi2s (ql2i v1)) h) ∧ ((h w 2) = 2 → K (ql2i v1) h) ∧ (((h w 2) < 0 ∨ 2 < (h w 2)) → K v1 h))) :
    RunL X d mX8_cut [(2, w), (1, v1)] sh pt h K := by
  show Ev X d 0 0 mX8_cut 0 [(2, w), (1, v1), (8, -1)] [] (sh, pt, h) (qRL sh pt K)
  refine ev_aload_n 1 rfl dX8_cut_0 rfl rfl ?_
  refine ev_getI (ki := 2) 4 rfl dX8_cut_1 lf_8_17 (Or.inl rfl) (sW hst hw) (by decide) rfl ?_
  have hsw : (h w 2) = 0 ∨ (h w 2) = 1 ∨ (h w 2) = 2 ∨ ((h w 2) < 0 ∨ 2 < (h w 2)) := by omega
  rcases hsw with cd | cd | cd | cd
  · have H := H.1 cd
    refine ev_tableIn (off := 28) (tgt := 32) dX8_cut_4 (by omega) (by omega) (by rw [cd]; rfl) (by decide) ?_
    refine ev_lload_n 33 rfl dX8_cut_32 rfl rfl ?_
    refine ev_l2i 34 rfl dX8_cut_33 ?_
    refine ev_i2b 35 rfl dX8_cut_34 ?_
    refine ev_i2l 36 rfl dX8_cut_35 ?_
    exact ev_retL dX8_cut_36 rfl H
  · have H := H.2.1 cd
    refine ev_tableIn (off := 33) (tgt := 37) dX8_cut_4 (by omega) (by omega) (by rw [cd]; rfl) (by decide) ?_
    refine ev_lload_n 38 rfl dX8_cut_37 rfl rfl ?_
    refine ev_l2i 39 rfl dX8_cut_38 ?_
    refine ev_i2s 40 rfl dX8_cut_39 ?_
    refine ev_i2l 41 rfl dX8_cut_40 ?_
    exact ev_retL dX8_cut_41 rfl H
  · have H := H.2.2.1 cd
    refine ev_tableIn (off := 38) (tgt := 42) dX8_cut_4 (by omega) (by omega) (by rw [cd]; rfl) (by decide) ?_
    refine ev_lload_n 43 rfl dX8_cut_42 rfl rfl ?_
    refine ev_l2i 44 rfl dX8_cut_43 ?_
    refine ev_i2l 45 rfl dX8_cut_44 ?_
    exact ev_retL dX8_cut_45 rfl H
  · have H := H.2.2.2 cd
    refine ev_tableOut (tgt := 46) dX8_cut_4 cd (by decide) ?_
    refine ev_lload_n 47 rfl dX8_cut_46 rfl rfl ?_
    exact ev_retL dX8_cut_47 rfl H

set_option maxRecDepth 20000 in
theorem b_X2_isSpot {X : qX} {d : Nat} {sh : qS} {pt h : qM} {K : Int → qM → Prop} {v0 v1 : Int} (hst : St sh pt)
    (H : ((v0 < 0 → K 0 h) ∧ (0 ≤ v0 → ((60 ≤ v0 → K 0 h) ∧ (v0 < 60 → ((v1 < 0 → K 0 h) ∧ (0 ≤ v1 → ((40 ≤ v1 → K 0 h) ∧ (v1 < 40 → K 1 h))))))))) :
    RunI X d mX2_isSpot [(0, v0), (0, v1)] sh pt h K := by
  show Ev X d 0 0 mX2_isSpot 0 [(0, v0), (0, v1)] [] (sh, pt, h) (qRI sh pt K)
  refine ev_iload_n 1 rfl dX2_isSpot_0 rfl rfl ?_
  refine ev_if_lt (tgt := 24) 4 rfl dX2_isSpot_1 (by decide) (fun cd => ?_) (fun cd => ?_)
  · have H := H.1 cd
    refine ev_iconst 25 rfl dX2_isSpot_24 (by decide) ?_
    exact ev_retZ dX2_isSpot_25 rfl (by decide) H
  · have H := H.2 cd
    refine ev_iload_n 5 rfl dX2_isSpot_4 rfl rfl ?_
    refine ev_bipush 7 rfl dX2_isSpot_5 (by decide) (by decide) ?_
    refine ev_icmp_ge (tgt := 24) 10 rfl dX2_isSpot_7 (by decide) (fun cd => ?_) (fun cd => ?_)
    · have H := H.1 cd
      refine ev_iconst 25 rfl dX2_isSpot_24 (by decide) ?_
      exact ev_retZ dX2_isSpot_25 rfl (by decide) H
    · have H := H.2 cd
      refine ev_iload_n 11 rfl dX2_isSpot_10 rfl rfl ?_
      refine ev_if_lt (tgt := 24) 14 rfl dX2_isSpot_11 (by decide) (fun cd => ?_) (fun cd => ?_)
      · have H := H.1 cd
        refine ev_iconst 25 rfl dX2_isSpot_24 (by decide) ?_
        exact ev_retZ dX2_isSpot_25 rfl (by decide) H
      · have H := H.2 cd
        refine ev_iload_n 15 rfl dX2_isSpot_14 rfl rfl ?_
        refine ev_bipush 17 rfl dX2_isSpot_15 (by decide) (by decide) ?_
        refine ev_icmp_ge (tgt := 24) 20 rfl dX2_isSpot_17 (by decide) (fun cd => ?_) (fun cd => ?_)
        · have H := H.1 cd
          refine ev_iconst 25 rfl dX2_isSpot_24 (by decide) ?_
          exact ev_retZ dX2_isSpot_25 rfl (by decide) H
        · have H := H.2 cd
          refine ev_iconst 21 rfl dX2_isSpot_20 (by decide) ?_
          refine ev_goto (tgt := 25) dX2_isSpot_21 (by decide) ?_
          exact ev_retZ dX2_isSpot_25 rfl (by decide) H

set_option maxRecDepth 20000 in
theorem b_X2_isFace {X : qX} {d : Nat} {sh : qS} {pt h : qM} {K : Int → qM → Prop} {v0 : Int} (hst : St sh pt)
    (H : ((v0 < 0 → K 0 h) ∧ (0 ≤ v0 → ((8 ≤ v0 → K 0 h) ∧ (v0 < 8 → K 1 h))))) :
    RunI X d mX2_isFace [(0, v0)] sh pt h K := by
  show Ev X d 0 0 mX2_isFace 0 [(0, v0)] [] (sh, pt, h) (qRI sh pt K)
  refine ev_iload_n 1 rfl dX2_isFace_0 rfl rfl ?_
  refine ev_if_lt (tgt := 14) 4 rfl dX2_isFace_1 (by decide) (fun cd => ?_) (fun cd => ?_)
  · have H := H.1 cd
    refine ev_iconst 15 rfl dX2_isFace_14 (by decide) ?_
    exact ev_retZ dX2_isFace_15 rfl (by decide) H
  · have H := H.2 cd
    refine ev_iload_n 5 rfl dX2_isFace_4 rfl rfl ?_
    refine ev_bipush 7 rfl dX2_isFace_5 (by decide) (by decide) ?_
    refine ev_icmp_ge (tgt := 14) 10 rfl dX2_isFace_7 (by decide) (fun cd => ?_) (fun cd => ?_)
    · have H := H.1 cd
      refine ev_iconst 15 rfl dX2_isFace_14 (by decide) ?_
      exact ev_retZ dX2_isFace_15 rfl (by decide) H
    · have H := H.2 cd
      refine ev_iconst 11 rfl dX2_isFace_10 (by decide) ?_
      refine ev_goto (tgt := 15) dX2_isFace_11 (by decide) ?_
      exact ev_retZ dX2_isFace_15 rfl (by decide) H

set_option maxRecDepth 20000 in
theorem b_X2_spot {X : qX} {d : Nat} {sh : qS} {pt h : qM} {K : Int → qM → Prop} {v0 v1 : Int} (hst : St sh pt)
    (H : (qI (v0 * 40)) ∧ (qI ((v0 * 40) + v1)) ∧ K ((v0 * 40) + v1) h) :
    RunI X d mX2_spot [(0, v0), (0, v1)] sh pt h K := by
  show Ev X d 0 0 mX2_spot 0 [(0, v0), (0, v1)] [] (sh, pt, h) (qRI sh pt K)
  refine ev_iload_n 1 rfl dX2_spot_0 rfl rfl ?_
  refine ev_bipush 3 rfl dX2_spot_1 (by decide) (by decide) ?_
  obtain ⟨sd, H⟩ := H
  refine ev_imul 4 rfl dX2_spot_3 sd ?_
  refine ev_iload_n 5 rfl dX2_spot_4 rfl rfl ?_
  obtain ⟨sd, H⟩ := H
  refine ev_iadd 6 rfl dX2_spot_5 sd ?_
  exact ev_retI dX2_spot_6 rfl H

set_option maxRecDepth 20000 in
theorem b_X2_eastStep {X : qX} {d : Nat} {sh : qS} {pt h : qM} {K : Int → qM → Prop} {v0 : Int} (hst : St sh pt)
    (H : (0 ≤ (qiand v0 7) ∧ (qiand v0 7) < 8) ∧ K (qstE (qiand v0 7)) h) :
    RunI X d mX2_eastStep [(0, v0)] sh pt h K := by
  show Ev X d 0 0 mX2_eastStep 0 [(0, v0)] [] (sh, pt, h) (qRI sh pt K)
  refine ev_getS 3 rfl dX2_eastStep_0 ls_2_44 (List.mem_of_getElem? (i := 0) rfl) (by decide) ?_
  refine ev_iload_n 4 rfl dX2_eastStep_3 rfl rfl ?_
  refine ev_bipush 6 rfl dX2_eastStep_4 (by decide) (by decide) ?_
  refine ev_iand 7 rfl dX2_eastStep_6 ?_
  obtain ⟨b1, H⟩ := H
  refine ev_iaload_ro (n := 8) (f := qstE) 8 rfl dX2_eastStep_7 rfl b1.1 b1.2 ?_
  exact ev_retI dX2_eastStep_8 rfl H

set_option maxRecDepth 20000 in
theorem b_X2_northStep {X : qX} {d : Nat} {sh : qS} {pt h : qM} {K : Int → qM → Prop} {v0 : Int} (hst : St sh pt)
    (H : (0 ≤ (qiand v0 7) ∧ (qiand v0 7) < 8) ∧ K (qstN (qiand v0 7)) h) :
    RunI X d mX2_northStep [(0, v0)] sh pt h K := by
  show Ev X d 0 0 mX2_northStep 0 [(0, v0)] [] (sh, pt, h) (qRI sh pt K)
  refine ev_getS 3 rfl dX2_northStep_0 ls_2_47 (List.mem_of_getElem? (i := 1) rfl) (by decide) ?_
  refine ev_iload_n 4 rfl dX2_northStep_3 rfl rfl ?_
  refine ev_bipush 6 rfl dX2_northStep_4 (by decide) (by decide) ?_
  refine ev_iand 7 rfl dX2_northStep_6 ?_
  obtain ⟨b1, H⟩ := H
  refine ev_iaload_ro (n := 8) (f := qstN) 8 rfl dX2_northStep_7 rfl b1.1 b1.2 ?_
  exact ev_retI dX2_northStep_8 rfl H

set_option maxRecDepth 20000 in
theorem b_X2_isName {X : qX} {d : Nat} {sh : qS} {pt h : qM} {K : Int → qM → Prop} {v0 : Int} (hst : St sh pt)
    (H : ((v0 ≤ 0 → K 0 h) ∧ (0 < v0 → ((v0 < 1099511627776 → EvI X d mX2_isName 21 [(8, -1), (8, -1), (1, v0), (8, -1), (0, 0), (8, -1), (8, -1)] [] sh pt h K) ∧ (1099511627776 ≤ v0 → K 0 h))))) :
    RunI X d mX2_isName [(1, v0)] sh pt h K := by
  show Ev X d 0 0 mX2_isName 0 [(1, v0), (8, -1), (8, -1), (8, -1), (8, -1), (8, -1), (8, -1)] [] (sh, pt, h) (qRI sh pt K)
  refine ev_lload_n 1 rfl dX2_isName_0 rfl rfl ?_
  refine ev_lconst (v := 0) 2 rfl dX2_isName_1 (by decide) (by decide) ?_
  refine ev_lc_le (tgt := 14) 6 rfl dX2_isName_2 dX2_isName_3 (by decide) (fun cd => ?_) (fun cd => ?_)
  · have H := H.1 cd
    refine ev_iconst 15 rfl dX2_isName_14 (by decide) ?_
    exact ev_retZ dX2_isName_15 rfl (by decide) H
  · have H := H.2 cd
    refine ev_lload_n 7 rfl dX2_isName_6 rfl rfl ?_
    refine ev_ldc2 10 rfl dX2_isName_7 kl_2_50 (by decide) ?_
    refine ev_lc_lt (tgt := 16) 14 rfl dX2_isName_10 dX2_isName_11 (by decide) (fun cd => ?_) (fun cd => ?_)
    · have H := H.1 cd
      refine ev_lload_n 17 rfl dX2_isName_16 rfl rfl ?_
      refine ev_lstore_n (L1 := [(1, v0), (8, -1), (1, v0), (8, -1), (8, -1), (8, -1), (8, -1)]) 18 rfl dX2_isName_17 rfl (Nat.le_of_ble_eq_true rfl) rfl ?_
      refine ev_iconst 19 rfl dX2_isName_18 (by decide) ?_
      refine ev_istore (L1 := [(1, v0), (8, -1), (1, v0), (8, -1), (0, 0), (8, -1), (8, -1)]) 21 rfl dX2_isName_19 (Nat.le_of_ble_eq_true rfl) rfl ?_
      refine Ev.drop [0] rfl ?_
      exact H
    · have H := H.2 cd
      refine ev_iconst 15 rfl dX2_isName_14 (by decide) ?_
      exact ev_retZ dX2_isName_15 rfl (by decide) H

set_option maxRecDepth 20000 in
theorem b_X2_isName_21 {X : qX} {d : Nat} {sh : qS} {pt h : qM} {K : Int → qM → Prop} {v2 v4 : Int} (hst : St sh pt)
    (H : ((8 ≤ v4 → K 1 h) ∧ (v4 < 8 → ((v2 = 0 → K 1 h) ∧ (¬ v2 = 0 → (((qland v2 31) < 1 → K 0 h) ∧ (1 ≤ (qland v2 31) → (((qland v2 31) ≤ 26 → (qI (v4 + 1)) ∧ EvI X d mX2_isName 21 [(8, -1), (8, -1), (1, (qlshr v2 5)), (8, -1), (0, (v4 + 1)), (8, -1), (8, -1)] [] sh pt h K) ∧ (26 < (qland v2 31) → K 0 h))))))))) :
    EvI X d mX2_isName 21 [(8, -1), (8, -1), (1, v2), (8, -1), (0, v4), (8, -1), (8, -1)] [] sh pt h K := by
  show Ev X d 0 0 mX2_isName 21 [(8, -1), (8, -1), (1, v2), (8, -1), (0, v4), (8, -1), (8, -1)] [] (sh, pt, h) (qRI sh pt K)
  refine ev_iload 23 rfl dX2_isName_21 rfl ?_
  refine ev_bipush 25 rfl dX2_isName_23 (by decide) (by decide) ?_
  refine ev_icmp_ge (tgt := 69) 28 rfl dX2_isName_25 (by decide) (fun cd => ?_) (fun cd => ?_)
  · have H := H.1 cd
    refine ev_iconst 70 rfl dX2_isName_69 (by decide) ?_
    exact ev_retZ dX2_isName_70 rfl (by decide) H
  · have H := H.2 cd
    refine ev_lload_n 29 rfl dX2_isName_28 rfl rfl ?_
    refine ev_lconst (v := 0) 30 rfl dX2_isName_29 (by decide) (by decide) ?_
    refine ev_lc_eq (tgt := 69) 34 rfl dX2_isName_30 dX2_isName_31 (by decide) (fun cd => ?_) (fun cd => ?_)
    · have H := H.1 cd
      refine ev_iconst 70 rfl dX2_isName_69 (by decide) ?_
      exact ev_retZ dX2_isName_70 rfl (by decide) H
    · have H := H.2 cd
      refine ev_lload_n 35 rfl dX2_isName_34 rfl rfl ?_
      refine ev_ldc2 38 rfl dX2_isName_35 kl_2_52 (by decide) ?_
      refine ev_land 39 rfl dX2_isName_38 ?_
      refine ev_lstore (L1 := [(8, -1), (8, -1), (1, v2), (8, -1), (0, v4), (1, (qland v2 31)), (8, -1)]) 41 rfl dX2_isName_39 (Nat.le_of_ble_eq_true rfl) rfl ?_
      refine ev_lload 43 rfl dX2_isName_41 rfl ?_
      refine ev_lconst (v := 1) 44 rfl dX2_isName_43 (by decide) (by decide) ?_
      refine ev_lc_lt (tgt := 57) 48 rfl dX2_isName_44 dX2_isName_45 (by decide) (fun cd => ?_) (fun cd => ?_)
      · have H := H.1 cd
        refine ev_iconst 58 rfl dX2_isName_57 (by decide) ?_
        exact ev_retZ dX2_isName_58 rfl (by decide) H
      · have H := H.2 cd
        refine ev_lload 50 rfl dX2_isName_48 rfl ?_
        refine ev_ldc2 53 rfl dX2_isName_50 kl_2_54 (by decide) ?_
        refine ev_lc_le (tgt := 59) 57 rfl dX2_isName_53 dX2_isName_54 (by decide) (fun cd => ?_) (fun cd => ?_)
        · have H := H.1 cd
          refine ev_lload_n 60 rfl dX2_isName_59 rfl rfl ?_
          refine ev_iconst 61 rfl dX2_isName_60 (by decide) ?_
          refine ev_lshr 62 rfl dX2_isName_61 ?_
          refine ev_lstore_n (L1 := [(8, -1), (8, -1), (1, (qlshr v2 5)), (8, -1), (0, v4), (1, (qland v2 31)), (8, -1)]) 63 rfl dX2_isName_62 rfl (Nat.le_of_ble_eq_true rfl) rfl ?_
          obtain ⟨sd, H⟩ := H
          refine ev_iinc (L1 := [(8, -1), (8, -1), (1, (qlshr v2 5)), (8, -1), (0, (v4 + 1)), (1, (qland v2 31)), (8, -1)]) 66 rfl dX2_isName_63 rfl sd (Nat.le_of_ble_eq_true rfl) rfl ?_
          refine ev_goto (tgt := 21) dX2_isName_66 (by decide) ?_
          refine Ev.drop [5] rfl ?_
          exact H
        · have H := H.2 cd
          refine ev_iconst 58 rfl dX2_isName_57 (by decide) ?_
          exact ev_retZ dX2_isName_58 rfl (by decide) H

set_option maxRecDepth 20000 in
theorem b_X2_isSet {X : qX} {d : Nat} {sh : qS} {pt h : qM} {K : Int → qM → Prop} {v1 : Int} (hst : St sh pt)
    (H : ((v1 < 0 → K 0 h) ∧ (0 ≤ v1 → ((¬ (qiushr v1 (h 2 3)) = 0 → K 0 h) ∧ ((qiushr v1 (h 2 3)) = 0 → K 1 h))))) :
    RunI X d mX2_isSet [(2, 2), (0, v1)] sh pt h K := by
  show Ev X d 0 0 mX2_isSet 0 [(2, 2), (0, v1)] [] (sh, pt, h) (qRI sh pt K)
  refine ev_iload_n 1 rfl dX2_isSet_0 rfl rfl ?_
  refine ev_if_lt (tgt := 17) 4 rfl dX2_isSet_1 (by decide) (fun cd => ?_) (fun cd => ?_)
  · have H := H.1 cd
    refine ev_iconst 18 rfl dX2_isSet_17 (by decide) ?_
    exact ev_retZ dX2_isSet_18 rfl (by decide) H
  · have H := H.2 cd
    refine ev_iload_n 5 rfl dX2_isSet_4 rfl rfl ?_
    refine ev_aload_n 6 rfl dX2_isSet_5 rfl rfl ?_
    refine ev_getI (ki := 3) 9 rfl dX2_isSet_6 lf_2_21 (Or.inl rfl) (s_2 hst) (by decide) rfl ?_
    refine ev_iushr 10 rfl dX2_isSet_9 ?_
    refine ev_if_ne (tgt := 17) 13 rfl dX2_isSet_10 (by decide) (fun cd => ?_) (fun cd => ?_)
    · have H := H.1 cd
      refine ev_iconst 18 rfl dX2_isSet_17 (by decide) ?_
      exact ev_retZ dX2_isSet_18 rfl (by decide) H
    · have H := H.2 cd
      refine ev_iconst 14 rfl dX2_isSet_13 (by decide) ?_
      refine ev_goto (tgt := 18) dX2_isSet_14 (by decide) ?_
      exact ev_retZ dX2_isSet_18 rfl (by decide) H

set_option maxRecDepth 20000 in
theorem b_X2_hasMarcher {X : qX} {d : Nat} {sh : qS} {pt h : qM} {K : Int → qM → Prop} {v1 : Int} (hst : St sh pt)
    (H : ((v1 < 0 → K 0 h) ∧ (0 ≤ v1 → (((h 2 3) ≤ v1 → K 0 h) ∧ (v1 < (h 2 3) → K 1 h))))) :
    RunI X d mX2_hasMarcher [(2, 2), (0, v1)] sh pt h K := by
  show Ev X d 0 0 mX2_hasMarcher 0 [(2, 2), (0, v1)] [] (sh, pt, h) (qRI sh pt K)
  refine ev_iload_n 1 rfl dX2_hasMarcher_0 rfl rfl ?_
  refine ev_if_lt (tgt := 16) 4 rfl dX2_hasMarcher_1 (by decide) (fun cd => ?_) (fun cd => ?_)
  · have H := H.1 cd
    refine ev_iconst 17 rfl dX2_hasMarcher_16 (by decide) ?_
    exact ev_retZ dX2_hasMarcher_17 rfl (by decide) H
  · have H := H.2 cd
    refine ev_iload_n 5 rfl dX2_hasMarcher_4 rfl rfl ?_
    refine ev_aload_n 6 rfl dX2_hasMarcher_5 rfl rfl ?_
    refine ev_getI (ki := 3) 9 rfl dX2_hasMarcher_6 lf_2_21 (Or.inl rfl) (s_2 hst) (by decide) rfl ?_
    refine ev_icmp_ge (tgt := 16) 12 rfl dX2_hasMarcher_9 (by decide) (fun cd => ?_) (fun cd => ?_)
    · have H := H.1 cd
      refine ev_iconst 17 rfl dX2_hasMarcher_16 (by decide) ?_
      exact ev_retZ dX2_hasMarcher_17 rfl (by decide) H
    · have H := H.2 cd
      refine ev_iconst 13 rfl dX2_hasMarcher_12 (by decide) ?_
      refine ev_goto (tgt := 17) dX2_hasMarcher_13 (by decide) ?_
      exact ev_retZ dX2_hasMarcher_17 rfl (by decide) H

set_option maxRecDepth 20000 in
theorem b_X2_addMarcher {X : qX} {d : Nat} {sh : qS} {pt h : qM} {K : Int → qM → Prop} {v1 v2 v3 : Int} (hst : St sh pt)
    (H : (0 ≤ (h 2 3) ∧ (h 2 3) < 20) ∧ ∀ h2 : qM, h2 = qup h 3 (h 2 3) v1 → (0 ≤ (h2 2 3) ∧ (h2 2 3) < 20) ∧ ∀ h4 : qM, h4 = qup h2 4 (h2 2 3) v2 → (0 ≤ (h4 2 3) ∧ (h4 2 3) < 20) ∧ ∀ h6 : qM, h6 = qup h4 5 (h4 2 3) v3 → (qI ((h6 2 3) + 1)) ∧ ∀ h7 : qM, h7 = qup h6 2 3 ((h6 2 3) + 1) → (qI ((h7 2 3) - 1)) ∧ K ((h7 2 3) - 1) h7) :
    RunI X d mX2_addMarcher [(2, 2), (0, v1), (0, v2), (0, v3)] sh pt h K := by
  show Ev X d 0 0 mX2_addMarcher 0 [(2, 2), (0, v1), (0, v2), (0, v3)] [] (sh, pt, h) (qRI sh pt K)
  refine ev_aload_n 1 rfl dX2_addMarcher_0 rfl rfl ?_
  refine ev_getR (ki := 0) (v := 3) 4 rfl dX2_addMarcher_1 lf_2_11 (s_2 hst) (by decide) rfl (p_2_0 hst) ?_
  refine ev_aload_n 5 rfl dX2_addMarcher_4 rfl rfl ?_
  refine ev_getI (ki := 3) 8 rfl dX2_addMarcher_5 lf_2_21 (Or.inl rfl) (s_2 hst) (by decide) rfl ?_
  refine ev_iload_n 9 rfl dX2_addMarcher_8 rfl rfl ?_
  obtain ⟨b1, H⟩ := H
  refine ev_iastore 10 rfl dX2_addMarcher_9 (s_3 hst) b1.1 b1.2 ?_
  obtain ⟨h2, eh2⟩ : ∃ z : qM, z = qup h 3 (h 2 3) v1 := ⟨_, rfl⟩
  rw [← eh2]
  have H := H h2 eh2
  refine ev_aload_n 11 rfl dX2_addMarcher_10 rfl rfl ?_
  refine ev_getR (ki := 1) (v := 4) 14 rfl dX2_addMarcher_11 lf_2_15 (s_2 hst) (by decide) rfl (p_2_1 hst) ?_
  refine ev_aload_n 15 rfl dX2_addMarcher_14 rfl rfl ?_
  refine ev_getI (ki := 3) 18 rfl dX2_addMarcher_15 lf_2_21 (Or.inl rfl) (s_2 hst) (by decide) rfl ?_
  refine ev_iload_n 19 rfl dX2_addMarcher_18 rfl rfl ?_
  obtain ⟨b3, H⟩ := H
  refine ev_iastore 20 rfl dX2_addMarcher_19 (s_4 hst) b3.1 b3.2 ?_
  obtain ⟨h4, eh4⟩ : ∃ z : qM, z = qup h2 4 (h2 2 3) v2 := ⟨_, rfl⟩
  rw [← eh4]
  have H := H h4 eh4
  refine ev_aload_n 21 rfl dX2_addMarcher_20 rfl rfl ?_
  refine ev_getR (ki := 2) (v := 5) 24 rfl dX2_addMarcher_21 lf_2_18 (s_2 hst) (by decide) rfl (p_2_2 hst) ?_
  refine ev_aload_n 25 rfl dX2_addMarcher_24 rfl rfl ?_
  refine ev_getI (ki := 3) 28 rfl dX2_addMarcher_25 lf_2_21 (Or.inl rfl) (s_2 hst) (by decide) rfl ?_
  refine ev_iload_n 29 rfl dX2_addMarcher_28 rfl rfl ?_
  obtain ⟨b5, H⟩ := H
  refine ev_iastore 30 rfl dX2_addMarcher_29 (s_5 hst) b5.1 b5.2 ?_
  obtain ⟨h6, eh6⟩ : ∃ z : qM, z = qup h4 5 (h4 2 3) v3 := ⟨_, rfl⟩
  rw [← eh6]
  have H := H h6 eh6
  refine ev_aload_n 31 rfl dX2_addMarcher_30 rfl rfl ?_
  refine ev_dup 32 rfl dX2_addMarcher_31 q21 ?_
  refine ev_getI (ki := 3) 35 rfl dX2_addMarcher_32 lf_2_21 (Or.inl rfl) (s_2 hst) (by decide) rfl ?_
  refine ev_iconst 36 rfl dX2_addMarcher_35 (by decide) ?_
  obtain ⟨sd, H⟩ := H
  refine ev_iadd 37 rfl dX2_addMarcher_36 sd ?_
  refine ev_putI (ki := 3) 40 rfl dX2_addMarcher_37 lf_2_21 (Or.inl rfl) (s_2 hst) (by decide) rfl ?_
  obtain ⟨h7, eh7⟩ : ∃ z : qM, z = qup h6 2 3 ((h6 2 3) + 1) := ⟨_, rfl⟩
  rw [← eh7]
  have H := H h7 eh7
  refine ev_aload_n 41 rfl dX2_addMarcher_40 rfl rfl ?_
  refine ev_getI (ki := 3) 44 rfl dX2_addMarcher_41 lf_2_21 (Or.inl rfl) (s_2 hst) (by decide) rfl ?_
  refine ev_iconst 45 rfl dX2_addMarcher_44 (by decide) ?_
  obtain ⟨sd, H⟩ := H
  refine ev_isub 46 rfl dX2_addMarcher_45 sd ?_
  exact ev_retI dX2_addMarcher_46 rfl H

set_option maxRecDepth 20000 in
theorem b_X2_hasProp {X : qX} {d : Nat} {sh : qS} {pt h : qM} {K : Int → qM → Prop} {v1 v2 : Int} (hst : St sh pt)
    (H : (0 ≤ v2 ∧ v2 < 40) ∧ (((qland (qlushr (h 6 v2) v1) 1) = 0 → K 0 h) ∧ (¬ (qland (qlushr (h 6 v2) v1) 1) = 0 → K 1 h))) :
    RunI X d mX2_hasProp [(2, 2), (0, v1), (0, v2)] sh pt h K := by
  show Ev X d 0 0 mX2_hasProp 0 [(2, 2), (0, v1), (0, v2)] [] (sh, pt, h) (qRI sh pt K)
  refine ev_aload_n 1 rfl dX2_hasProp_0 rfl rfl ?_
  refine ev_getR (ki := 4) (v := 6) 4 rfl dX2_hasProp_1 lf_2_25 (s_2 hst) (by decide) rfl (p_2_4 hst) ?_
  refine ev_iload_n 5 rfl dX2_hasProp_4 rfl rfl ?_
  obtain ⟨b1, H⟩ := H
  refine ev_laload 6 rfl dX2_hasProp_5 (s_6 hst) b1.1 b1.2 ?_
  refine ev_iload_n 7 rfl dX2_hasProp_6 rfl rfl ?_
  refine ev_lushr 8 rfl dX2_hasProp_7 ?_
  refine ev_lconst (v := 1) 9 rfl dX2_hasProp_8 (by decide) (by decide) ?_
  refine ev_land 10 rfl dX2_hasProp_9 ?_
  refine ev_lconst (v := 0) 11 rfl dX2_hasProp_10 (by decide) (by decide) ?_
  refine ev_lc_eq (tgt := 19) 15 rfl dX2_hasProp_11 dX2_hasProp_12 (by decide) (fun cd => ?_) (fun cd => ?_)
  · have H := H.1 cd
    refine ev_iconst 20 rfl dX2_hasProp_19 (by decide) ?_
    exact ev_retZ dX2_hasProp_20 rfl (by decide) H
  · have H := H.2 cd
    refine ev_iconst 16 rfl dX2_hasProp_15 (by decide) ?_
    refine ev_goto (tgt := 20) dX2_hasProp_16 (by decide) ?_
    exact ev_retZ dX2_hasProp_20 rfl (by decide) H

set_option maxRecDepth 20000 in
theorem b_X2_addProp {X : qX} {d : Nat} {sh : qS} {pt h : qM} {K : qM → Prop} {v1 v2 : Int} (hst : St sh pt)
    (H : (0 ≤ v2 ∧ v2 < 40) ∧ (0 ≤ v2 ∧ v2 < 40) ∧ ∀ h3 : qM, h3 = qup h 6 v2 (qlor (h 6 v2) (qlshl 1 v1)) → (qI ((h3 2 5) + 1)) ∧ ∀ h4 : qM, h4 = qup h3 2 5 ((h3 2 5) + 1) → K h4) :
    RunV X d mX2_addProp [(2, 2), (0, v1), (0, v2)] sh pt h K := by
  show Ev X d 0 0 mX2_addProp 0 [(2, 2), (0, v1), (0, v2)] [] (sh, pt, h) (qRV sh pt K)
  refine ev_aload_n 1 rfl dX2_addProp_0 rfl rfl ?_
  refine ev_getR (ki := 4) (v := 6) 4 rfl dX2_addProp_1 lf_2_25 (s_2 hst) (by decide) rfl (p_2_4 hst) ?_
  refine ev_iload_n 5 rfl dX2_addProp_4 rfl rfl ?_
  refine ev_dup2 6 rfl dX2_addProp_5 q01 q21 ?_
  obtain ⟨b1, H⟩ := H
  refine ev_laload 7 rfl dX2_addProp_6 (s_6 hst) b1.1 b1.2 ?_
  refine ev_lconst (v := 1) 8 rfl dX2_addProp_7 (by decide) (by decide) ?_
  refine ev_iload_n 9 rfl dX2_addProp_8 rfl rfl ?_
  refine ev_lshl 10 rfl dX2_addProp_9 ?_
  refine ev_lor 11 rfl dX2_addProp_10 ?_
  obtain ⟨b2, H⟩ := H
  refine ev_lastore 12 rfl dX2_addProp_11 (s_6 hst) b2.1 b2.2 ?_
  obtain ⟨h3, eh3⟩ : ∃ z : qM, z = qup h 6 v2 (qlor (h 6 v2) (qlshl 1 v1)) := ⟨_, rfl⟩
  rw [← eh3]
  have H := H h3 eh3
  refine ev_aload_n 13 rfl dX2_addProp_12 rfl rfl ?_
  refine ev_dup 14 rfl dX2_addProp_13 q21 ?_
  refine ev_getI (ki := 5) 17 rfl dX2_addProp_14 lf_2_29 (Or.inl rfl) (s_2 hst) (by decide) rfl ?_
  refine ev_iconst 18 rfl dX2_addProp_17 (by decide) ?_
  obtain ⟨sd, H⟩ := H
  refine ev_iadd 19 rfl dX2_addProp_18 sd ?_
  refine ev_putI (ki := 5) 22 rfl dX2_addProp_19 lf_2_29 (Or.inl rfl) (s_2 hst) (by decide) rfl ?_
  obtain ⟨h4, eh4⟩ : ∃ z : qM, z = qup h3 2 5 ((h3 2 5) + 1) := ⟨_, rfl⟩
  rw [← eh4]
  have H := H h4 eh4
  exact ev_retV dX2_addProp_22 rfl H

set_option maxRecDepth 20000 in
theorem b_X2_groupNamed {X : qX} {d : Nat} {sh : qS} {pt h : qM} {K : Int → qM → Prop} {v1 : Int} (hst : St sh pt)
    (H : EvI X d mX2_groupNamed 2 [(2, 2), (1, v1), (8, -1), (0, 0)] [] sh pt h K) :
    RunI X d mX2_groupNamed [(2, 2), (1, v1)] sh pt h K := by
  show Ev X d 0 0 mX2_groupNamed 0 [(2, 2), (1, v1), (8, -1), (8, -1)] [] (sh, pt, h) (qRI sh pt K)
  refine ev_iconst 1 rfl dX2_groupNamed_0 (by decide) ?_
  refine ev_istore_n (L1 := [(2, 2), (1, v1), (8, -1), (0, 0)]) 2 rfl dX2_groupNamed_1 rfl (Nat.le_of_ble_eq_true rfl) rfl ?_
  exact H

set_option maxRecDepth 20000 in
theorem b_X2_groupNamed_2 {X : qX} {d : Nat} {sh : qS} {pt h : qM} {K : Int → qM → Prop} {v1 v3 : Int} (hst : St sh pt)
    (H : (((h 2 8) ≤ v3 → K (-1) h) ∧ (v3 < (h 2 8) → (0 ≤ v3 ∧ v3 < 8) ∧ ((¬ (h 7 v3) = v1 → (qI (v3 + 1)) ∧ EvI X d mX2_groupNamed 2 [(2, 2), (1, v1), (8, -1), (0, (v3 + 1))] [] sh pt h K) ∧ ((h 7 v3) = v1 → K v3 h))))) :
    EvI X d mX2_groupNamed 2 [(2, 2), (1, v1), (8, -1), (0, v3)] [] sh pt h K := by
  show Ev X d 0 0 mX2_groupNamed 2 [(2, 2), (1, v1), (8, -1), (0, v3)] [] (sh, pt, h) (qRI sh pt K)
  refine ev_iload_n 3 rfl dX2_groupNamed_2 rfl rfl ?_
  refine ev_aload_n 4 rfl dX2_groupNamed_3 rfl rfl ?_
  refine ev_getI (ki := 8) 7 rfl dX2_groupNamed_4 lf_2_38 (Or.inl rfl) (s_2 hst) (by decide) rfl ?_
  refine ev_icmp_ge (tgt := 29) 10 rfl dX2_groupNamed_7 (by decide) (fun cd => ?_) (fun cd => ?_)
  · have H := H.1 cd
    refine ev_iconst 30 rfl dX2_groupNamed_29 (by decide) ?_
    exact ev_retI dX2_groupNamed_30 rfl H
  · have H := H.2 cd
    refine ev_aload_n 11 rfl dX2_groupNamed_10 rfl rfl ?_
    refine ev_getR (ki := 6) (v := 7) 14 rfl dX2_groupNamed_11 lf_2_32 (s_2 hst) (by decide) rfl (p_2_6 hst) ?_
    refine ev_iload_n 15 rfl dX2_groupNamed_14 rfl rfl ?_
    obtain ⟨b1, H⟩ := H
    refine ev_laload 16 rfl dX2_groupNamed_15 (s_7 hst) b1.1 b1.2 ?_
    refine ev_lload_n 17 rfl dX2_groupNamed_16 rfl rfl ?_
    refine ev_lc_ne (tgt := 23) 21 rfl dX2_groupNamed_17 dX2_groupNamed_18 (by decide) (fun cd => ?_) (fun cd => ?_)
    · have H := H.1 cd
      obtain ⟨sd, H⟩ := H
      refine ev_iinc (L1 := [(2, 2), (1, v1), (8, -1), (0, (v3 + 1))]) 26 rfl dX2_groupNamed_23 rfl sd (Nat.le_of_ble_eq_true rfl) rfl ?_
      refine ev_goto (tgt := 2) dX2_groupNamed_26 (by decide) ?_
      exact H
    · have H := H.2 cd
      refine ev_iload_n 22 rfl dX2_groupNamed_21 rfl rfl ?_
      exact ev_retI dX2_groupNamed_22 rfl H

set_option maxRecDepth 20000 in
theorem b_X2_tellGroup {X : qX} {d : Nat} {sh : qS} {pt h : qM} {K : Int → qM → Prop} {v1 v2 v4 : Int} (hst : St sh pt)
    (H : ((¬ v1 = (-1) → (0 ≤ v1 ∧ v1 < 8) ∧ ∀ h2 : qM, h2 = qup h 7 v1 v2 → (0 ≤ v1 ∧ v1 < 8) ∧ ∀ h4 : qM, h4 = qup h2 8 v1 v4 → K v1 h4) ∧ (v1 = (-1) → (qI ((h 2 8) + 1)) ∧ ∀ h5 : qM, h5 = qup h 2 8 ((h 2 8) + 1) → (0 ≤ (h 2 8) ∧ (h 2 8) < 8) ∧ ∀ h7 : qM, h7 = qup h5 7 (h 2 8) v2 → (0 ≤ (h 2 8) ∧ (h 2 8) < 8) ∧ ∀ h9 : qM, h9 = qup h7 8 (h 2 8) v4 → K (h 2 8) h9))) :
    RunI X d mX2_tellGroup [(2, 2), (0, v1), (1, v2), (0, v4)] sh pt h K := by
  show Ev X d 0 0 mX2_tellGroup 0 [(2, 2), (0, v1), (1, v2), (8, -1), (0, v4), (8, -1)] [] (sh, pt, h) (qRI sh pt K)
  refine ev_iload_n 1 rfl dX2_tellGroup_0 rfl rfl ?_
  refine ev_istore (L1 := [(2, 2), (0, v1), (1, v2), (8, -1), (0, v4), (0, v1)]) 3 rfl dX2_tellGroup_1 (Nat.le_of_ble_eq_true rfl) rfl ?_
  refine ev_iload 5 rfl dX2_tellGroup_3 rfl ?_
  refine ev_iconst 6 rfl dX2_tellGroup_5 (by decide) ?_
  refine ev_icmp_ne (tgt := 25) 9 rfl dX2_tellGroup_6 (by decide) (fun cd => ?_) (fun cd => ?_)
  · have H := H.1 cd
    refine ev_aload_n 26 rfl dX2_tellGroup_25 rfl rfl ?_
    refine ev_getR (ki := 6) (v := 7) 29 rfl dX2_tellGroup_26 lf_2_32 (s_2 hst) (by decide) rfl (p_2_6 hst) ?_
    refine ev_iload 31 rfl dX2_tellGroup_29 rfl ?_
    refine ev_lload_n 32 rfl dX2_tellGroup_31 rfl rfl ?_
    obtain ⟨b1, H⟩ := H
    refine ev_lastore 33 rfl dX2_tellGroup_32 (s_7 hst) b1.1 b1.2 ?_
    obtain ⟨h2, eh2⟩ : ∃ z : qM, z = qup h 7 v1 v2 := ⟨_, rfl⟩
    rw [← eh2]
    have H := H h2 eh2
    refine ev_aload_n 34 rfl dX2_tellGroup_33 rfl rfl ?_
    refine ev_getR (ki := 7) (v := 8) 37 rfl dX2_tellGroup_34 lf_2_35 (s_2 hst) (by decide) rfl (p_2_7 hst) ?_
    refine ev_iload 39 rfl dX2_tellGroup_37 rfl ?_
    refine ev_iload 41 rfl dX2_tellGroup_39 rfl ?_
    obtain ⟨b3, H⟩ := H
    refine ev_iastore 42 rfl dX2_tellGroup_41 (s_8 hst) b3.1 b3.2 ?_
    obtain ⟨h4, eh4⟩ : ∃ z : qM, z = qup h2 8 v1 v4 := ⟨_, rfl⟩
    rw [← eh4]
    have H := H h4 eh4
    refine ev_iload 44 rfl dX2_tellGroup_42 rfl ?_
    exact ev_retI dX2_tellGroup_44 rfl H
  · have H := H.2 cd
    refine ev_aload_n 10 rfl dX2_tellGroup_9 rfl rfl ?_
    refine ev_getI (ki := 8) 13 rfl dX2_tellGroup_10 lf_2_38 (Or.inl rfl) (s_2 hst) (by decide) rfl ?_
    refine ev_istore (L1 := [(2, 2), (0, v1), (1, v2), (8, -1), (0, v4), (0, (h 2 8))]) 15 rfl dX2_tellGroup_13 (Nat.le_of_ble_eq_true rfl) rfl ?_
    refine ev_aload_n 16 rfl dX2_tellGroup_15 rfl rfl ?_
    refine ev_dup 17 rfl dX2_tellGroup_16 q21 ?_
    refine ev_getI (ki := 8) 20 rfl dX2_tellGroup_17 lf_2_38 (Or.inl rfl) (s_2 hst) (by decide) rfl ?_
    refine ev_iconst 21 rfl dX2_tellGroup_20 (by decide) ?_
    obtain ⟨sd, H⟩ := H
    refine ev_iadd 22 rfl dX2_tellGroup_21 sd ?_
    refine ev_putI (ki := 8) 25 rfl dX2_tellGroup_22 lf_2_38 (Or.inl rfl) (s_2 hst) (by decide) rfl ?_
    obtain ⟨h5, eh5⟩ : ∃ z : qM, z = qup h 2 8 ((h 2 8) + 1) := ⟨_, rfl⟩
    rw [← eh5]
    have H := H h5 eh5
    refine ev_aload_n 26 rfl dX2_tellGroup_25 rfl rfl ?_
    refine ev_getR (ki := 6) (v := 7) 29 rfl dX2_tellGroup_26 lf_2_32 (s_2 hst) (by decide) rfl (p_2_6 hst) ?_
    refine ev_iload 31 rfl dX2_tellGroup_29 rfl ?_
    refine ev_lload_n 32 rfl dX2_tellGroup_31 rfl rfl ?_
    obtain ⟨b6, H⟩ := H
    refine ev_lastore 33 rfl dX2_tellGroup_32 (s_7 hst) b6.1 b6.2 ?_
    obtain ⟨h7, eh7⟩ : ∃ z : qM, z = qup h5 7 (h 2 8) v2 := ⟨_, rfl⟩
    rw [← eh7]
    have H := H h7 eh7
    refine ev_aload_n 34 rfl dX2_tellGroup_33 rfl rfl ?_
    refine ev_getR (ki := 7) (v := 8) 37 rfl dX2_tellGroup_34 lf_2_35 (s_2 hst) (by decide) rfl (p_2_7 hst) ?_
    refine ev_iload 39 rfl dX2_tellGroup_37 rfl ?_
    refine ev_iload 41 rfl dX2_tellGroup_39 rfl ?_
    obtain ⟨b8, H⟩ := H
    refine ev_iastore 42 rfl dX2_tellGroup_41 (s_8 hst) b8.1 b8.2 ?_
    obtain ⟨h9, eh9⟩ : ∃ z : qM, z = qup h7 8 (h 2 8) v4 := ⟨_, rfl⟩
    rw [← eh9]
    have H := H h9 eh9
    refine ev_iload 44 rfl dX2_tellGroup_42 rfl ?_
    exact ev_retI dX2_tellGroup_44 rfl H

set_option maxRecDepth 20000 in
theorem b_X7_clear {X : qX} {d : Nat} {sh : qS} {pt h : qM} {K : qM → Prop} {t : Int} (hst : St sh pt) (ht : isT t)
    (H : ∀ h1 : qM, h1 = qup h t 8 0 → ∀ h2 : qM, h2 = qup h1 t 9 0 → ∀ h3 : qM, h3 = qup h2 t 11 0 → ∀ h4 : qM, h4 = qup h3 t 10 0 → K h4) :
    RunV X d mX7_clear [(2, t)] sh pt h K := by
  show Ev X d 0 0 mX7_clear 0 [(2, t)] [] (sh, pt, h) (qRV sh pt K)
  refine ev_aload_n 1 rfl dX7_clear_0 rfl rfl ?_
  refine ev_iconst 2 rfl dX7_clear_1 (by decide) ?_
  refine ev_putI (ki := 8) 5 rfl dX7_clear_2 lf_7_36 (Or.inl rfl) (sT hst ht) (by decide) rfl ?_
  obtain ⟨h1, eh1⟩ : ∃ z : qM, z = qup h t 8 0 := ⟨_, rfl⟩
  rw [← eh1]
  have H := H h1 eh1
  refine ev_aload_n 6 rfl dX7_clear_5 rfl rfl ?_
  refine ev_iconst 7 rfl dX7_clear_6 (by decide) ?_
  refine ev_putI (ki := 9) 10 rfl dX7_clear_7 lf_7_40 (Or.inl rfl) (sT hst ht) (by decide) rfl ?_
  obtain ⟨h2, eh2⟩ : ∃ z : qM, z = qup h1 t 9 0 := ⟨_, rfl⟩
  rw [← eh2]
  have H := H h2 eh2
  refine ev_aload_n 11 rfl dX7_clear_10 rfl rfl ?_
  refine ev_iconst 12 rfl dX7_clear_11 (by decide) ?_
  refine ev_putI (ki := 11) 15 rfl dX7_clear_12 lf_7_47 (Or.inl rfl) (sT hst ht) (by decide) rfl ?_
  obtain ⟨h3, eh3⟩ : ∃ z : qM, z = qup h2 t 11 0 := ⟨_, rfl⟩
  rw [← eh3]
  have H := H h3 eh3
  refine ev_aload_n 16 rfl dX7_clear_15 rfl rfl ?_
  refine ev_iconst 17 rfl dX7_clear_16 (by decide) ?_
  refine ev_putI (ki := 10) 20 rfl dX7_clear_17 lf_7_43 (Or.inr ⟨rfl, by decide, by decide⟩) (sT hst ht) (by decide) rfl ?_
  obtain ⟨h4, eh4⟩ : ∃ z : qM, z = qup h3 t 10 0 := ⟨_, rfl⟩
  rw [← eh4]
  have H := H h4 eh4
  exact ev_retV dX7_clear_20 rfl H

set_option maxRecDepth 20000 in
theorem b_X7_beginLine {X : qX} {d : Nat} {sh : qS} {pt h : qM} {K : qM → Prop} {t v1 : Int} (hst : St sh pt) (ht : isT t)
    (H : (0 ≤ (h t 9) ∧ (h t 9) < 8) ∧ ∀ h2 : qM, h2 = qup h (t + 8) (h t 9) (qiand v1 (qixor (h t 11) (-1))) → ∀ h3 : qM, h3 = qup h2 t 11 (qior (h2 t 11) v1) → K h3) :
    RunV X d mX7_beginLine [(2, t), (0, v1)] sh pt h K := by
  show Ev X d 0 0 mX7_beginLine 0 [(2, t), (0, v1)] [] (sh, pt, h) (qRV sh pt K)
  refine ev_aload_n 1 rfl dX7_beginLine_0 rfl rfl ?_
  refine ev_getR (ki := 7) (v := (t + 8)) 4 rfl dX7_beginLine_1 lf_7_33 (sT hst ht) (by decide) rfl (pT7 hst ht) ?_
  refine ev_aload_n 5 rfl dX7_beginLine_4 rfl rfl ?_
  refine ev_getI (ki := 9) 8 rfl dX7_beginLine_5 lf_7_40 (Or.inl rfl) (sT hst ht) (by decide) rfl ?_
  refine ev_iload_n 9 rfl dX7_beginLine_8 rfl rfl ?_
  refine ev_aload_n 10 rfl dX7_beginLine_9 rfl rfl ?_
  refine ev_getI (ki := 11) 13 rfl dX7_beginLine_10 lf_7_47 (Or.inl rfl) (sT hst ht) (by decide) rfl ?_
  refine ev_iconst 14 rfl dX7_beginLine_13 (by decide) ?_
  refine ev_ixor 15 rfl dX7_beginLine_14 ?_
  refine ev_iand 16 rfl dX7_beginLine_15 ?_
  obtain ⟨b1, H⟩ := H
  refine ev_iastore 17 rfl dX7_beginLine_16 (sT7 hst ht) b1.1 b1.2 ?_
  obtain ⟨h2, eh2⟩ : ∃ z : qM, z = qup h (t + 8) (h t 9) (qiand v1 (qixor (h t 11) (-1))) := ⟨_, rfl⟩
  rw [← eh2]
  have H := H h2 eh2
  refine ev_aload_n 18 rfl dX7_beginLine_17 rfl rfl ?_
  refine ev_dup 19 rfl dX7_beginLine_18 q21 ?_
  refine ev_getI (ki := 11) 22 rfl dX7_beginLine_19 lf_7_47 (Or.inl rfl) (sT hst ht) (by decide) rfl ?_
  refine ev_iload_n 23 rfl dX7_beginLine_22 rfl rfl ?_
  refine ev_ior 24 rfl dX7_beginLine_23 ?_
  refine ev_putI (ki := 11) 27 rfl dX7_beginLine_24 lf_7_47 (Or.inl rfl) (sT hst ht) (by decide) rfl ?_
  obtain ⟨h3, eh3⟩ : ∃ z : qM, z = qup h2 t 11 (qior (h2 t 11) v1) := ⟨_, rfl⟩
  rw [← eh3]
  have H := H h3 eh3
  exact ev_retV dX7_beginLine_27 rfl H

set_option maxRecDepth 20000 in
theorem b_X7_endLine {X : qX} {d : Nat} {sh : qS} {pt h : qM} {K : qM → Prop} {t : Int} (hst : St sh pt) (ht : isT t)
    (H : (0 ≤ (h t 9) ∧ (h t 9) < 8) ∧ ∀ h2 : qM, h2 = qup h (t + 7) (h t 9) (h t 8) → (qI ((h2 t 9) + 1)) ∧ ∀ h3 : qM, h3 = qup h2 t 9 ((h2 t 9) + 1) → K h3) :
    RunV X d mX7_endLine [(2, t)] sh pt h K := by
  show Ev X d 0 0 mX7_endLine 0 [(2, t)] [] (sh, pt, h) (qRV sh pt K)
  refine ev_aload_n 1 rfl dX7_endLine_0 rfl rfl ?_
  refine ev_getR (ki := 6) (v := (t + 7)) 4 rfl dX7_endLine_1 lf_7_30 (sT hst ht) (by decide) rfl (pT6 hst ht) ?_
  refine ev_aload_n 5 rfl dX7_endLine_4 rfl rfl ?_
  refine ev_getI (ki := 9) 8 rfl dX7_endLine_5 lf_7_40 (Or.inl rfl) (sT hst ht) (by decide) rfl ?_
  refine ev_aload_n 9 rfl dX7_endLine_8 rfl rfl ?_
  refine ev_getI (ki := 8) 12 rfl dX7_endLine_9 lf_7_36 (Or.inl rfl) (sT hst ht) (by decide) rfl ?_
  obtain ⟨b1, H⟩ := H
  refine ev_iastore 13 rfl dX7_endLine_12 (sT6 hst ht) b1.1 b1.2 ?_
  obtain ⟨h2, eh2⟩ : ∃ z : qM, z = qup h (t + 7) (h t 9) (h t 8) := ⟨_, rfl⟩
  rw [← eh2]
  have H := H h2 eh2
  refine ev_aload_n 14 rfl dX7_endLine_13 rfl rfl ?_
  refine ev_dup 15 rfl dX7_endLine_14 q21 ?_
  refine ev_getI (ki := 9) 18 rfl dX7_endLine_15 lf_7_40 (Or.inl rfl) (sT hst ht) (by decide) rfl ?_
  refine ev_iconst 19 rfl dX7_endLine_18 (by decide) ?_
  obtain ⟨sd, H⟩ := H
  refine ev_iadd 20 rfl dX7_endLine_19 sd ?_
  refine ev_putI (ki := 9) 23 rfl dX7_endLine_20 lf_7_40 (Or.inl rfl) (sT hst ht) (by decide) rfl ?_
  obtain ⟨h3, eh3⟩ : ∃ z : qM, z = qup h2 t 9 ((h2 t 9) + 1) := ⟨_, rfl⟩
  rw [← eh3]
  have H := H h3 eh3
  exact ev_retV dX7_endLine_23 rfl H

set_option maxRecDepth 20000 in
theorem b_X7_lineBegin {X : qX} {d : Nat} {sh : qS} {pt h : qM} {K : Int → qM → Prop} {t v1 : Int} (hst : St sh pt) (ht : isT t)
    (H : ((¬ v1 = 0 → (qI (v1 - 1)) ∧ (0 ≤ (v1 - 1) ∧ (v1 - 1) < 8) ∧ K (h (t + 7) (v1 - 1)) h) ∧ (v1 = 0 → K 0 h))) :
    RunI X d mX7_lineBegin [(2, t), (0, v1)] sh pt h K := by
  show Ev X d 0 0 mX7_lineBegin 0 [(2, t), (0, v1)] [] (sh, pt, h) (qRI sh pt K)
  refine ev_iload_n 1 rfl dX7_lineBegin_0 rfl rfl ?_
  refine ev_if_ne (tgt := 8) 4 rfl dX7_lineBegin_1 (by decide) (fun cd => ?_) (fun cd => ?_)
  · have H := H.1 cd
    refine ev_aload_n 9 rfl dX7_lineBegin_8 rfl rfl ?_
    refine ev_getR (ki := 6) (v := (t + 7)) 12 rfl dX7_lineBegin_9 lf_7_30 (sT hst ht) (by decide) rfl (pT6 hst ht) ?_
    refine ev_iload_n 13 rfl dX7_lineBegin_12 rfl rfl ?_
    refine ev_iconst 14 rfl dX7_lineBegin_13 (by decide) ?_
    obtain ⟨sd, H⟩ := H
    refine ev_isub 15 rfl dX7_lineBegin_14 sd ?_
    obtain ⟨b1, H⟩ := H
    refine ev_iaload 16 rfl dX7_lineBegin_15 (sT6 hst ht) b1.1 b1.2 ?_
    exact ev_retI dX7_lineBegin_16 rfl H
  · have H := H.2 cd
    refine ev_iconst 5 rfl dX7_lineBegin_4 (by decide) ?_
    refine ev_goto (tgt := 16) dX7_lineBegin_5 (by decide) ?_
    exact ev_retI dX7_lineBegin_16 rfl H

set_option maxRecDepth 20000 in
theorem b_X7_addOrder {X : qX} {d : Nat} {sh : qS} {pt h : qM} {K : Int → qM → Prop} {t v1 v2 : Int} (hst : St sh pt) (ht : isT t)
    (H : (0 ≤ (h t 8) ∧ (h t 8) < 60) ∧ ∀ h2 : qM, h2 = qup h (t + 1) (h t 8) v1 → (0 ≤ (h t 8) ∧ (h t 8) < 60) ∧ ∀ h4 : qM, h4 = qup h2 (t + 2) (h t 8) v2 → (0 ≤ (h t 8) ∧ (h t 8) < 60) ∧ ∀ h6 : qM, h6 = qup h4 (t + 3) (h t 8) 0 → (0 ≤ (h t 8) ∧ (h t 8) < 60) ∧ ∀ h8 : qM, h8 = qup h6 (t + 4) (h t 8) 0 → (0 ≤ (h t 8) ∧ (h t 8) < 60) ∧ ∀ h10 : qM, h10 = qup h8 (t + 5) (h t 8) 0 → (qI ((h t 8) + 1)) ∧ (0 ≤ (h t 8) ∧ (h t 8) < 60) ∧ ∀ h12 : qM, h12 = qup h10 (t + 6) (h t 8) ((h t 8) + 1) → (qI ((h12 t 8) + 1)) ∧ ∀ h13 : qM, h13 = qup h12 t 8 ((h12 t 8) + 1) → K (h t 8) h13) :
    RunI X d mX7_addOrder [(2, t), (0, v1), (0, v2)] sh pt h K := by
  show Ev X d 0 0 mX7_addOrder 0 [(2, t), (0, v1), (0, v2), (8, -1)] [] (sh, pt, h) (qRI sh pt K)
  refine ev_aload_n 1 rfl dX7_addOrder_0 rfl rfl ?_
  refine ev_getI (ki := 8) 4 rfl dX7_addOrder_1 lf_7_36 (Or.inl rfl) (sT hst ht) (by decide) rfl ?_
  refine ev_istore_n (L1 := [(2, t), (0, v1), (0, v2), (0, (h t 8))]) 5 rfl dX7_addOrder_4 rfl (Nat.le_of_ble_eq_true rfl) rfl ?_
  refine ev_aload_n 6 rfl dX7_addOrder_5 rfl rfl ?_
  refine ev_getR (ki := 0) (v := (t + 1)) 9 rfl dX7_addOrder_6 lf_7_9 (sT hst ht) (by decide) rfl (pT0 hst ht) ?_
  refine ev_iload_n 10 rfl dX7_addOrder_9 rfl rfl ?_
  refine ev_iload_n 11 rfl dX7_addOrder_10 rfl rfl ?_
  obtain ⟨b1, H⟩ := H
  refine ev_iastore 12 rfl dX7_addOrder_11 (sT0 hst ht) b1.1 b1.2 ?_
  obtain ⟨h2, eh2⟩ : ∃ z : qM, z = qup h (t + 1) (h t 8) v1 := ⟨_, rfl⟩
  rw [← eh2]
  have H := H h2 eh2
  refine ev_aload_n 13 rfl dX7_addOrder_12 rfl rfl ?_
  refine ev_getR (ki := 1) (v := (t + 2)) 16 rfl dX7_addOrder_13 lf_7_13 (sT hst ht) (by decide) rfl (pT1 hst ht) ?_
  refine ev_iload_n 17 rfl dX7_addOrder_16 rfl rfl ?_
  refine ev_iload_n 18 rfl dX7_addOrder_17 rfl rfl ?_
  obtain ⟨b3, H⟩ := H
  refine ev_iastore 19 rfl dX7_addOrder_18 (sT1 hst ht) b3.1 b3.2 ?_
  obtain ⟨h4, eh4⟩ : ∃ z : qM, z = qup h2 (t + 2) (h t 8) v2 := ⟨_, rfl⟩
  rw [← eh4]
  have H := H h4 eh4
  refine ev_aload_n 20 rfl dX7_addOrder_19 rfl rfl ?_
  refine ev_getR (ki := 2) (v := (t + 3)) 23 rfl dX7_addOrder_20 lf_7_16 (sT hst ht) (by decide) rfl (pT2 hst ht) ?_
  refine ev_iload_n 24 rfl dX7_addOrder_23 rfl rfl ?_
  refine ev_iconst 25 rfl dX7_addOrder_24 (by decide) ?_
  obtain ⟨b5, H⟩ := H
  refine ev_iastore 26 rfl dX7_addOrder_25 (sT2 hst ht) b5.1 b5.2 ?_
  obtain ⟨h6, eh6⟩ : ∃ z : qM, z = qup h4 (t + 3) (h t 8) 0 := ⟨_, rfl⟩
  rw [← eh6]
  have H := H h6 eh6
  refine ev_aload_n 27 rfl dX7_addOrder_26 rfl rfl ?_
  refine ev_getR (ki := 3) (v := (t + 4)) 30 rfl dX7_addOrder_27 lf_7_19 (sT hst ht) (by decide) rfl (pT3 hst ht) ?_
  refine ev_iload_n 31 rfl dX7_addOrder_30 rfl rfl ?_
  refine ev_iconst 32 rfl dX7_addOrder_31 (by decide) ?_
  obtain ⟨b7, H⟩ := H
  refine ev_iastore 33 rfl dX7_addOrder_32 (sT3 hst ht) b7.1 b7.2 ?_
  obtain ⟨h8, eh8⟩ : ∃ z : qM, z = qup h6 (t + 4) (h t 8) 0 := ⟨_, rfl⟩
  rw [← eh8]
  have H := H h8 eh8
  refine ev_aload_n 34 rfl dX7_addOrder_33 rfl rfl ?_
  refine ev_getR (ki := 4) (v := (t + 5)) 37 rfl dX7_addOrder_34 lf_7_22 (sT hst ht) (by decide) rfl (pT4 hst ht) ?_
  refine ev_iload_n 38 rfl dX7_addOrder_37 rfl rfl ?_
  refine ev_iconst 39 rfl dX7_addOrder_38 (by decide) ?_
  obtain ⟨b9, H⟩ := H
  refine ev_iastore 40 rfl dX7_addOrder_39 (sT4 hst ht) b9.1 b9.2 ?_
  obtain ⟨h10, eh10⟩ : ∃ z : qM, z = qup h8 (t + 5) (h t 8) 0 := ⟨_, rfl⟩
  rw [← eh10]
  have H := H h10 eh10
  refine ev_aload_n 41 rfl dX7_addOrder_40 rfl rfl ?_
  refine ev_getR (ki := 5) (v := (t + 6)) 44 rfl dX7_addOrder_41 lf_7_25 (sT hst ht) (by decide) rfl (pT5 hst ht) ?_
  refine ev_iload_n 45 rfl dX7_addOrder_44 rfl rfl ?_
  refine ev_iload_n 46 rfl dX7_addOrder_45 rfl rfl ?_
  refine ev_iconst 47 rfl dX7_addOrder_46 (by decide) ?_
  obtain ⟨sd, H⟩ := H
  refine ev_iadd 48 rfl dX7_addOrder_47 sd ?_
  obtain ⟨b11, H⟩ := H
  refine ev_iastore 49 rfl dX7_addOrder_48 (sT5 hst ht) b11.1 b11.2 ?_
  obtain ⟨h12, eh12⟩ : ∃ z : qM, z = qup h10 (t + 6) (h t 8) ((h t 8) + 1) := ⟨_, rfl⟩
  rw [← eh12]
  have H := H h12 eh12
  refine ev_aload_n 50 rfl dX7_addOrder_49 rfl rfl ?_
  refine ev_dup 51 rfl dX7_addOrder_50 q21 ?_
  refine ev_getI (ki := 8) 54 rfl dX7_addOrder_51 lf_7_36 (Or.inl rfl) (sT hst ht) (by decide) rfl ?_
  refine ev_iconst 55 rfl dX7_addOrder_54 (by decide) ?_
  obtain ⟨sd, H⟩ := H
  refine ev_iadd 56 rfl dX7_addOrder_55 sd ?_
  refine ev_putI (ki := 8) 59 rfl dX7_addOrder_56 lf_7_36 (Or.inl rfl) (sT hst ht) (by decide) rfl ?_
  obtain ⟨h13, eh13⟩ : ∃ z : qM, z = qup h12 t 8 ((h12 t 8) + 1) := ⟨_, rfl⟩
  rw [← eh13]
  have H := H h13 eh13
  refine ev_iload_n 60 rfl dX7_addOrder_59 rfl rfl ?_
  exact ev_retI dX7_addOrder_60 rfl H
