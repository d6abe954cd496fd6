/-! what holds as the law's loop begins, and the whole law -/
theorem NT_nil {P : Int → Prop} (q : ∀ w, ¬ P w) : ∀ k : Nat, NT P k = 0 := by
  intro k
  induction k with
  | zero => rfl
  | succ k ih =>
    have e1 : NT P (k + 1) = NT P k + cif (P k) 1 0 := rfl
    rw [e1, ih, cif_f (q k)]
    rfl
theorem mk_St : St (cS 136) cP_137 := ⟨by decide +kernel, by decide +kernel⟩
theorem mk_Tr : iTr cH_87 := fun v a b => by
  obtain rfl | rfl | rfl | rfl : v = 0 ∨ v = 1 ∨ v = 2 ∨ v = 3 := by omega
  · exact ⟨by decide +kernel, by decide +kernel, Or.inl (by decide +kernel)⟩
  · exact ⟨by decide +kernel, by decide +kernel, Or.inl (by decide +kernel)⟩
  · exact ⟨by decide +kernel, by decide +kernel, Or.inl (by decide +kernel)⟩
  · exact ⟨by decide +kernel, by decide +kernel, Or.inl (by decide +kernel)⟩
theorem mk_Gr : iGr cH_87 := ⟨by decide +kernel, fun m a b => by
  rw [show cH_87 2 3 = 0 by decide +kernel] at b
  omega⟩
theorem mk_Pr : iPr cH_87 := by
  have z6 : ∀ n, cH_87 6 n = 0 := fun n => zH_87 (by omega)
  have z86 : ∀ n, cH_87 86 n = 0 := fun n => zH_87 (by omega)
  refine ⟨by decide +kernel, fun n _ _ => by rw [z6]; decide, fun e n _ _ _ _ => ?_, ?_⟩
  · rw [z6, z86, tb_0]
    exact ⟨fun c => absurd c (by decide), fun c => absurd rfl c⟩
  · rw [NT_nil (fun w c => c (z86 w)) 2400]
    decide +kernel
theorem mk_Gp : iGp cH_87 := ⟨by decide +kernel, fun m a b => by
  rw [show cH_87 2 8 = 0 by decide +kernel] at b
  omega⟩
theorem mk_Tp : iTp cH_87 := ⟨by decide +kernel, fun m a b => by
  rw [show cH_87 9 1 = 0 by decide +kernel] at b
  omega⟩
theorem mk_FE : iFE cH_87 := by unfold iFE; decide +kernel
theorem mk_Tx : iTx 44 cH_87 := Or.inl (by decide +kernel)
theorem mk_Co : iCo 62 66 cH_87 := ⟨fun x _ _ => by rw [show (62 : Int) + 1 = 63 from rfl, zH_87 (by omega)]; decide, fun x _ _ => by rw [show (66 : Int) + 1 = 67 from rfl, zH_87 (by omega)]; decide, Or.inl (by decide +kernel)⟩
theorem mk_Pl : iPl cH_87 := ⟨by decide +kernel, fun c => by
  rw [show cH_87 19 0 = 0 by decide +kernel] at c
  omega⟩
theorem mk_Pa : iPa (cS 136) cP_137 cH_87 := ⟨by decide +kernel, fun c => by
  rw [show cH_87 28 0 = -1 by decide +kernel] at c
  omega⟩
theorem mk_Ro : iRo cH_87 := ⟨by decide +kernel, by decide +kernel, by decide +kernel, fun p a b => by
  rw [show cH_87 30 0 = 0 by decide +kernel] at b
  omega, fun k a b => by
  rw [show cH_87 30 1 = 0 by decide +kernel] at b
  omega⟩
theorem mk_Sc : iSc cH_87 := ⟨fun s t j a b a2 b2 a3 b3 => by
  rw [fH_134_87 (by omega), fH_43_87 (by omega)]
  decide, fun t a b => by
  rw [fH_135_87 (by omega), fH_42_87 (by omega)]
  decide, by decide +kernel⟩
theorem mk_Inv : Inv (cS 136) cP_137 cH_87 := ⟨44, 53, 62, 66, ⟨⟨by decide +kernel, Or.inl rfl, by decide +kernel, Or.inr rfl, by decide⟩, by decide +kernel, Or.inl rfl, by decide +kernel, Or.inr rfl, by decide⟩, mk_St, Or.inl ⟨rfl, by decide +kernel, by decide +kernel, by decide +kernel⟩, by decide +kernel, mk_Tr, mk_Gr, mk_Pr, mk_Gp, mk_Tp, mk_FE, mk_Tx, mk_Co, mk_Pl, mk_Pa, mk_Ro, mk_Sc⟩
/-- THE LAW: from its entry, with no cell of ours yet, it comes to its end with 1 -/
theorem law_all {X : qX} {d : Nat} (hq : ∀ j, qI (X.2.2 j)) (hL : X.2.1 ≤ 3072) : Ev X (d + 21 + 1) 139 151704 mL_law 0 [(2, -2), (8, -1), (8, -1), (8, -1)] [] (cS 0, cP_0, cH_0) (fun r _ => r = some (0, 1)) := by
  refine en_new (rc := 138) (rs := 151687) (ci := 10) (N := 17) (K := RX10) (T := TX10) 0 0 rfl (by decide) rfl rP_0 rH_0 3 rfl dL_law_0 lc_L_7 rfl (by decide) ?_
  refine ev_dup 4 rfl dL_law_3 (by decide) ?_
  refine ev_callI (rc := 61) (rs := 140423) (mc := 77) (ms := 11264) (As := []) (rest := [(2, 0)]) 7 rfl dL_law_4 (Or.inl lm_L_9) mm_X10_init (by decide) rfl rfl (Nat.le_of_ble_eq_true rfl) (Nat.le_of_ble_eq_true rfl) (Nat.le_refl _) (k_X10_init_0 (d := d + 19)) ?_
  rintro _ _ ⟨rfl, rfl⟩
  refine ev_astore_n 8 rfl dL_law_7 rfl (by decide) rfl ?_
  refine en_new (rc := 60) (rs := 140321) (ci := 11) (N := 102) (K := RX11) (T := TX11) 78 78 rfl (by decide) rfl (lowR_mo (by decide) rP_80) (lowR_mo (by decide) rH_75) 11 rfl dL_law_8 lc_L_10 rfl (by decide) ?_
  refine ev_dup 12 rfl dL_law_11 (by decide) ?_
  refine ev_callI (rc := 3) (rs := 57600) (mc := 57) (ms := 82721) (As := []) (rest := [(2, 78)]) 15 rfl dL_law_12 (Or.inl lm_L_12) mm_X11_init (by decide) rfl rfl (Nat.le_of_ble_eq_true rfl) (Nat.le_of_ble_eq_true rfl) (Nat.le_refl _) (k_X11_init_78 (d := d + 20)) ?_
  rintro _ _ ⟨rfl, rfl⟩
  refine ev_astore_n 16 rfl dL_law_15 rfl (by decide) rfl ?_
  refine ev_iconst 17 rfl dL_law_16 (by decide) ?_
  refine ev_istore_n 18 rfl dL_law_17 rfl (by decide) rfl ?_
  exact law_loop hq hL (fun _ => rfl) (X.2.1 + 1) 0 _ _ _ 3 57600 (by omega) (by decide) (by omega) mk_Inv (Or.inr ⟨by decide, by decide⟩)
