/-! the ends of orders() and run() of the class: two pointers change places -/
section
variable {X : qX} {d rc rs : Nat} {sh : qS} {pt h : qM} {Q : Option qV → qG → Prop}
theorem x_orders_91 {t ts : Int} (hst : St sh pt) (hts : isT ts) (k : ∀ pt', St sh pt' → pt' 0 8 = ts → pt' 0 9 = t → (∀ a i : Int, ¬ (a = 0 ∧ (i = 8 ∨ i = 9)) → pt' a i = pt a i) → Q (some (0, h ts 8)) (sh, pt', qup h 0 12 0)) : Ev X (d + 1) rc rs mX10_orders 91 [(2, 0), (8, -1), (2, t)] [(2, ts), (2, 0)] (sh, pt, h) Q := by
  have st2 : St sh (qup (qup pt 0 8 ts) 0 9 t) := St_to hst (fun _ _ w => w) (fun a i _ q => by unfold mvb at q; rw [qup_of (by omega), qup_of (by omega)])
  have e8 : qup (qup pt 0 8 ts) 0 9 t 0 8 = ts := by rw [qup_of (by decide), qup_at]
  refine ev_putR (ki := 8) 94 rfl dX10_orders_91 lf_10_67 (Or.inl rfl) (s_0 hst) (by decide) rfl ?_
  refine ev_aload_n 95 rfl dX10_orders_94 rfl rfl ?_
  refine ev_aload_n 96 rfl dX10_orders_95 rfl rfl ?_
  refine ev_putR (ki := 9) 99 rfl dX10_orders_96 lf_10_71 (Or.inl rfl) (s_0 hst) (by decide) rfl ?_
  refine ev_aload_n 100 rfl dX10_orders_99 rfl rfl ?_
  refine ev_aload_n 101 rfl dX10_orders_100 rfl rfl ?_
  refine ev_getR (ki := 8) (v := ts) 104 rfl dX10_orders_101 lf_10_67 (s_0 hst) (by decide) rfl e8 ?_
  refine ev_getI (ki := 8) 107 rfl dX10_orders_104 lf_10_211 (Or.inl rfl) (sT hst hts) (by decide) rfl ?_
  refine ev_cVI (K := fun r g => r = h ts 8 ∧ g = qup h 0 12 0) (As := [(0, h ts 8)]) (rest := []) 110 rfl dX10_orders_107 lm_10_162 mm_X10_answer (s_0 hst) rfl rfl (Nat.le_of_ble_eq_true rfl) (Nat.le_of_ble_eq_true rfl) (Nat.le_refl _) (b_X10_answer st2 (fun h1 e1 => ⟨rfl, e1⟩)) ?_
  rintro r g ⟨er, eg⟩
  subst er
  subst eg
  exact ev_ireturn dX10_orders_110 (Or.inl rfl) (k _ st2 e8 qup_at (fun a i q => by rw [qup_of (by omega), qup_of (by omega)]))
theorem x_run_82 {c cs : Int} (hst : St sh pt) (hcs : isC cs) (k : ∀ pt', St sh pt' → pt' 0 10 = cs → pt' 0 11 = c → (∀ a i : Int, ¬ (a = 0 ∧ (i = 10 ∨ i = 11)) → pt' a i = pt a i) → Q (some (0, h cs 5)) (sh, pt', qup h 0 12 0)) : Ev X (d + 1) rc rs mX10_run 82 [(2, 0), (2, c)] [(2, cs), (2, 0)] (sh, pt, h) Q := by
  have st2 : St sh (qup (qup pt 0 10 cs) 0 11 c) := St_to hst (fun _ _ w => w) (fun a i _ q => by unfold mvb at q; rw [qup_of (by omega), qup_of (by omega)])
  have e8 : qup (qup pt 0 10 cs) 0 11 c 0 10 = cs := by rw [qup_of (by decide), qup_at]
  refine ev_putR (ki := 10) 85 rfl dX10_run_82 lf_10_77 (Or.inl rfl) (s_0 hst) (by decide) rfl ?_
  refine ev_aload_n 86 rfl dX10_run_85 rfl rfl ?_
  refine ev_aload_n 87 rfl dX10_run_86 rfl rfl ?_
  refine ev_putR (ki := 11) 90 rfl dX10_run_87 lf_10_81 (Or.inl rfl) (s_0 hst) (by decide) rfl ?_
  refine ev_aload_n 91 rfl dX10_run_90 rfl rfl ?_
  refine ev_aload_n 92 rfl dX10_run_91 rfl rfl ?_
  refine ev_getR (ki := 10) (v := cs) 95 rfl dX10_run_92 lf_10_77 (s_0 hst) (by decide) rfl e8 ?_
  refine ev_getI (ki := 5) 98 rfl dX10_run_95 lf_10_223 (Or.inl rfl) (sC hst hcs) (by decide) rfl ?_
  refine ev_cVI (K := fun r g => r = h cs 5 ∧ g = qup h 0 12 0) (As := [(0, h cs 5)]) (rest := []) 101 rfl dX10_run_98 lm_10_162 mm_X10_answer (s_0 hst) rfl rfl (Nat.le_of_ble_eq_true rfl) (Nat.le_of_ble_eq_true rfl) (Nat.le_refl _) (b_X10_answer st2 (fun h1 e1 => ⟨rfl, e1⟩)) ?_
  rintro r g ⟨er, eg⟩
  subst er
  subst eg
  exact ev_ireturn dX10_run_101 (Or.inl rfl) (k _ st2 e8 qup_at (fun a i q => by rw [qup_of (by omega), qup_of (by omega)]))
end
