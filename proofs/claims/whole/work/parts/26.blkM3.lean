set_option maxRecDepth 20000 in
theorem b_X11_figure {X : qX} {d : Nat} {sh : qS} {pt h : qM} {K : qM → Prop} {v1 v2 v3 n3 : Int} (hst : St sh pt) (ha3 : qsh sh v3 = some (0, n3))
    (H : EvV X (d + 1) mX11_figure 13 [(2, 78), (0, v1), (0, v2), (2, v3), (0, 1000), (0, 1000), (0, 0), (8, -1), (8, -1), (8, -1), (8, -1)] [] sh pt h K) :
    RunV X (d + 1) mX11_figure [(2, 78), (0, v1), (0, v2), (2, v3)] sh pt h K := by
  show Ev X (d + 1) 0 0 mX11_figure 0 [(2, 78), (0, v1), (0, v2), (2, v3), (8, -1), (8, -1), (8, -1), (8, -1), (8, -1), (8, -1), (8, -1)] [] (sh, pt, h) (qRV sh pt K)
  refine ev_sipush 3 rfl dX11_figure_0 (by decide) (by decide) ?_
  refine ev_istore (L1 := [(2, 78), (0, v1), (0, v2), (2, v3), (0, 1000), (8, -1), (8, -1), (8, -1), (8, -1), (8, -1), (8, -1)]) 5 rfl dX11_figure_3 (Nat.le_of_ble_eq_true rfl) rfl ?_
  refine ev_sipush 8 rfl dX11_figure_5 (by decide) (by decide) ?_
  refine ev_istore (L1 := [(2, 78), (0, v1), (0, v2), (2, v3), (0, 1000), (0, 1000), (8, -1), (8, -1), (8, -1), (8, -1), (8, -1)]) 10 rfl dX11_figure_8 (Nat.le_of_ble_eq_true rfl) rfl ?_
  refine ev_iconst 11 rfl dX11_figure_10 (by decide) ?_
  refine ev_istore (L1 := [(2, 78), (0, v1), (0, v2), (2, v3), (0, 1000), (0, 1000), (0, 0), (8, -1), (8, -1), (8, -1), (8, -1)]) 13 rfl dX11_figure_11 (Nat.le_of_ble_eq_true rfl) rfl ?_
  exact H

set_option maxRecDepth 20000 in
theorem b_X11_figure_13 {X : qX} {d : Nat} {sh : qS} {pt h : qM} {K : qM → Prop} {v1 v2 v3 v4 v5 v6 n3 : Int} (hst : St sh pt) (ha3 : qsh sh v3 = some (0, n3))
    (H : (((h 78 50) ≤ v6 → EvV X (d + 1) mX11_figure 149 [(2, 78), (8, -1), (8, -1), (2, v3), (0, v4), (0, v5), (0, 0), (8, -1), (8, -1), (8, -1), (8, -1)] [] sh pt h K) ∧ (v6 < (h 78 50) → ((v2 ≤ 3 → RunI X d mX11_cell [(0, v1), (0, v6)] sh pt h (fun r2 h1 => (0 ≤ r2 ∧ r2 < 3020) ∧ EvV X (d + 1) mX11_figure 53 [(2, 78), (0, v1), (0, v2), (2, v3), (0, v4), (0, v5), (0, v6), (8, -1), (8, -1), (8, -1), (8, -1)] [(0, (h1 106 r2))] sh pt h1 K)) ∧ (3 < v2 → RunI X d mX11_cell [(0, v1), (0, v6)] sh pt h (fun r5 h4 => (0 ≤ r5 ∧ r5 < 3020) ∧ (qI (-(h4 106 r5))) ∧ EvV X (d + 1) mX11_figure 53 [(2, 78), (0, v1), (0, v2), (2, v3), (0, v4), (0, v5), (0, v6), (8, -1), (8, -1), (8, -1), (8, -1)] [(0, (-(h4 106 r5)))] sh pt h4 K)))))) :
    EvV X (d + 1) mX11_figure 13 [(2, 78), (0, v1), (0, v2), (2, v3), (0, v4), (0, v5), (0, v6), (8, -1), (8, -1), (8, -1), (8, -1)] [] sh pt h K := by
  show Ev X (d + 1) 0 0 mX11_figure 13 [(2, 78), (0, v1), (0, v2), (2, v3), (0, v4), (0, v5), (0, v6), (8, -1), (8, -1), (8, -1), (8, -1)] [] (sh, pt, h) (qRV sh pt K)
  refine ev_iload 15 rfl dX11_figure_13 rfl ?_
  refine ev_aload_n 16 rfl dX11_figure_15 rfl rfl ?_
  refine ev_getI (ki := 50) 19 rfl dX11_figure_16 lf_11_111 (Or.inl rfl) (s_78 hst) (by decide) rfl ?_
  refine ev_icmp_ge (tgt := 146) 22 rfl dX11_figure_19 (by decide) (fun cd => ?_) (fun cd => ?_)
  · have H := H.1 cd
    refine ev_iconst 147 rfl dX11_figure_146 (by decide) ?_
    refine ev_istore (L1 := [(2, 78), (0, v1), (0, v2), (2, v3), (0, v4), (0, v5), (0, 0), (8, -1), (8, -1), (8, -1), (8, -1)]) 149 rfl dX11_figure_147 (Nat.le_of_ble_eq_true rfl) rfl ?_
    refine Ev.drop [1, 2] rfl ?_
    exact H
  · have H := H.2 cd
    refine ev_iload_n 23 rfl dX11_figure_22 rfl rfl ?_
    refine ev_iconst 24 rfl dX11_figure_23 (by decide) ?_
    refine ev_icmp_le (tgt := 42) 27 rfl dX11_figure_24 (by decide) (fun cd => ?_) (fun cd => ?_)
    · have H := H.1 cd
      refine ev_aload_n 43 rfl dX11_figure_42 rfl rfl ?_
      refine ev_getR (ki := 55) (v := 106) 46 rfl dX11_figure_43 lf_11_120 (s_78 hst) (by decide) rfl (p_78_55 hst) ?_
      refine ev_iload_n 47 rfl dX11_figure_46 rfl rfl ?_
      refine ev_iload 49 rfl dX11_figure_47 rfl ?_
      refine ev_cSI (As := [(0, v1), (0, v6)]) (rest := [(2, 106)]) 52 rfl dX11_figure_49 lm_11_405 mm_X11_cell rfl rfl (Nat.le_of_ble_eq_true rfl) (Nat.le_of_ble_eq_true rfl) (Nat.le_refl _) H ?_
      intro r2 h1 H
      obtain ⟨b3, H⟩ := H
      refine ev_iaload 53 rfl dX11_figure_52 (s_106 hst) b3.1 b3.2 ?_
      exact H
    · have H := H.2 cd
      refine ev_aload_n 28 rfl dX11_figure_27 rfl rfl ?_
      refine ev_getR (ki := 55) (v := 106) 31 rfl dX11_figure_28 lf_11_120 (s_78 hst) (by decide) rfl (p_78_55 hst) ?_
      refine ev_iload_n 32 rfl dX11_figure_31 rfl rfl ?_
      refine ev_iload 34 rfl dX11_figure_32 rfl ?_
      refine ev_cSI (As := [(0, v1), (0, v6)]) (rest := [(2, 106)]) 37 rfl dX11_figure_34 lm_11_405 mm_X11_cell rfl rfl (Nat.le_of_ble_eq_true rfl) (Nat.le_of_ble_eq_true rfl) (Nat.le_refl _) H ?_
      intro r5 h4 H
      obtain ⟨b6, H⟩ := H
      refine ev_iaload 38 rfl dX11_figure_37 (s_106 hst) b6.1 b6.2 ?_
      obtain ⟨sd, H⟩ := H
      refine ev_ineg 39 rfl dX11_figure_38 sd ?_
      refine ev_goto (tgt := 53) dX11_figure_39 (by decide) ?_
      exact H

set_option maxRecDepth 20000 in
theorem b_X11_figure_149 {X : qX} {d : Nat} {sh : qS} {pt h : qM} {K : qM → Prop} {v3 v4 v5 v6 n3 : Int} (hst : St sh pt) (ha3 : qsh sh v3 = some (0, n3))
    (H : (((h 78 50) ≤ v6 → K h) ∧ (v6 < (h 78 50) → (0 ≤ v6 ∧ v6 < n3) ∧ (qI (1000 * v4)) ∧ (qI ((h v3 v6) - (1000 * v4))) ∧ (qI (((h v3 v6) - (1000 * v4)) - v5)) ∧ ∀ x2 : Int, x2 = (((h v3 v6) - (1000 * v4)) - v5) → EvV X (d + 1) mX11_figure 178 [(2, 78), (8, -1), (8, -1), (2, v3), (0, v4), (0, v5), (0, v6), (0, x2), (0, v6), (8, -1), (8, -1)] [] sh pt h K))) :
    EvV X (d + 1) mX11_figure 149 [(2, 78), (8, -1), (8, -1), (2, v3), (0, v4), (0, v5), (0, v6), (8, -1), (8, -1), (8, -1), (8, -1)] [] sh pt h K := by
  show Ev X (d + 1) 0 0 mX11_figure 149 [(2, 78), (8, -1), (8, -1), (2, v3), (0, v4), (0, v5), (0, v6), (8, -1), (8, -1), (8, -1), (8, -1)] [] (sh, pt, h) (qRV sh pt K)
  refine ev_iload 151 rfl dX11_figure_149 rfl ?_
  refine ev_aload_n 152 rfl dX11_figure_151 rfl rfl ?_
  refine ev_getI (ki := 50) 155 rfl dX11_figure_152 lf_11_111 (Or.inl rfl) (s_78 hst) (by decide) rfl ?_
  refine ev_icmp_ge (tgt := 222) 158 rfl dX11_figure_155 (by decide) (fun cd => ?_) (fun cd => ?_)
  · have H := H.1 cd
    exact ev_retV dX11_figure_222 rfl H
  · have H := H.2 cd
    refine ev_aload_n 159 rfl dX11_figure_158 rfl rfl ?_
    refine ev_iload 161 rfl dX11_figure_159 rfl ?_
    obtain ⟨b1, H⟩ := H
    refine ev_iaload 162 rfl dX11_figure_161 ha3 b1.1 b1.2 ?_
    refine ev_sipush 165 rfl dX11_figure_162 (by decide) (by decide) ?_
    refine ev_iload 167 rfl dX11_figure_165 rfl ?_
    obtain ⟨sd, H⟩ := H
    refine ev_imul 168 rfl dX11_figure_167 sd ?_
    obtain ⟨sd, H⟩ := H
    refine ev_isub 169 rfl dX11_figure_168 sd ?_
    refine ev_iload 171 rfl dX11_figure_169 rfl ?_
    obtain ⟨sd, H⟩ := H
    refine ev_isub 172 rfl dX11_figure_171 sd ?_
    obtain ⟨x2, ex2⟩ : ∃ z : Int, z = (((h v3 v6) - (1000 * v4)) - v5) := ⟨_, rfl⟩
    rw [← ex2]
    have H := H x2 ex2
    refine ev_istore (L1 := [(2, 78), (8, -1), (8, -1), (2, v3), (0, v4), (0, v5), (0, v6), (0, x2), (8, -1), (8, -1), (8, -1)]) 174 rfl dX11_figure_172 (Nat.le_of_ble_eq_true rfl) rfl ?_
    refine ev_iload 176 rfl dX11_figure_174 rfl ?_
    refine ev_istore (L1 := [(2, 78), (8, -1), (8, -1), (2, v3), (0, v4), (0, v5), (0, v6), (0, x2), (0, v6), (8, -1), (8, -1)]) 178 rfl dX11_figure_176 (Nat.le_of_ble_eq_true rfl) rfl ?_
    exact H

set_option maxRecDepth 20000 in
theorem b_X11_figure_53 {X : qX} {d : Nat} {sh : qS} {pt h : qM} {K : qM → Prop} {v1 v2 v3 v4 v5 v6 u0 n3 : Int} (hst : St sh pt) (ha3 : qsh sh v3 = some (0, n3))
    (H : RunI X d mX11_cell [(0, v1), (0, v6)] sh pt h (fun r2 h1 => (0 ≤ r2 ∧ r2 < 3020) ∧ (0 ≤ v2) ∧ EvV X (d + 1) mX11_figure 73 [(2, 78), (0, v1), (0, v2), (2, v3), (0, v4), (0, v5), (0, v6), (0, u0), (0, (h1 107 r2)), (0, (v2 % 4)), (8, -1)] [] sh pt h1 K)) :
    EvV X (d + 1) mX11_figure 53 [(2, 78), (0, v1), (0, v2), (2, v3), (0, v4), (0, v5), (0, v6), (8, -1), (8, -1), (8, -1), (8, -1)] [(0, u0)] sh pt h K := by
  show Ev X (d + 1) 0 0 mX11_figure 53 [(2, 78), (0, v1), (0, v2), (2, v3), (0, v4), (0, v5), (0, v6), (8, -1), (8, -1), (8, -1), (8, -1)] [(0, u0)] (sh, pt, h) (qRV sh pt K)
  refine ev_istore (L1 := [(2, 78), (0, v1), (0, v2), (2, v3), (0, v4), (0, v5), (0, v6), (0, u0), (8, -1), (8, -1), (8, -1)]) 55 rfl dX11_figure_53 (Nat.le_of_ble_eq_true rfl) rfl ?_
  refine ev_aload_n 56 rfl dX11_figure_55 rfl rfl ?_
  refine ev_getR (ki := 56) (v := 107) 59 rfl dX11_figure_56 lf_11_123 (s_78 hst) (by decide) rfl (p_78_56 hst) ?_
  refine ev_iload_n 60 rfl dX11_figure_59 rfl rfl ?_
  refine ev_iload 62 rfl dX11_figure_60 rfl ?_
  refine ev_cSI (As := [(0, v1), (0, v6)]) (rest := [(2, 107)]) 65 rfl dX11_figure_62 lm_11_405 mm_X11_cell rfl rfl (Nat.le_of_ble_eq_true rfl) (Nat.le_of_ble_eq_true rfl) (Nat.le_refl _) H ?_
  intro r2 h1 H
  obtain ⟨b3, H⟩ := H
  refine ev_iaload 66 rfl dX11_figure_65 (s_107 hst) b3.1 b3.2 ?_
  refine ev_istore (L1 := [(2, 78), (0, v1), (0, v2), (2, v3), (0, v4), (0, v5), (0, v6), (0, u0), (0, (h1 107 r2)), (8, -1), (8, -1)]) 68 rfl dX11_figure_66 (Nat.le_of_ble_eq_true rfl) rfl ?_
  refine ev_iload_n 69 rfl dX11_figure_68 rfl rfl ?_
  refine ev_iconst 70 rfl dX11_figure_69 (by decide) ?_
  obtain ⟨sd, H⟩ := H
  refine ev_iremP 71 rfl dX11_figure_70 ⟨sd, by decide⟩ ?_
  refine ev_istore (L1 := [(2, 78), (0, v1), (0, v2), (2, v3), (0, v4), (0, v5), (0, v6), (0, u0), (0, (h1 107 r2)), (0, (v2 % 4)), (8, -1)]) 73 rfl dX11_figure_71 (Nat.le_of_ble_eq_true rfl) rfl ?_
  exact H

set_option maxRecDepth 20000 in
theorem b_X11_figure_178 {X : qX} {d : Nat} {sh : qS} {pt h : qM} {K : qM → Prop} {v3 v4 v5 v6 v7 v8 n3 : Int} (hst : St sh pt) (ha3 : qsh sh v3 = some (0, n3))
    (H : ((v8 ≤ 0 → (0 ≤ v8 ∧ v8 < n3) ∧ ∀ h2 : qM, h2 = qup h v3 v8 v7 → (qI (v6 + 1)) ∧ EvV X (d + 1) mX11_figure 149 [(2, 78), (8, -1), (8, -1), (2, v3), (0, v4), (0, v5), (0, (v6 + 1)), (8, -1), (8, -1), (8, -1), (8, -1)] [] sh pt h2 K) ∧ (0 < v8 → (qI (v8 - 1)) ∧ (0 ≤ (v8 - 1) ∧ (v8 - 1) < n3) ∧ (((h v3 (v8 - 1)) ≤ v7 → (0 ≤ v8 ∧ v8 < n3) ∧ ∀ h5 : qM, h5 = qup h v3 v8 v7 → (qI (v6 + 1)) ∧ EvV X (d + 1) mX11_figure 149 [(2, 78), (8, -1), (8, -1), (2, v3), (0, v4), (0, v5), (0, (v6 + 1)), (8, -1), (8, -1), (8, -1), (8, -1)] [] sh pt h5 K) ∧ (v7 < (h v3 (v8 - 1)) → (qI (v8 - 1)) ∧ (0 ≤ (v8 - 1) ∧ (v8 - 1) < n3) ∧ (0 ≤ v8 ∧ v8 < n3) ∧ ∀ h8 : qM, h8 = qup h v3 v8 (h v3 (v8 - 1)) → (qI (v8 + (-1))) ∧ EvV X (d + 1) mX11_figure 178 [(2, 78), (8, -1), (8, -1), (2, v3), (0, v4), (0, v5), (0, v6), (0, v7), (0, (v8 + (-1))), (8, -1), (8, -1)] [] sh pt h8 K))))) :
    EvV X (d + 1) mX11_figure 178 [(2, 78), (8, -1), (8, -1), (2, v3), (0, v4), (0, v5), (0, v6), (0, v7), (0, v8), (8, -1), (8, -1)] [] sh pt h K := by
  show Ev X (d + 1) 0 0 mX11_figure 178 [(2, 78), (8, -1), (8, -1), (2, v3), (0, v4), (0, v5), (0, v6), (0, v7), (0, v8), (8, -1), (8, -1)] [] (sh, pt, h) (qRV sh pt K)
  refine ev_iload 180 rfl dX11_figure_178 rfl ?_
  refine ev_if_le (tgt := 210) 183 rfl dX11_figure_180 (by decide) (fun cd => ?_) (fun cd => ?_)
  · have H := H.1 cd
    refine ev_aload_n 211 rfl dX11_figure_210 rfl rfl ?_
    refine ev_iload 213 rfl dX11_figure_211 rfl ?_
    refine ev_iload 215 rfl dX11_figure_213 rfl ?_
    obtain ⟨b1, H⟩ := H
    refine ev_iastore 216 rfl dX11_figure_215 ha3 b1.1 b1.2 ?_
    obtain ⟨h2, eh2⟩ : ∃ z : qM, z = qup h v3 v8 v7 := ⟨_, rfl⟩
    rw [← eh2]
    have H := H h2 eh2
    obtain ⟨sd, H⟩ := H
    refine ev_iinc (L1 := [(2, 78), (8, -1), (8, -1), (2, v3), (0, v4), (0, v5), (0, (v6 + 1)), (0, v7), (0, v8), (8, -1), (8, -1)]) 219 rfl dX11_figure_216 rfl sd (Nat.le_of_ble_eq_true rfl) rfl ?_
    refine ev_goto (tgt := 149) dX11_figure_219 (by decide) ?_
    refine Ev.drop [7, 8] rfl ?_
    exact H
  · have H := H.2 cd
    refine ev_aload_n 184 rfl dX11_figure_183 rfl rfl ?_
    refine ev_iload 186 rfl dX11_figure_184 rfl ?_
    refine ev_iconst 187 rfl dX11_figure_186 (by decide) ?_
    obtain ⟨sd, H⟩ := H
    refine ev_isub 188 rfl dX11_figure_187 sd ?_
    obtain ⟨b3, H⟩ := H
    refine ev_iaload 189 rfl dX11_figure_188 ha3 b3.1 b3.2 ?_
    refine ev_iload 191 rfl dX11_figure_189 rfl ?_
    refine ev_icmp_le (tgt := 210) 194 rfl dX11_figure_191 (by decide) (fun cd => ?_) (fun cd => ?_)
    · have H := H.1 cd
      refine ev_aload_n 211 rfl dX11_figure_210 rfl rfl ?_
      refine ev_iload 213 rfl dX11_figure_211 rfl ?_
      refine ev_iload 215 rfl dX11_figure_213 rfl ?_
      obtain ⟨b4, H⟩ := H
      refine ev_iastore 216 rfl dX11_figure_215 ha3 b4.1 b4.2 ?_
      obtain ⟨h5, eh5⟩ : ∃ z : qM, z = qup h v3 v8 v7 := ⟨_, rfl⟩
      rw [← eh5]
      have H := H h5 eh5
      obtain ⟨sd, H⟩ := H
      refine ev_iinc (L1 := [(2, 78), (8, -1), (8, -1), (2, v3), (0, v4), (0, v5), (0, (v6 + 1)), (0, v7), (0, v8), (8, -1), (8, -1)]) 219 rfl dX11_figure_216 rfl sd (Nat.le_of_ble_eq_true rfl) rfl ?_
      refine ev_goto (tgt := 149) dX11_figure_219 (by decide) ?_
      refine Ev.drop [7, 8] rfl ?_
      exact H
    · have H := H.2 cd
      refine ev_aload_n 195 rfl dX11_figure_194 rfl rfl ?_
      refine ev_iload 197 rfl dX11_figure_195 rfl ?_
      refine ev_aload_n 198 rfl dX11_figure_197 rfl rfl ?_
      refine ev_iload 200 rfl dX11_figure_198 rfl ?_
      refine ev_iconst 201 rfl dX11_figure_200 (by decide) ?_
      obtain ⟨sd, H⟩ := H
      refine ev_isub 202 rfl dX11_figure_201 sd ?_
      obtain ⟨b6, H⟩ := H
      refine ev_iaload 203 rfl dX11_figure_202 ha3 b6.1 b6.2 ?_
      obtain ⟨b7, H⟩ := H
      refine ev_iastore 204 rfl dX11_figure_203 ha3 b7.1 b7.2 ?_
      obtain ⟨h8, eh8⟩ : ∃ z : qM, z = qup h v3 v8 (h v3 (v8 - 1)) := ⟨_, rfl⟩
      rw [← eh8]
      have H := H h8 eh8
      obtain ⟨sd, H⟩ := H
      refine ev_iinc (L1 := [(2, 78), (8, -1), (8, -1), (2, v3), (0, v4), (0, v5), (0, v6), (0, v7), (0, (v8 + (-1))), (8, -1), (8, -1)]) 207 rfl dX11_figure_204 rfl sd (Nat.le_of_ble_eq_true rfl) rfl ?_
      refine ev_goto (tgt := 178) dX11_figure_207 (by decide) ?_
      exact H

set_option maxRecDepth 20000 in
theorem b_X11_figure_73 {X : qX} {d : Nat} {sh : qS} {pt h : qM} {K : qM → Prop} {v1 v2 v3 v4 v5 v6 v7 v8 v9 n3 : Int} (hst : St sh pt) (ha3 : qsh sh v3 = some (0, n3))
    (H : ((v9 ≤ 0 → (qI (v7 + 100)) ∧ (qI (1000 * (v7 + 100))) ∧ (qI ((1000 * (v7 + 100)) + v8)) ∧ (qI (((1000 * (v7 + 100)) + v8) + 100)) ∧ (0 ≤ v6 ∧ v6 < n3) ∧ ∀ h2 : qM, h2 = qup h v3 v6 (((1000 * (v7 + 100)) + v8) + 100) → (qI (v7 + 100)) ∧ RunI X d mJ9_min_7cf53 [(0, v4), (0, (v7 + 100))] sh pt h2 (fun r4 h3 => (qI (v8 + 100)) ∧ RunI X d mJ9_min_7cf53 [(0, v5), (0, (v8 + 100))] sh pt h3 (fun r6 h5 => (qI (v6 + 1)) ∧ EvV X (d + 1) mX11_figure 13 [(2, 78), (0, v1), (0, v2), (2, v3), (0, r4), (0, r6), (0, (v6 + 1)), (8, -1), (8, -1), (8, -1), (8, -1)] [] sh pt h5 K))) ∧ (0 < v9 → (qI (-v7)) ∧ (qI (v9 + (-1))) ∧ EvV X (d + 1) mX11_figure 73 [(2, 78), (0, v1), (0, v2), (2, v3), (0, v4), (0, v5), (0, v6), (0, v8), (0, (-v7)), (0, (v9 + (-1))), (8, -1)] [] sh pt h K))) :
    EvV X (d + 1) mX11_figure 73 [(2, 78), (0, v1), (0, v2), (2, v3), (0, v4), (0, v5), (0, v6), (0, v7), (0, v8), (0, v9), (8, -1)] [] sh pt h K := by
  show Ev X (d + 1) 0 0 mX11_figure 73 [(2, 78), (0, v1), (0, v2), (2, v3), (0, v4), (0, v5), (0, v6), (0, v7), (0, v8), (0, v9), (8, -1)] [] (sh, pt, h) (qRV sh pt K)
  refine ev_iload 75 rfl dX11_figure_73 rfl ?_
  refine ev_if_le (tgt := 97) 78 rfl dX11_figure_75 (by decide) (fun cd => ?_) (fun cd => ?_)
  · have H := H.1 cd
    refine ev_aload_n 98 rfl dX11_figure_97 rfl rfl ?_
    refine ev_iload 100 rfl dX11_figure_98 rfl ?_
    refine ev_sipush 103 rfl dX11_figure_100 (by decide) (by decide) ?_
    refine ev_iload 105 rfl dX11_figure_103 rfl ?_
    refine ev_bipush 107 rfl dX11_figure_105 (by decide) (by decide) ?_
    obtain ⟨sd, H⟩ := H
    refine ev_iadd 108 rfl dX11_figure_107 sd ?_
    obtain ⟨sd, H⟩ := H
    refine ev_imul 109 rfl dX11_figure_108 sd ?_
    refine ev_iload 111 rfl dX11_figure_109 rfl ?_
    obtain ⟨sd, H⟩ := H
    refine ev_iadd 112 rfl dX11_figure_111 sd ?_
    refine ev_bipush 114 rfl dX11_figure_112 (by decide) (by decide) ?_
    obtain ⟨sd, H⟩ := H
    refine ev_iadd 115 rfl dX11_figure_114 sd ?_
    obtain ⟨b1, H⟩ := H
    refine ev_iastore 116 rfl dX11_figure_115 ha3 b1.1 b1.2 ?_
    obtain ⟨h2, eh2⟩ : ∃ z : qM, z = qup h v3 v6 (((1000 * (v7 + 100)) + v8) + 100) := ⟨_, rfl⟩
    rw [← eh2]
    have H := H h2 eh2
    refine ev_iload 118 rfl dX11_figure_116 rfl ?_
    refine ev_iload 120 rfl dX11_figure_118 rfl ?_
    refine ev_bipush 122 rfl dX11_figure_120 (by decide) (by decide) ?_
    obtain ⟨sd, H⟩ := H
    refine ev_iadd 123 rfl dX11_figure_122 sd ?_
    refine ev_cSI (As := [(0, v4), (0, (v7 + 100))]) (rest := []) 126 rfl dX11_figure_123 lm_11_458 mm_J9_min_7cf53 rfl rfl (Nat.le_of_ble_eq_true rfl) (Nat.le_of_ble_eq_true rfl) (Nat.le_refl _) H ?_
    intro r4 h3 H
    refine ev_istore (L1 := [(2, 78), (0, v1), (0, v2), (2, v3), (0, r4), (0, v5), (0, v6), (0, v7), (0, v8), (0, v9), (8, -1)]) 128 rfl dX11_figure_126 (Nat.le_of_ble_eq_true rfl) rfl ?_
    refine ev_iload 130 rfl dX11_figure_128 rfl ?_
    refine ev_iload 132 rfl dX11_figure_130 rfl ?_
    refine ev_bipush 134 rfl dX11_figure_132 (by decide) (by decide) ?_
    obtain ⟨sd, H⟩ := H
    refine ev_iadd 135 rfl dX11_figure_134 sd ?_
    refine ev_cSI (As := [(0, v5), (0, (v8 + 100))]) (rest := []) 138 rfl dX11_figure_135 lm_11_458 mm_J9_min_7cf53 rfl rfl (Nat.le_of_ble_eq_true rfl) (Nat.le_of_ble_eq_true rfl) (Nat.le_refl _) H ?_
    intro r6 h5 H
    refine ev_istore (L1 := [(2, 78), (0, v1), (0, v2), (2, v3), (0, r4), (0, r6), (0, v6), (0, v7), (0, v8), (0, v9), (8, -1)]) 140 rfl dX11_figure_138 (Nat.le_of_ble_eq_true rfl) rfl ?_
    obtain ⟨sd, H⟩ := H
    refine ev_iinc (L1 := [(2, 78), (0, v1), (0, v2), (2, v3), (0, r4), (0, r6), (0, (v6 + 1)), (0, v7), (0, v8), (0, v9), (8, -1)]) 143 rfl dX11_figure_140 rfl sd (Nat.le_of_ble_eq_true rfl) rfl ?_
    refine ev_goto (tgt := 13) dX11_figure_143 (by decide) ?_
    refine Ev.drop [7, 8, 9] rfl ?_
    exact H
  · have H := H.2 cd
    refine ev_iload 80 rfl dX11_figure_78 rfl ?_
    refine ev_istore (L1 := [(2, 78), (0, v1), (0, v2), (2, v3), (0, v4), (0, v5), (0, v6), (0, v7), (0, v8), (0, v9), (0, v7)]) 82 rfl dX11_figure_80 (Nat.le_of_ble_eq_true rfl) rfl ?_
    refine ev_iload 84 rfl dX11_figure_82 rfl ?_
    refine ev_istore (L1 := [(2, 78), (0, v1), (0, v2), (2, v3), (0, v4), (0, v5), (0, v6), (0, v8), (0, v8), (0, v9), (0, v7)]) 86 rfl dX11_figure_84 (Nat.le_of_ble_eq_true rfl) rfl ?_
    refine ev_iload 88 rfl dX11_figure_86 rfl ?_
    obtain ⟨sd, H⟩ := H
    refine ev_ineg 89 rfl dX11_figure_88 sd ?_
    refine ev_istore (L1 := [(2, 78), (0, v1), (0, v2), (2, v3), (0, v4), (0, v5), (0, v6), (0, v8), (0, (-v7)), (0, v9), (0, v7)]) 91 rfl dX11_figure_89 (Nat.le_of_ble_eq_true rfl) rfl ?_
    obtain ⟨sd, H⟩ := H
    refine ev_iinc (L1 := [(2, 78), (0, v1), (0, v2), (2, v3), (0, v4), (0, v5), (0, v6), (0, v8), (0, (-v7)), (0, (v9 + (-1))), (0, v7)]) 94 rfl dX11_figure_91 rfl sd (Nat.le_of_ble_eq_true rfl) rfl ?_
    refine ev_goto (tgt := 73) dX11_figure_94 (by decide) ?_
    refine Ev.drop [10] rfl ?_
    exact H

set_option maxRecDepth 20000 in
theorem b_X11_like {X : qX} {d : Nat} {sh : qS} {pt h : qM} {K : Int → qM → Prop} {v1 v2 : Int} (hst : St sh pt)
    (H : ∀ h1 : qM, h1 = qup h 78 1 0 → ∀ h2 : qM, h2 = qup h1 78 0 0 → ((0 ≤ (h2 78 50) → RunI X d mX11_isCount [(2, 78), (0, v1)] sh pt h2 (fun r4 h3 => ((r4 = 0 → RunI X d mX11_refuse [(2, 78), (0, 2)] sh pt h3 (fun r6 h5 => K r6 h5)) ∧ (¬ r4 = 0 → RunI X d mX11_isCount [(2, 78), (0, v2)] sh pt h3 (fun r8 h7 => ((¬ r8 = 0 → RunV X d mX11_figure [(2, 78), (0, v2), (0, 0), (2, 114)] sh pt h7 (fun h9 => EvI X (d + 1) mX11_like 58 [(2, 78), (0, v1), (8, -1), (0, 0), (8, -1), (8, -1)] [] sh pt h9 K)) ∧ (r8 = 0 → RunI X d mX11_refuse [(2, 78), (0, 2)] sh pt h7 (fun r11 h10 => K r11 h10)))))))) ∧ ((h2 78 50) < 0 → RunI X d mX11_refuse [(2, 78), (0, 8)] sh pt h2 (fun r13 h12 => K r13 h12)))) :
    RunI X (d + 1) mX11_like [(2, 78), (0, v1), (0, v2)] sh pt h K := by
  show Ev X (d + 1) 0 0 mX11_like 0 [(2, 78), (0, v1), (0, v2), (8, -1), (8, -1), (8, -1)] [] (sh, pt, h) (qRI sh pt K)
  refine ev_aload_n 1 rfl dX11_like_0 rfl rfl ?_
  refine ev_iconst 2 rfl dX11_like_1 (by decide) ?_
  refine ev_putI (ki := 1) 5 rfl dX11_like_2 lf_11_213 (Or.inl rfl) (s_78 hst) (by decide) rfl ?_
  obtain ⟨h1, eh1⟩ : ∃ z : qM, z = qup h 78 1 0 := ⟨_, rfl⟩
  rw [← eh1]
  have H := H h1 eh1
  refine ev_aload_n 6 rfl dX11_like_5 rfl rfl ?_
  refine ev_iconst 7 rfl dX11_like_6 (by decide) ?_
  refine ev_putI (ki := 0) 10 rfl dX11_like_7 lf_11_216 (Or.inl rfl) (s_78 hst) (by decide) rfl ?_
  obtain ⟨h2, eh2⟩ : ∃ z : qM, z = qup h1 78 0 0 := ⟨_, rfl⟩
  rw [← eh2]
  have H := H h2 eh2
  refine ev_aload_n 11 rfl dX11_like_10 rfl rfl ?_
  refine ev_getI (ki := 50) 14 rfl dX11_like_11 lf_11_111 (Or.inl rfl) (s_78 hst) (by decide) rfl ?_
  refine ev_if_ge (tgt := 24) 17 rfl dX11_like_14 (by decide) (fun cd => ?_) (fun cd => ?_)
  · have H := H.1 cd
    refine ev_aload_n 25 rfl dX11_like_24 rfl rfl ?_
    refine ev_iload_n 26 rfl dX11_like_25 rfl rfl ?_
    refine ev_cVI (As := [(0, v1)]) (rest := []) 29 rfl dX11_like_26 lm_11_440 mm_X11_isCount (s_78 hst) rfl rfl (Nat.le_of_ble_eq_true rfl) (Nat.le_of_ble_eq_true rfl) (Nat.le_refl _) H ?_
    intro r4 h3 H
    refine ev_if_eq (tgt := 40) 32 rfl dX11_like_29 (by decide) (fun cd => ?_) (fun cd => ?_)
    · have H := H.1 cd
      refine ev_aload_n 41 rfl dX11_like_40 rfl rfl ?_
      refine ev_iconst 42 rfl dX11_like_41 (by decide) ?_
      refine ev_cVI (As := [(0, 2)]) (rest := []) 45 rfl dX11_like_42 lm_11_254 mm_X11_refuse (s_78 hst) rfl rfl (Nat.le_of_ble_eq_true rfl) (Nat.le_of_ble_eq_true rfl) (Nat.le_refl _) H ?_
      intro r6 h5 H
      exact ev_retI dX11_like_45 rfl H
    · have H := H.2 cd
      refine ev_aload_n 33 rfl dX11_like_32 rfl rfl ?_
      refine ev_iload_n 34 rfl dX11_like_33 rfl rfl ?_
      refine ev_cVI (As := [(0, v2)]) (rest := []) 37 rfl dX11_like_34 lm_11_440 mm_X11_isCount (s_78 hst) rfl rfl (Nat.le_of_ble_eq_true rfl) (Nat.le_of_ble_eq_true rfl) (Nat.le_refl _) H ?_
      intro r8 h7 H
      refine ev_if_ne (tgt := 46) 40 rfl dX11_like_37 (by decide) (fun cd => ?_) (fun cd => ?_)
      · have H := H.1 cd
        refine ev_aload_n 47 rfl dX11_like_46 rfl rfl ?_
        refine ev_iload_n 48 rfl dX11_like_47 rfl rfl ?_
        refine ev_iconst 49 rfl dX11_like_48 (by decide) ?_
        refine ev_aload_n 50 rfl dX11_like_49 rfl rfl ?_
        refine ev_getR (ki := 70) (v := 114) 53 rfl dX11_like_50 lf_11_144 (s_78 hst) (by decide) rfl (p_78_70 hst) ?_
        refine ev_cVV (As := [(0, v2), (0, 0), (2, 114)]) (rest := []) 56 rfl dX11_like_53 lm_11_461 mm_X11_figure (s_78 hst) rfl rfl (Nat.le_of_ble_eq_true rfl) (Nat.le_of_ble_eq_true rfl) (Nat.le_refl _) H ?_
        intro h9 H
        refine ev_iconst 57 rfl dX11_like_56 (by decide) ?_
        refine ev_istore_n (L1 := [(2, 78), (0, v1), (0, v2), (0, 0), (8, -1), (8, -1)]) 58 rfl dX11_like_57 rfl (Nat.le_of_ble_eq_true rfl) rfl ?_
        refine Ev.drop [2] rfl ?_
        exact H
      · have H := H.2 cd
        refine ev_aload_n 41 rfl dX11_like_40 rfl rfl ?_
        refine ev_iconst 42 rfl dX11_like_41 (by decide) ?_
        refine ev_cVI (As := [(0, 2)]) (rest := []) 45 rfl dX11_like_42 lm_11_254 mm_X11_refuse (s_78 hst) rfl rfl (Nat.le_of_ble_eq_true rfl) (Nat.le_of_ble_eq_true rfl) (Nat.le_refl _) H ?_
        intro r11 h10 H
        exact ev_retI dX11_like_45 rfl H
  · have H := H.2 cd
    refine ev_aload_n 18 rfl dX11_like_17 rfl rfl ?_
    refine ev_bipush 20 rfl dX11_like_18 (by decide) (by decide) ?_
    refine ev_cVI (As := [(0, 8)]) (rest := []) 23 rfl dX11_like_20 lm_11_254 mm_X11_refuse (s_78 hst) rfl rfl (Nat.le_of_ble_eq_true rfl) (Nat.le_of_ble_eq_true rfl) (Nat.le_refl _) H ?_
    intro r13 h12 H
    exact ev_retI dX11_like_23 rfl H

set_option maxRecDepth 20000 in
theorem b_X11_like_58 {X : qX} {d : Nat} {sh : qS} {pt h : qM} {K : Int → qM → Prop} {v1 v3 : Int} (hst : St sh pt)
    (H : ((8 ≤ v3 → RunI X d mX11_refuse [(2, 78), (0, 8)] sh pt h (fun r2 h1 => K r2 h1)) ∧ (v3 < 8 → RunV X d mX11_figure [(2, 78), (0, v1), (0, v3), (2, 113)] sh pt h (fun h3 => EvI X (d + 1) mX11_like 80 [(2, 78), (0, v1), (8, -1), (0, v3), (0, 1), (0, 0)] [] sh pt h3 K)))) :
    EvI X (d + 1) mX11_like 58 [(2, 78), (0, v1), (8, -1), (0, v3), (8, -1), (8, -1)] [] sh pt h K := by
  show Ev X (d + 1) 0 0 mX11_like 58 [(2, 78), (0, v1), (8, -1), (0, v3), (8, -1), (8, -1)] [] (sh, pt, h) (qRI sh pt K)
  refine ev_iload_n 59 rfl dX11_like_58 rfl rfl ?_
  refine ev_bipush 61 rfl dX11_like_59 (by decide) (by decide) ?_
  refine ev_icmp_ge (tgt := 137) 64 rfl dX11_like_61 (by decide) (fun cd => ?_) (fun cd => ?_)
  · have H := H.1 cd
    refine ev_aload_n 138 rfl dX11_like_137 rfl rfl ?_
    refine ev_bipush 140 rfl dX11_like_138 (by decide) (by decide) ?_
    refine ev_cVI (As := [(0, 8)]) (rest := []) 143 rfl dX11_like_140 lm_11_254 mm_X11_refuse (s_78 hst) rfl rfl (Nat.le_of_ble_eq_true rfl) (Nat.le_of_ble_eq_true rfl) (Nat.le_refl _) H ?_
    intro r2 h1 H
    exact ev_retI dX11_like_143 rfl H
  · have H := H.2 cd
    refine ev_aload_n 65 rfl dX11_like_64 rfl rfl ?_
    refine ev_iload_n 66 rfl dX11_like_65 rfl rfl ?_
    refine ev_iload_n 67 rfl dX11_like_66 rfl rfl ?_
    refine ev_aload_n 68 rfl dX11_like_67 rfl rfl ?_
    refine ev_getR (ki := 69) (v := 113) 71 rfl dX11_like_68 lf_11_141 (s_78 hst) (by decide) rfl (p_78_69 hst) ?_
    refine ev_cVV (As := [(0, v1), (0, v3), (2, 113)]) (rest := []) 74 rfl dX11_like_71 lm_11_461 mm_X11_figure (s_78 hst) rfl rfl (Nat.le_of_ble_eq_true rfl) (Nat.le_of_ble_eq_true rfl) (Nat.le_refl _) H ?_
    intro h3 H
    refine ev_iconst 75 rfl dX11_like_74 (by decide) ?_
    refine ev_istore (L1 := [(2, 78), (0, v1), (8, -1), (0, v3), (0, 1), (8, -1)]) 77 rfl dX11_like_75 (Nat.le_of_ble_eq_true rfl) rfl ?_
    refine ev_iconst 78 rfl dX11_like_77 (by decide) ?_
    refine ev_istore (L1 := [(2, 78), (0, v1), (8, -1), (0, v3), (0, 1), (0, 0)]) 80 rfl dX11_like_78 (Nat.le_of_ble_eq_true rfl) rfl ?_
    exact H

set_option maxRecDepth 20000 in
theorem b_X11_like_80 {X : qX} {d : Nat} {sh : qS} {pt h : qM} {K : Int → qM → Prop} {v1 v3 v4 v5 : Int} (hst : St sh pt)
    (H : (((h 78 50) ≤ v5 → ((v4 = 0 → (qI (v3 + 1)) ∧ EvI X (d + 1) mX11_like 58 [(2, 78), (0, v1), (8, -1), (0, (v3 + 1)), (8, -1), (8, -1)] [] sh pt h K) ∧ (¬ v4 = 0 → K v3 h))) ∧ (v5 < (h 78 50) → ((v4 = 0 → (qI (v5 + 1)) ∧ EvI X (d + 1) mX11_like 80 [(2, 78), (0, v1), (8, -1), (0, v3), (0, 0), (0, (v5 + 1))] [] sh pt h K) ∧ (¬ v4 = 0 → (0 ≤ v5 ∧ v5 < 20) ∧ (0 ≤ v5 ∧ v5 < 20) ∧ ((¬ (h 113 v5) = (h 114 v5) → (qI (v5 + 1)) ∧ EvI X (d + 1) mX11_like 80 [(2, 78), (0, v1), (8, -1), (0, v3), (0, 0), (0, (v5 + 1))] [] sh pt h K) ∧ ((h 113 v5) = (h 114 v5) → (qI (v5 + 1)) ∧ EvI X (d + 1) mX11_like 80 [(2, 78), (0, v1), (8, -1), (0, v3), (0, 1), (0, (v5 + 1))] [] sh pt h K))))))) :
    EvI X (d + 1) mX11_like 80 [(2, 78), (0, v1), (8, -1), (0, v3), (0, v4), (0, v5)] [] sh pt h K := by
  show Ev X (d + 1) 0 0 mX11_like 80 [(2, 78), (0, v1), (8, -1), (0, v3), (0, v4), (0, v5)] [] (sh, pt, h) (qRI sh pt K)
  refine ev_iload 82 rfl dX11_like_80 rfl ?_
  refine ev_aload_n 83 rfl dX11_like_82 rfl rfl ?_
  refine ev_getI (ki := 50) 86 rfl dX11_like_83 lf_11_111 (Or.inl rfl) (s_78 hst) (by decide) rfl ?_
  refine ev_icmp_ge (tgt := 124) 89 rfl dX11_like_86 (by decide) (fun cd => ?_) (fun cd => ?_)
  · have H := H.1 cd
    refine ev_iload 126 rfl dX11_like_124 rfl ?_
    refine ev_if_eq (tgt := 131) 129 rfl dX11_like_126 (by decide) (fun cd => ?_) (fun cd => ?_)
    · have H := H.1 cd
      obtain ⟨sd, H⟩ := H
      refine ev_iinc (L1 := [(2, 78), (0, v1), (8, -1), (0, (v3 + 1)), (0, v4), (0, v5)]) 134 rfl dX11_like_131 rfl sd (Nat.le_of_ble_eq_true rfl) rfl ?_
      refine ev_goto (tgt := 58) dX11_like_134 (by decide) ?_
      refine Ev.drop [4, 5] rfl ?_
      exact H
    · have H := H.2 cd
      refine ev_iload_n 130 rfl dX11_like_129 rfl rfl ?_
      exact ev_retI dX11_like_130 rfl H
  · have H := H.2 cd
    refine ev_iload 91 rfl dX11_like_89 rfl ?_
    refine ev_if_eq (tgt := 115) 94 rfl dX11_like_91 (by decide) (fun cd => ?_) (fun cd => ?_)
    · have H := H.1 cd
      refine ev_iconst 116 rfl dX11_like_115 (by decide) ?_
      refine ev_istore (L1 := [(2, 78), (0, v1), (8, -1), (0, v3), (0, 0), (0, v5)]) 118 rfl dX11_like_116 (Nat.le_of_ble_eq_true rfl) rfl ?_
      obtain ⟨sd, H⟩ := H
      refine ev_iinc (L1 := [(2, 78), (0, v1), (8, -1), (0, v3), (0, 0), (0, (v5 + 1))]) 121 rfl dX11_like_118 rfl sd (Nat.le_of_ble_eq_true rfl) rfl ?_
      refine ev_goto (tgt := 80) dX11_like_121 (by decide) ?_
      exact H
    · have H := H.2 cd
      refine ev_aload_n 95 rfl dX11_like_94 rfl rfl ?_
      refine ev_getR (ki := 69) (v := 113) 98 rfl dX11_like_95 lf_11_141 (s_78 hst) (by decide) rfl (p_78_69 hst) ?_
      refine ev_iload 100 rfl dX11_like_98 rfl ?_
      obtain ⟨b1, H⟩ := H
      refine ev_iaload 101 rfl dX11_like_100 (s_113 hst) b1.1 b1.2 ?_
      refine ev_aload_n 102 rfl dX11_like_101 rfl rfl ?_
      refine ev_getR (ki := 70) (v := 114) 105 rfl dX11_like_102 lf_11_144 (s_78 hst) (by decide) rfl (p_78_70 hst) ?_
      refine ev_iload 107 rfl dX11_like_105 rfl ?_
      obtain ⟨b2, H⟩ := H
      refine ev_iaload 108 rfl dX11_like_107 (s_114 hst) b2.1 b2.2 ?_
      refine ev_icmp_ne (tgt := 115) 111 rfl dX11_like_108 (by decide) (fun cd => ?_) (fun cd => ?_)
      · have H := H.1 cd
        refine ev_iconst 116 rfl dX11_like_115 (by decide) ?_
        refine ev_istore (L1 := [(2, 78), (0, v1), (8, -1), (0, v3), (0, 0), (0, v5)]) 118 rfl dX11_like_116 (Nat.le_of_ble_eq_true rfl) rfl ?_
        obtain ⟨sd, H⟩ := H
        refine ev_iinc (L1 := [(2, 78), (0, v1), (8, -1), (0, v3), (0, 0), (0, (v5 + 1))]) 121 rfl dX11_like_118 rfl sd (Nat.le_of_ble_eq_true rfl) rfl ?_
        refine ev_goto (tgt := 80) dX11_like_121 (by decide) ?_
        exact H
      · have H := H.2 cd
        refine ev_iconst 112 rfl dX11_like_111 (by decide) ?_
        refine ev_goto (tgt := 116) dX11_like_112 (by decide) ?_
        refine ev_istore (L1 := [(2, 78), (0, v1), (8, -1), (0, v3), (0, 1), (0, v5)]) 118 rfl dX11_like_116 (Nat.le_of_ble_eq_true rfl) rfl ?_
        obtain ⟨sd, H⟩ := H
        refine ev_iinc (L1 := [(2, 78), (0, v1), (8, -1), (0, v3), (0, 1), (0, (v5 + 1))]) 121 rfl dX11_like_118 rfl sd (Nat.le_of_ble_eq_true rfl) rfl ?_
        refine ev_goto (tgt := 80) dX11_like_121 (by decide) ?_
        exact H

set_option maxRecDepth 20000 in
theorem b_X11_seen {X : qX} {d : Nat} {sh : qS} {pt h : qM} {K : Int → qM → Prop} {v1 v2 v3 : Int} (hst : St sh pt)
    (H : ∀ h1 : qM, h1 = qup h 78 1 0 → ∀ h2 : qM, h2 = qup h1 78 0 0 → ((0 ≤ (h2 78 50) → RunI X d mX11_isCount [(2, 78), (0, v1)] sh pt h2 (fun r4 h3 => ((¬ r4 = 0 → RunI X d mX11_isIn [(1, v2), (1, 0), (1, 59)] sh pt h3 (fun r6 h5 => ((r6 = 0 → RunI X d mX11_refuse [(2, 78), (0, 5)] sh pt h5 (fun r8 h7 => K r8 h7)) ∧ (¬ r6 = 0 → RunI X d mX11_isIn [(1, v3), (1, 1), (1, 40)] sh pt h5 (fun r10 h9 => ((¬ r10 = 0 → EvI X (d + 1) mX11_seen 74 [(2, 78), (0, v1), (0, v2), (0, v3), (0, 0), (0, 0), (8, -1), (8, -1)] [] sh pt h9 K) ∧ (r10 = 0 → RunI X d mX11_refuse [(2, 78), (0, 5)] sh pt h9 (fun r12 h11 => K r12 h11)))))))) ∧ (r4 = 0 → RunI X d mX11_refuse [(2, 78), (0, 2)] sh pt h3 (fun r14 h13 => K r14 h13))))) ∧ ((h2 78 50) < 0 → RunI X d mX11_refuse [(2, 78), (0, 8)] sh pt h2 (fun r16 h15 => K r16 h15)))) :
    RunI X (d + 1) mX11_seen [(2, 78), (0, v1), (0, v2), (0, v3)] sh pt h K := by
  show Ev X (d + 1) 0 0 mX11_seen 0 [(2, 78), (0, v1), (0, v2), (0, v3), (8, -1), (8, -1), (8, -1), (8, -1)] [] (sh, pt, h) (qRI sh pt K)
  refine ev_aload_n 1 rfl dX11_seen_0 rfl rfl ?_
  refine ev_iconst 2 rfl dX11_seen_1 (by decide) ?_
  refine ev_putI (ki := 1) 5 rfl dX11_seen_2 lf_11_213 (Or.inl rfl) (s_78 hst) (by decide) rfl ?_
  obtain ⟨h1, eh1⟩ : ∃ z : qM, z = qup h 78 1 0 := ⟨_, rfl⟩
  rw [← eh1]
  have H := H h1 eh1
  refine ev_aload_n 6 rfl dX11_seen_5 rfl rfl ?_
  refine ev_iconst 7 rfl dX11_seen_6 (by decide) ?_
  refine ev_putI (ki := 0) 10 rfl dX11_seen_7 lf_11_216 (Or.inl rfl) (s_78 hst) (by decide) rfl ?_
  obtain ⟨h2, eh2⟩ : ∃ z : qM, z = qup h1 78 0 0 := ⟨_, rfl⟩
  rw [← eh2]
  have H := H h2 eh2
  refine ev_aload_n 11 rfl dX11_seen_10 rfl rfl ?_
  refine ev_getI (ki := 50) 14 rfl dX11_seen_11 lf_11_111 (Or.inl rfl) (s_78 hst) (by decide) rfl ?_
  refine ev_if_ge (tgt := 24) 17 rfl dX11_seen_14 (by decide) (fun cd => ?_) (fun cd => ?_)
  · have H := H.1 cd
    refine ev_aload_n 25 rfl dX11_seen_24 rfl rfl ?_
    refine ev_iload_n 26 rfl dX11_seen_25 rfl rfl ?_
    refine ev_cVI (As := [(0, v1)]) (rest := []) 29 rfl dX11_seen_26 lm_11_440 mm_X11_isCount (s_78 hst) rfl rfl (Nat.le_of_ble_eq_true rfl) (Nat.le_of_ble_eq_true rfl) (Nat.le_refl _) H ?_
    intro r4 h3 H
    refine ev_if_ne (tgt := 38) 32 rfl dX11_seen_29 (by decide) (fun cd => ?_) (fun cd => ?_)
    · have H := H.1 cd
      refine ev_iload_n 39 rfl dX11_seen_38 rfl rfl ?_
      refine ev_i2l 40 rfl dX11_seen_39 ?_
      refine ev_lconst (v := 0) 41 rfl dX11_seen_40 (by decide) (by decide) ?_
      refine ev_ldc2 44 rfl dX11_seen_41 kl_11_219 (by decide) ?_
      refine ev_cSI (As := [(1, v2), (1, 0), (1, 59)]) (rest := []) 47 rfl dX11_seen_44 lm_11_221 mm_X11_isIn rfl rfl (Nat.le_of_ble_eq_true rfl) (Nat.le_of_ble_eq_true rfl) (Nat.le_refl _) H ?_
      intro r6 h5 H
      refine ev_if_eq (tgt := 62) 50 rfl dX11_seen_47 (by decide) (fun cd => ?_) (fun cd => ?_)
      · have H := H.1 cd
        refine ev_aload_n 63 rfl dX11_seen_62 rfl rfl ?_
        refine ev_iconst 64 rfl dX11_seen_63 (by decide) ?_
        refine ev_cVI (As := [(0, 5)]) (rest := []) 67 rfl dX11_seen_64 lm_11_254 mm_X11_refuse (s_78 hst) rfl rfl (Nat.le_of_ble_eq_true rfl) (Nat.le_of_ble_eq_true rfl) (Nat.le_refl _) H ?_
        intro r8 h7 H
        exact ev_retI dX11_seen_67 rfl H
      · have H := H.2 cd
        refine ev_iload_n 51 rfl dX11_seen_50 rfl rfl ?_
        refine ev_i2l 52 rfl dX11_seen_51 ?_
        refine ev_lconst (v := 1) 53 rfl dX11_seen_52 (by decide) (by decide) ?_
        refine ev_ldc2 56 rfl dX11_seen_53 kl_11_465 (by decide) ?_
        refine ev_cSI (As := [(1, v3), (1, 1), (1, 40)]) (rest := []) 59 rfl dX11_seen_56 lm_11_221 mm_X11_isIn rfl rfl (Nat.le_of_ble_eq_true rfl) (Nat.le_of_ble_eq_true rfl) (Nat.le_refl _) H ?_
        intro r10 h9 H
        refine ev_if_ne (tgt := 68) 62 rfl dX11_seen_59 (by decide) (fun cd => ?_) (fun cd => ?_)
        · have H := H.1 cd
          refine ev_iconst 69 rfl dX11_seen_68 (by decide) ?_
          refine ev_istore (L1 := [(2, 78), (0, v1), (0, v2), (0, v3), (0, 0), (8, -1), (8, -1), (8, -1)]) 71 rfl dX11_seen_69 (Nat.le_of_ble_eq_true rfl) rfl ?_
          refine ev_iconst 72 rfl dX11_seen_71 (by decide) ?_
          refine ev_istore (L1 := [(2, 78), (0, v1), (0, v2), (0, v3), (0, 0), (0, 0), (8, -1), (8, -1)]) 74 rfl dX11_seen_72 (Nat.le_of_ble_eq_true rfl) rfl ?_
          exact H
        · have H := H.2 cd
          refine ev_aload_n 63 rfl dX11_seen_62 rfl rfl ?_
          refine ev_iconst 64 rfl dX11_seen_63 (by decide) ?_
          refine ev_cVI (As := [(0, 5)]) (rest := []) 67 rfl dX11_seen_64 lm_11_254 mm_X11_refuse (s_78 hst) rfl rfl (Nat.le_of_ble_eq_true rfl) (Nat.le_of_ble_eq_true rfl) (Nat.le_refl _) H ?_
          intro r12 h11 H
          exact ev_retI dX11_seen_67 rfl H
    · have H := H.2 cd
      refine ev_aload_n 33 rfl dX11_seen_32 rfl rfl ?_
      refine ev_iconst 34 rfl dX11_seen_33 (by decide) ?_
      refine ev_cVI (As := [(0, 2)]) (rest := []) 37 rfl dX11_seen_34 lm_11_254 mm_X11_refuse (s_78 hst) rfl rfl (Nat.le_of_ble_eq_true rfl) (Nat.le_of_ble_eq_true rfl) (Nat.le_refl _) H ?_
      intro r14 h13 H
      exact ev_retI dX11_seen_37 rfl H
  · have H := H.2 cd
    refine ev_aload_n 18 rfl dX11_seen_17 rfl rfl ?_
    refine ev_bipush 20 rfl dX11_seen_18 (by decide) (by decide) ?_
    refine ev_cVI (As := [(0, 8)]) (rest := []) 23 rfl dX11_seen_20 lm_11_254 mm_X11_refuse (s_78 hst) rfl rfl (Nat.le_of_ble_eq_true rfl) (Nat.le_of_ble_eq_true rfl) (Nat.le_refl _) H ?_
    intro r16 h15 H
    exact ev_retI dX11_seen_23 rfl H

set_option maxRecDepth 20000 in
theorem b_X11_seen_74 {X : qX} {d : Nat} {sh : qS} {pt h : qM} {K : Int → qM → Prop} {v1 v2 v3 v4 v5 : Int} (hst : St sh pt)
    (H : (((h 78 50) ≤ v5 → K v4 h) ∧ (v5 < (h 78 50) → EvI X (d + 1) mX11_seen 89 [(2, 78), (0, v1), (0, v2), (0, v3), (0, v4), (0, v5), (0, 1), (0, 0)] [] sh pt h K))) :
    EvI X (d + 1) mX11_seen 74 [(2, 78), (0, v1), (0, v2), (0, v3), (0, v4), (0, v5), (8, -1), (8, -1)] [] sh pt h K := by
  show Ev X (d + 1) 0 0 mX11_seen 74 [(2, 78), (0, v1), (0, v2), (0, v3), (0, v4), (0, v5), (8, -1), (8, -1)] [] (sh, pt, h) (qRI sh pt K)
  refine ev_iload 76 rfl dX11_seen_74 rfl ?_
  refine ev_aload_n 77 rfl dX11_seen_76 rfl rfl ?_
  refine ev_getI (ki := 50) 80 rfl dX11_seen_77 lf_11_111 (Or.inl rfl) (s_78 hst) (by decide) rfl ?_
  refine ev_icmp_ge (tgt := 151) 83 rfl dX11_seen_80 (by decide) (fun cd => ?_) (fun cd => ?_)
  · have H := H.1 cd
    refine ev_iload 153 rfl dX11_seen_151 rfl ?_
    exact ev_retI dX11_seen_153 rfl H
  · have H := H.2 cd
    refine ev_iconst 84 rfl dX11_seen_83 (by decide) ?_
    refine ev_istore (L1 := [(2, 78), (0, v1), (0, v2), (0, v3), (0, v4), (0, v5), (0, 1), (8, -1)]) 86 rfl dX11_seen_84 (Nat.le_of_ble_eq_true rfl) rfl ?_
    refine ev_iconst 87 rfl dX11_seen_86 (by decide) ?_
    refine ev_istore (L1 := [(2, 78), (0, v1), (0, v2), (0, v3), (0, v4), (0, v5), (0, 1), (0, 0)]) 89 rfl dX11_seen_87 (Nat.le_of_ble_eq_true rfl) rfl ?_
    exact H

set_option maxRecDepth 20000 in
theorem b_X11_seen_89 {X : qX} {d : Nat} {sh : qS} {pt h : qM} {K : Int → qM → Prop} {v1 v2 v3 v4 v5 v6 v7 : Int} (hst : St sh pt)
    (H : (((h 78 50) ≤ v7 → ((v6 = 0 → (qI (v4 + 0)) ∧ (qI (v5 + 1)) ∧ EvI X (d + 1) mX11_seen 74 [(2, 78), (0, v1), (0, v2), (0, v3), (0, (v4 + 0)), (0, (v5 + 1)), (8, -1), (8, -1)] [] sh pt h K) ∧ (¬ v6 = 0 → (qI (v4 + 1)) ∧ (qI (v5 + 1)) ∧ EvI X (d + 1) mX11_seen 74 [(2, 78), (0, v1), (0, v2), (0, v3), (0, (v4 + 1)), (0, (v5 + 1)), (8, -1), (8, -1)] [] sh pt h K))) ∧ (v7 < (h 78 50) → ((v6 = 0 → (qI (v7 + 1)) ∧ EvI X (d + 1) mX11_seen 89 [(2, 78), (0, v1), (0, v2), (0, v3), (0, v4), (0, v5), (0, 0), (0, (v7 + 1))] [] sh pt h K) ∧ (¬ v6 = 0 → RunI X d mX11_hides [(2, 78), (0, v1), (0, v7), (0, v5), (0, v2), (0, v3)] sh pt h (fun r2 h1 => ((¬ r2 = 0 → (qI (v7 + 1)) ∧ EvI X (d + 1) mX11_seen 89 [(2, 78), (0, v1), (0, v2), (0, v3), (0, v4), (0, v5), (0, 0), (0, (v7 + 1))] [] sh pt h1 K) ∧ (r2 = 0 → (qI (v7 + 1)) ∧ EvI X (d + 1) mX11_seen 89 [(2, 78), (0, v1), (0, v2), (0, v3), (0, v4), (0, v5), (0, 1), (0, (v7 + 1))] [] sh pt h1 K)))))))) :
    EvI X (d + 1) mX11_seen 89 [(2, 78), (0, v1), (0, v2), (0, v3), (0, v4), (0, v5), (0, v6), (0, v7)] [] sh pt h K := by
  show Ev X (d + 1) 0 0 mX11_seen 89 [(2, 78), (0, v1), (0, v2), (0, v3), (0, v4), (0, v5), (0, v6), (0, v7)] [] (sh, pt, h) (qRI sh pt K)
  refine ev_iload 91 rfl dX11_seen_89 rfl ?_
  refine ev_aload_n 92 rfl dX11_seen_91 rfl rfl ?_
  refine ev_getI (ki := 50) 95 rfl dX11_seen_92 lf_11_111 (Or.inl rfl) (s_78 hst) (by decide) rfl ?_
  refine ev_icmp_ge (tgt := 130) 98 rfl dX11_seen_95 (by decide) (fun cd => ?_) (fun cd => ?_)
  · have H := H.1 cd
    refine ev_iload 132 rfl dX11_seen_130 rfl ?_
    refine ev_iload 134 rfl dX11_seen_132 rfl ?_
    refine ev_if_eq (tgt := 141) 137 rfl dX11_seen_134 (by decide) (fun cd => ?_) (fun cd => ?_)
    · have H := H.1 cd
      refine ev_iconst 142 rfl dX11_seen_141 (by decide) ?_
      obtain ⟨sd, H⟩ := H
      refine ev_iadd 143 rfl dX11_seen_142 sd ?_
      refine ev_istore (L1 := [(2, 78), (0, v1), (0, v2), (0, v3), (0, (v4 + 0)), (0, v5), (0, v6), (0, v7)]) 145 rfl dX11_seen_143 (Nat.le_of_ble_eq_true rfl) rfl ?_
      obtain ⟨sd, H⟩ := H
      refine ev_iinc (L1 := [(2, 78), (0, v1), (0, v2), (0, v3), (0, (v4 + 0)), (0, (v5 + 1)), (0, v6), (0, v7)]) 148 rfl dX11_seen_145 rfl sd (Nat.le_of_ble_eq_true rfl) rfl ?_
      refine ev_goto (tgt := 74) dX11_seen_148 (by decide) ?_
      refine Ev.drop [6, 7] rfl ?_
      exact H
    · have H := H.2 cd
      refine ev_iconst 138 rfl dX11_seen_137 (by decide) ?_
      refine ev_goto (tgt := 142) dX11_seen_138 (by decide) ?_
      obtain ⟨sd, H⟩ := H
      refine ev_iadd 143 rfl dX11_seen_142 sd ?_
      refine ev_istore (L1 := [(2, 78), (0, v1), (0, v2), (0, v3), (0, (v4 + 1)), (0, v5), (0, v6), (0, v7)]) 145 rfl dX11_seen_143 (Nat.le_of_ble_eq_true rfl) rfl ?_
      obtain ⟨sd, H⟩ := H
      refine ev_iinc (L1 := [(2, 78), (0, v1), (0, v2), (0, v3), (0, (v4 + 1)), (0, (v5 + 1)), (0, v6), (0, v7)]) 148 rfl dX11_seen_145 rfl sd (Nat.le_of_ble_eq_true rfl) rfl ?_
      refine ev_goto (tgt := 74) dX11_seen_148 (by decide) ?_
      refine Ev.drop [6, 7] rfl ?_
      exact H
  · have H := H.2 cd
    refine ev_iload 100 rfl dX11_seen_98 rfl ?_
    refine ev_if_eq (tgt := 121) 103 rfl dX11_seen_100 (by decide) (fun cd => ?_) (fun cd => ?_)
    · have H := H.1 cd
      refine ev_iconst 122 rfl dX11_seen_121 (by decide) ?_
      refine ev_istore (L1 := [(2, 78), (0, v1), (0, v2), (0, v3), (0, v4), (0, v5), (0, 0), (0, v7)]) 124 rfl dX11_seen_122 (Nat.le_of_ble_eq_true rfl) rfl ?_
      obtain ⟨sd, H⟩ := H
      refine ev_iinc (L1 := [(2, 78), (0, v1), (0, v2), (0, v3), (0, v4), (0, v5), (0, 0), (0, (v7 + 1))]) 127 rfl dX11_seen_124 rfl sd (Nat.le_of_ble_eq_true rfl) rfl ?_
      refine ev_goto (tgt := 89) dX11_seen_127 (by decide) ?_
      exact H
    · have H := H.2 cd
      refine ev_aload_n 104 rfl dX11_seen_103 rfl rfl ?_
      refine ev_iload_n 105 rfl dX11_seen_104 rfl rfl ?_
      refine ev_iload 107 rfl dX11_seen_105 rfl ?_
      refine ev_iload 109 rfl dX11_seen_107 rfl ?_
      refine ev_iload_n 110 rfl dX11_seen_109 rfl rfl ?_
      refine ev_iload_n 111 rfl dX11_seen_110 rfl rfl ?_
      refine ev_cVI (As := [(0, v1), (0, v7), (0, v5), (0, v2), (0, v3)]) (rest := []) 114 rfl dX11_seen_111 lm_11_467 mm_X11_hides (s_78 hst) rfl rfl (Nat.le_of_ble_eq_true rfl) (Nat.le_of_ble_eq_true rfl) (Nat.le_refl _) H ?_
      intro r2 h1 H
      refine ev_if_ne (tgt := 121) 117 rfl dX11_seen_114 (by decide) (fun cd => ?_) (fun cd => ?_)
      · have H := H.1 cd
        refine ev_iconst 122 rfl dX11_seen_121 (by decide) ?_
        refine ev_istore (L1 := [(2, 78), (0, v1), (0, v2), (0, v3), (0, v4), (0, v5), (0, 0), (0, v7)]) 124 rfl dX11_seen_122 (Nat.le_of_ble_eq_true rfl) rfl ?_
        obtain ⟨sd, H⟩ := H
        refine ev_iinc (L1 := [(2, 78), (0, v1), (0, v2), (0, v3), (0, v4), (0, v5), (0, 0), (0, (v7 + 1))]) 127 rfl dX11_seen_124 rfl sd (Nat.le_of_ble_eq_true rfl) rfl ?_
        refine ev_goto (tgt := 89) dX11_seen_127 (by decide) ?_
        exact H
      · have H := H.2 cd
        refine ev_iconst 118 rfl dX11_seen_117 (by decide) ?_
        refine ev_goto (tgt := 122) dX11_seen_118 (by decide) ?_
        refine ev_istore (L1 := [(2, 78), (0, v1), (0, v2), (0, v3), (0, v4), (0, v5), (0, 1), (0, v7)]) 124 rfl dX11_seen_122 (Nat.le_of_ble_eq_true rfl) rfl ?_
        obtain ⟨sd, H⟩ := H
        refine ev_iinc (L1 := [(2, 78), (0, v1), (0, v2), (0, v3), (0, v4), (0, v5), (0, 1), (0, (v7 + 1))]) 127 rfl dX11_seen_124 rfl sd (Nat.le_of_ble_eq_true rfl) rfl ?_
        refine ev_goto (tgt := 89) dX11_seen_127 (by decide) ?_
        exact H

set_option maxRecDepth 20000 in
theorem b_X11_hides {X : qX} {d : Nat} {sh : qS} {pt h : qM} {K : Int → qM → Prop} {v1 v2 v3 v4 v5 : Int} (hst : St sh pt)
    (H : RunI X d mX11_cell [(0, v1), (0, v3)] sh pt h (fun r2 h1 => (0 ≤ r2 ∧ r2 < 3020) ∧ (qI ((h1 106 r2) - v4)) ∧ RunI X d mX11_cell [(0, v1), (0, v3)] sh pt h1 (fun r5 h4 => (0 ≤ r5 ∧ r5 < 3020) ∧ (qI ((h4 107 r5) + v5)) ∧ RunI X d mX11_cell [(0, v1), (0, v2)] sh pt h4 (fun r8 h7 => (0 ≤ r8 ∧ r8 < 3020) ∧ (qI ((h7 106 r8) - v4)) ∧ RunI X d mX11_cell [(0, v1), (0, v2)] sh pt h7 (fun r11 h10 => (0 ≤ r11 ∧ r11 < 3020) ∧ (qI ((h10 107 r11) + v5)) ∧ (qI (((h1 106 r2) - v4) * ((h10 107 r11) + v5))) ∧ (qI (((h4 107 r5) + v5) * ((h7 106 r8) - v4))) ∧ ((¬ (((h1 106 r2) - v4) * ((h10 107 r11) + v5)) = (((h4 107 r5) + v5) * ((h7 106 r8) - v4)) → K 0 h10) ∧ ((((h1 106 r2) - v4) * ((h10 107 r11) + v5)) = (((h4 107 r5) + v5) * ((h7 106 r8) - v4)) → ((((h4 107 r5) + v5) ≤ ((h10 107 r11) + v5) → K 0 h10) ∧ (((h10 107 r11) + v5) < ((h4 107 r5) + v5) → K 1 h10))))))))) :
    RunI X (d + 1) mX11_hides [(2, 78), (0, v1), (0, v2), (0, v3), (0, v4), (0, v5)] sh pt h K := by
  show Ev X (d + 1) 0 0 mX11_hides 0 [(2, 78), (0, v1), (0, v2), (0, v3), (0, v4), (0, v5), (8, -1), (8, -1), (8, -1), (8, -1)] [] (sh, pt, h) (qRI sh pt K)
  refine ev_aload_n 1 rfl dX11_hides_0 rfl rfl ?_
  refine ev_getR (ki := 55) (v := 106) 4 rfl dX11_hides_1 lf_11_120 (s_78 hst) (by decide) rfl (p_78_55 hst) ?_
  refine ev_iload_n 5 rfl dX11_hides_4 rfl rfl ?_
  refine ev_iload_n 6 rfl dX11_hides_5 rfl rfl ?_
  refine ev_cSI (As := [(0, v1), (0, v3)]) (rest := [(2, 106)]) 9 rfl dX11_hides_6 lm_11_405 mm_X11_cell rfl rfl (Nat.le_of_ble_eq_true rfl) (Nat.le_of_ble_eq_true rfl) (Nat.le_refl _) H ?_
  intro r2 h1 H
  obtain ⟨b3, H⟩ := H
  refine ev_iaload 10 rfl dX11_hides_9 (s_106 hst) b3.1 b3.2 ?_
  refine ev_iload 12 rfl dX11_hides_10 rfl ?_
  obtain ⟨sd, H⟩ := H
  refine ev_isub 13 rfl dX11_hides_12 sd ?_
  refine ev_istore (L1 := [(2, 78), (0, v1), (0, v2), (0, v3), (0, v4), (0, v5), (0, ((h1 106 r2) - v4)), (8, -1), (8, -1), (8, -1)]) 15 rfl dX11_hides_13 (Nat.le_of_ble_eq_true rfl) rfl ?_
  refine ev_aload_n 16 rfl dX11_hides_15 rfl rfl ?_
  refine ev_getR (ki := 56) (v := 107) 19 rfl dX11_hides_16 lf_11_123 (s_78 hst) (by decide) rfl (p_78_56 hst) ?_
  refine ev_iload_n 20 rfl dX11_hides_19 rfl rfl ?_
  refine ev_iload_n 21 rfl dX11_hides_20 rfl rfl ?_
  refine ev_cSI (As := [(0, v1), (0, v3)]) (rest := [(2, 107)]) 24 rfl dX11_hides_21 lm_11_405 mm_X11_cell rfl rfl (Nat.le_of_ble_eq_true rfl) (Nat.le_of_ble_eq_true rfl) (Nat.le_refl _) H ?_
  intro r5 h4 H
  obtain ⟨b6, H⟩ := H
  refine ev_iaload 25 rfl dX11_hides_24 (s_107 hst) b6.1 b6.2 ?_
  refine ev_iload 27 rfl dX11_hides_25 rfl ?_
  obtain ⟨sd, H⟩ := H
  refine ev_iadd 28 rfl dX11_hides_27 sd ?_
  refine ev_istore (L1 := [(2, 78), (0, v1), (0, v2), (0, v3), (0, v4), (0, v5), (0, ((h1 106 r2) - v4)), (0, ((h4 107 r5) + v5)), (8, -1), (8, -1)]) 30 rfl dX11_hides_28 (Nat.le_of_ble_eq_true rfl) rfl ?_
  refine ev_aload_n 31 rfl dX11_hides_30 rfl rfl ?_
  refine ev_getR (ki := 55) (v := 106) 34 rfl dX11_hides_31 lf_11_120 (s_78 hst) (by decide) rfl (p_78_55 hst) ?_
  refine ev_iload_n 35 rfl dX11_hides_34 rfl rfl ?_
  refine ev_iload_n 36 rfl dX11_hides_35 rfl rfl ?_
  refine ev_cSI (As := [(0, v1), (0, v2)]) (rest := [(2, 106)]) 39 rfl dX11_hides_36 lm_11_405 mm_X11_cell rfl rfl (Nat.le_of_ble_eq_true rfl) (Nat.le_of_ble_eq_true rfl) (Nat.le_refl _) H ?_
  intro r8 h7 H
  obtain ⟨b9, H⟩ := H
  refine ev_iaload 40 rfl dX11_hides_39 (s_106 hst) b9.1 b9.2 ?_
  refine ev_iload 42 rfl dX11_hides_40 rfl ?_
  obtain ⟨sd, H⟩ := H
  refine ev_isub 43 rfl dX11_hides_42 sd ?_
  refine ev_istore (L1 := [(2, 78), (0, v1), (0, v2), (0, v3), (0, v4), (0, v5), (0, ((h1 106 r2) - v4)), (0, ((h4 107 r5) + v5)), (0, ((h7 106 r8) - v4)), (8, -1)]) 45 rfl dX11_hides_43 (Nat.le_of_ble_eq_true rfl) rfl ?_
  refine ev_aload_n 46 rfl dX11_hides_45 rfl rfl ?_
  refine ev_getR (ki := 56) (v := 107) 49 rfl dX11_hides_46 lf_11_123 (s_78 hst) (by decide) rfl (p_78_56 hst) ?_
  refine ev_iload_n 50 rfl dX11_hides_49 rfl rfl ?_
  refine ev_iload_n 51 rfl dX11_hides_50 rfl rfl ?_
  refine ev_cSI (As := [(0, v1), (0, v2)]) (rest := [(2, 107)]) 54 rfl dX11_hides_51 lm_11_405 mm_X11_cell rfl rfl (Nat.le_of_ble_eq_true rfl) (Nat.le_of_ble_eq_true rfl) (Nat.le_refl _) H ?_
  intro r11 h10 H
  obtain ⟨b12, H⟩ := H
  refine ev_iaload 55 rfl dX11_hides_54 (s_107 hst) b12.1 b12.2 ?_
  refine ev_iload 57 rfl dX11_hides_55 rfl ?_
  obtain ⟨sd, H⟩ := H
  refine ev_iadd 58 rfl dX11_hides_57 sd ?_
  refine ev_istore (L1 := [(2, 78), (0, v1), (0, v2), (0, v3), (0, v4), (0, v5), (0, ((h1 106 r2) - v4)), (0, ((h4 107 r5) + v5)), (0, ((h7 106 r8) - v4)), (0, ((h10 107 r11) + v5))]) 60 rfl dX11_hides_58 (Nat.le_of_ble_eq_true rfl) rfl ?_
  refine ev_iload 62 rfl dX11_hides_60 rfl ?_
  refine ev_iload 64 rfl dX11_hides_62 rfl ?_
  obtain ⟨sd, H⟩ := H
  refine ev_imul 65 rfl dX11_hides_64 sd ?_
  refine ev_iload 67 rfl dX11_hides_65 rfl ?_
  refine ev_iload 69 rfl dX11_hides_67 rfl ?_
  obtain ⟨sd, H⟩ := H
  refine ev_imul 70 rfl dX11_hides_69 sd ?_
  refine ev_icmp_ne (tgt := 84) 73 rfl dX11_hides_70 (by decide) (fun cd => ?_) (fun cd => ?_)
  · have H := H.1 cd
    refine ev_iconst 85 rfl dX11_hides_84 (by decide) ?_
    exact ev_retZ dX11_hides_85 rfl (by decide) H
  · have H := H.2 cd
    refine ev_iload 75 rfl dX11_hides_73 rfl ?_
    refine ev_iload 77 rfl dX11_hides_75 rfl ?_
    refine ev_icmp_ge (tgt := 84) 80 rfl dX11_hides_77 (by decide) (fun cd => ?_) (fun cd => ?_)
    · have H := H.1 cd
      refine ev_iconst 85 rfl dX11_hides_84 (by decide) ?_
      exact ev_retZ dX11_hides_85 rfl (by decide) H
    · have H := H.2 cd
      refine ev_iconst 81 rfl dX11_hides_80 (by decide) ?_
      refine ev_goto (tgt := 85) dX11_hides_81 (by decide) ?_
      exact ev_retZ dX11_hides_85 rfl (by decide) H

set_option maxRecDepth 20000 in
theorem b_X11_wayOf {X : qX} {d : Nat} {sh : qS} {pt h : qM} {K : Int → qM → Prop} {v1 v2 : Int} (hst : St sh pt)
    (H : (0 ≤ v2 ∧ v2 < 6) ∧ (0 ≤ v1 ∧ v1 < 20) ∧ (qI ((h 115 v2) - (h 82 v1))) ∧ (0 ≤ v2 ∧ v2 < 6) ∧ (0 ≤ v1 ∧ v1 < 20) ∧ (qI ((h 116 v2) - (h 83 v1))) ∧ (qI (((h 115 v2) - (h 82 v1)) * ((h 115 v2) - (h 82 v1)))) ∧ (qI (((h 116 v2) - (h 83 v1)) * ((h 116 v2) - (h 83 v1)))) ∧ (qI ((((h 115 v2) - (h 82 v1)) * ((h 115 v2) - (h 82 v1))) + (((h 116 v2) - (h 83 v1)) * ((h 116 v2) - (h 83 v1))))) ∧ K ((((h 115 v2) - (h 82 v1)) * ((h 115 v2) - (h 82 v1))) + (((h 116 v2) - (h 83 v1)) * ((h 116 v2) - (h 83 v1)))) h) :
    RunI X d mX11_wayOf [(2, 78), (0, v1), (0, v2)] sh pt h K := by
  show Ev X d 0 0 mX11_wayOf 0 [(2, 78), (0, v1), (0, v2), (8, -1), (8, -1)] [] (sh, pt, h) (qRI sh pt K)
  refine ev_aload_n 1 rfl dX11_wayOf_0 rfl rfl ?_
  refine ev_getR (ki := 71) (v := 115) 4 rfl dX11_wayOf_1 lf_11_147 (s_78 hst) (by decide) rfl (p_78_71 hst) ?_
  refine ev_iload_n 5 rfl dX11_wayOf_4 rfl rfl ?_
  obtain ⟨b1, H⟩ := H
  refine ev_iaload 6 rfl dX11_wayOf_5 (s_115 hst) b1.1 b1.2 ?_
  refine ev_aload_n 7 rfl dX11_wayOf_6 rfl rfl ?_
  refine ev_getR (ki := 11) (v := 82) 10 rfl dX11_wayOf_7 lf_11_28 (s_78 hst) (by decide) rfl (p_78_11 hst) ?_
  refine ev_iload_n 11 rfl dX11_wayOf_10 rfl rfl ?_
  obtain ⟨b2, H⟩ := H
  refine ev_iaload 12 rfl dX11_wayOf_11 (s_82 hst) b2.1 b2.2 ?_
  obtain ⟨sd, H⟩ := H
  refine ev_isub 13 rfl dX11_wayOf_12 sd ?_
  refine ev_istore_n (L1 := [(2, 78), (0, v1), (0, v2), (0, ((h 115 v2) - (h 82 v1))), (8, -1)]) 14 rfl dX11_wayOf_13 rfl (Nat.le_of_ble_eq_true rfl) rfl ?_
  refine ev_aload_n 15 rfl dX11_wayOf_14 rfl rfl ?_
  refine ev_getR (ki := 72) (v := 116) 18 rfl dX11_wayOf_15 lf_11_150 (s_78 hst) (by decide) rfl (p_78_72 hst) ?_
  refine ev_iload_n 19 rfl dX11_wayOf_18 rfl rfl ?_
  obtain ⟨b3, H⟩ := H
  refine ev_iaload 20 rfl dX11_wayOf_19 (s_116 hst) b3.1 b3.2 ?_
  refine ev_aload_n 21 rfl dX11_wayOf_20 rfl rfl ?_
  refine ev_getR (ki := 12) (v := 83) 24 rfl dX11_wayOf_21 lf_11_31 (s_78 hst) (by decide) rfl (p_78_12 hst) ?_
  refine ev_iload_n 25 rfl dX11_wayOf_24 rfl rfl ?_
  obtain ⟨b4, H⟩ := H
  refine ev_iaload 26 rfl dX11_wayOf_25 (s_83 hst) b4.1 b4.2 ?_
  obtain ⟨sd, H⟩ := H
  refine ev_isub 27 rfl dX11_wayOf_26 sd ?_
  refine ev_istore (L1 := [(2, 78), (0, v1), (0, v2), (0, ((h 115 v2) - (h 82 v1))), (0, ((h 116 v2) - (h 83 v1)))]) 29 rfl dX11_wayOf_27 (Nat.le_of_ble_eq_true rfl) rfl ?_
  refine ev_iload_n 30 rfl dX11_wayOf_29 rfl rfl ?_
  refine ev_iload_n 31 rfl dX11_wayOf_30 rfl rfl ?_
  obtain ⟨sd, H⟩ := H
  refine ev_imul 32 rfl dX11_wayOf_31 sd ?_
  refine ev_iload 34 rfl dX11_wayOf_32 rfl ?_
  refine ev_iload 36 rfl dX11_wayOf_34 rfl ?_
  obtain ⟨sd, H⟩ := H
  refine ev_imul 37 rfl dX11_wayOf_36 sd ?_
  obtain ⟨sd, H⟩ := H
  refine ev_iadd 38 rfl dX11_wayOf_37 sd ?_
  exact ev_retI dX11_wayOf_38 rfl H

set_option maxRecDepth 20000 in
theorem b_X11_meets {X : qX} {d : Nat} {sh : qS} {pt h : qM} {K : Int → qM → Prop} {v1 v2 : Int} (hst : St sh pt)
    (H : EvI X (d + 1) mX11_meets 2 [(2, 78), (0, v1), (0, v2), (0, 0), (8, -1)] [] sh pt h K) :
    RunI X (d + 1) mX11_meets [(2, 78), (0, v1), (0, v2)] sh pt h K := by
  show Ev X (d + 1) 0 0 mX11_meets 0 [(2, 78), (0, v1), (0, v2), (8, -1), (8, -1)] [] (sh, pt, h) (qRI sh pt K)
  refine ev_iconst 1 rfl dX11_meets_0 (by decide) ?_
  refine ev_istore_n (L1 := [(2, 78), (0, v1), (0, v2), (0, 0), (8, -1)]) 2 rfl dX11_meets_1 rfl (Nat.le_of_ble_eq_true rfl) rfl ?_
  exact H

set_option maxRecDepth 20000 in
theorem b_X11_meets_2 {X : qX} {d : Nat} {sh : qS} {pt h : qM} {K : Int → qM → Prop} {v1 v2 v3 : Int} (hst : St sh pt)
    (H : ((v1 ≤ v3 → K 0 h) ∧ (v3 < v1 → (qI (v3 + 1)) ∧ EvI X (d + 1) mX11_meets 12 [(2, 78), (0, v1), (0, v2), (0, v3), (0, (v3 + 1))] [] sh pt h K))) :
    EvI X (d + 1) mX11_meets 2 [(2, 78), (0, v1), (0, v2), (0, v3), (8, -1)] [] sh pt h K := by
  show Ev X (d + 1) 0 0 mX11_meets 2 [(2, 78), (0, v1), (0, v2), (0, v3), (8, -1)] [] (sh, pt, h) (qRI sh pt K)
  refine ev_iload_n 3 rfl dX11_meets_2 rfl rfl ?_
  refine ev_iload_n 4 rfl dX11_meets_3 rfl rfl ?_
  refine ev_icmp_ge (tgt := 43) 7 rfl dX11_meets_4 (by decide) (fun cd => ?_) (fun cd => ?_)
  · have H := H.1 cd
    refine ev_iconst 44 rfl dX11_meets_43 (by decide) ?_
    exact ev_retZ dX11_meets_44 rfl (by decide) H
  · have H := H.2 cd
    refine ev_iload_n 8 rfl dX11_meets_7 rfl rfl ?_
    refine ev_iconst 9 rfl dX11_meets_8 (by decide) ?_
    obtain ⟨sd, H⟩ := H
    refine ev_iadd 10 rfl dX11_meets_9 sd ?_
    refine ev_istore (L1 := [(2, 78), (0, v1), (0, v2), (0, v3), (0, (v3 + 1))]) 12 rfl dX11_meets_10 (Nat.le_of_ble_eq_true rfl) rfl ?_
    exact H

set_option maxRecDepth 20000 in
theorem b_X11_meets_12 {X : qX} {d : Nat} {sh : qS} {pt h : qM} {K : Int → qM → Prop} {v1 v2 v3 v4 : Int} (hst : St sh pt)
    (H : ((v1 ≤ v4 → (qI (v3 + 1)) ∧ EvI X (d + 1) mX11_meets 2 [(2, 78), (0, v1), (0, v2), (0, (v3 + 1)), (8, -1)] [] sh pt h K) ∧ (v4 < v1 → RunI X d mX11_meetTwo [(2, 78), (0, v3), (0, v4), (0, v2)] sh pt h (fun r2 h1 => ((r2 = 0 → (qI (v4 + 1)) ∧ EvI X (d + 1) mX11_meets 12 [(2, 78), (0, v1), (0, v2), (0, v3), (0, (v4 + 1))] [] sh pt h1 K) ∧ (¬ r2 = 0 → K 1 h1)))))) :
    EvI X (d + 1) mX11_meets 12 [(2, 78), (0, v1), (0, v2), (0, v3), (0, v4)] [] sh pt h K := by
  show Ev X (d + 1) 0 0 mX11_meets 12 [(2, 78), (0, v1), (0, v2), (0, v3), (0, v4)] [] (sh, pt, h) (qRI sh pt K)
  refine ev_iload 14 rfl dX11_meets_12 rfl ?_
  refine ev_iload_n 15 rfl dX11_meets_14 rfl rfl ?_
  refine ev_icmp_ge (tgt := 37) 18 rfl dX11_meets_15 (by decide) (fun cd => ?_) (fun cd => ?_)
  · have H := H.1 cd
    obtain ⟨sd, H⟩ := H
    refine ev_iinc (L1 := [(2, 78), (0, v1), (0, v2), (0, (v3 + 1)), (0, v4)]) 40 rfl dX11_meets_37 rfl sd (Nat.le_of_ble_eq_true rfl) rfl ?_
    refine ev_goto (tgt := 2) dX11_meets_40 (by decide) ?_
    refine Ev.drop [4] rfl ?_
    exact H
  · have H := H.2 cd
    refine ev_aload_n 19 rfl dX11_meets_18 rfl rfl ?_
    refine ev_iload_n 20 rfl dX11_meets_19 rfl rfl ?_
    refine ev_iload 22 rfl dX11_meets_20 rfl ?_
    refine ev_iload_n 23 rfl dX11_meets_22 rfl rfl ?_
    refine ev_cVI (As := [(0, v3), (0, v4), (0, v2)]) (rest := []) 26 rfl dX11_meets_23 lm_11_471 mm_X11_meetTwo (s_78 hst) rfl rfl (Nat.le_of_ble_eq_true rfl) (Nat.le_of_ble_eq_true rfl) (Nat.le_refl _) H ?_
    intro r2 h1 H
    refine ev_if_eq (tgt := 31) 29 rfl dX11_meets_26 (by decide) (fun cd => ?_) (fun cd => ?_)
    · have H := H.1 cd
      obtain ⟨sd, H⟩ := H
      refine ev_iinc (L1 := [(2, 78), (0, v1), (0, v2), (0, v3), (0, (v4 + 1))]) 34 rfl dX11_meets_31 rfl sd (Nat.le_of_ble_eq_true rfl) rfl ?_
      refine ev_goto (tgt := 12) dX11_meets_34 (by decide) ?_
      exact H
    · have H := H.2 cd
      refine ev_iconst 30 rfl dX11_meets_29 (by decide) ?_
      exact ev_retZ dX11_meets_30 rfl (by decide) H

set_option maxRecDepth 20000 in
theorem b_X11_meetTwo {X : qX} {d : Nat} {sh : qS} {pt h : qM} {K : Int → qM → Prop} {v1 v2 v3 : Int} (hst : St sh pt)
    (H : (0 ≤ v1 ∧ v1 < 20) ∧ (0 ≤ v1 ∧ v1 < 20) ∧ (0 ≤ v2 ∧ v2 < 20) ∧ (0 ≤ v2 ∧ v2 < 20) ∧ ((¬ (h 82 v1) = (h 82 v2) → EvI X (d + 1) mX11_meetTwo 51 [(2, 78), (0, v1), (0, v2), (0, v3), (0, (h 82 v1)), (0, (h 83 v1)), (0, (h 82 v2)), (0, (h 83 v2)), (0, 1), (8, -1), (8, -1), (8, -1), (8, -1)] [] sh pt h K) ∧ ((h 82 v1) = (h 82 v2) → ((¬ (h 83 v1) = (h 83 v2) → EvI X (d + 1) mX11_meetTwo 51 [(2, 78), (0, v1), (0, v2), (0, v3), (0, (h 82 v1)), (0, (h 83 v1)), (0, (h 82 v2)), (0, (h 83 v2)), (0, 1), (8, -1), (8, -1), (8, -1), (8, -1)] [] sh pt h K) ∧ ((h 83 v1) = (h 83 v2) → K 1 h))))) :
    RunI X (d + 1) mX11_meetTwo [(2, 78), (0, v1), (0, v2), (0, v3)] sh pt h K := by
  show Ev X (d + 1) 0 0 mX11_meetTwo 0 [(2, 78), (0, v1), (0, v2), (0, v3), (8, -1), (8, -1), (8, -1), (8, -1), (8, -1), (8, -1), (8, -1), (8, -1), (8, -1)] [] (sh, pt, h) (qRI sh pt K)
  refine ev_aload_n 1 rfl dX11_meetTwo_0 rfl rfl ?_
  refine ev_getR (ki := 11) (v := 82) 4 rfl dX11_meetTwo_1 lf_11_28 (s_78 hst) (by decide) rfl (p_78_11 hst) ?_
  refine ev_iload_n 5 rfl dX11_meetTwo_4 rfl rfl ?_
  obtain ⟨b1, H⟩ := H
  refine ev_iaload 6 rfl dX11_meetTwo_5 (s_82 hst) b1.1 b1.2 ?_
  refine ev_istore (L1 := [(2, 78), (0, v1), (0, v2), (0, v3), (0, (h 82 v1)), (8, -1), (8, -1), (8, -1), (8, -1), (8, -1), (8, -1), (8, -1), (8, -1)]) 8 rfl dX11_meetTwo_6 (Nat.le_of_ble_eq_true rfl) rfl ?_
  refine ev_aload_n 9 rfl dX11_meetTwo_8 rfl rfl ?_
  refine ev_getR (ki := 12) (v := 83) 12 rfl dX11_meetTwo_9 lf_11_31 (s_78 hst) (by decide) rfl (p_78_12 hst) ?_
  refine ev_iload_n 13 rfl dX11_meetTwo_12 rfl rfl ?_
  obtain ⟨b2, H⟩ := H
  refine ev_iaload 14 rfl dX11_meetTwo_13 (s_83 hst) b2.1 b2.2 ?_
  refine ev_istore (L1 := [(2, 78), (0, v1), (0, v2), (0, v3), (0, (h 82 v1)), (0, (h 83 v1)), (8, -1), (8, -1), (8, -1), (8, -1), (8, -1), (8, -1), (8, -1)]) 16 rfl dX11_meetTwo_14 (Nat.le_of_ble_eq_true rfl) rfl ?_
  refine ev_aload_n 17 rfl dX11_meetTwo_16 rfl rfl ?_
  refine ev_getR (ki := 11) (v := 82) 20 rfl dX11_meetTwo_17 lf_11_28 (s_78 hst) (by decide) rfl (p_78_11 hst) ?_
  refine ev_iload_n 21 rfl dX11_meetTwo_20 rfl rfl ?_
  obtain ⟨b3, H⟩ := H
  refine ev_iaload 22 rfl dX11_meetTwo_21 (s_82 hst) b3.1 b3.2 ?_
  refine ev_istore (L1 := [(2, 78), (0, v1), (0, v2), (0, v3), (0, (h 82 v1)), (0, (h 83 v1)), (0, (h 82 v2)), (8, -1), (8, -1), (8, -1), (8, -1), (8, -1), (8, -1)]) 24 rfl dX11_meetTwo_22 (Nat.le_of_ble_eq_true rfl) rfl ?_
  refine ev_aload_n 25 rfl dX11_meetTwo_24 rfl rfl ?_
  refine ev_getR (ki := 12) (v := 83) 28 rfl dX11_meetTwo_25 lf_11_31 (s_78 hst) (by decide) rfl (p_78_12 hst) ?_
  refine ev_iload_n 29 rfl dX11_meetTwo_28 rfl rfl ?_
  obtain ⟨b4, H⟩ := H
  refine ev_iaload 30 rfl dX11_meetTwo_29 (s_83 hst) b4.1 b4.2 ?_
  refine ev_istore (L1 := [(2, 78), (0, v1), (0, v2), (0, v3), (0, (h 82 v1)), (0, (h 83 v1)), (0, (h 82 v2)), (0, (h 83 v2)), (8, -1), (8, -1), (8, -1), (8, -1), (8, -1)]) 32 rfl dX11_meetTwo_30 (Nat.le_of_ble_eq_true rfl) rfl ?_
  refine ev_iload 34 rfl dX11_meetTwo_32 rfl ?_
  refine ev_iload 36 rfl dX11_meetTwo_34 rfl ?_
  refine ev_icmp_ne (tgt := 48) 39 rfl dX11_meetTwo_36 (by decide) (fun cd => ?_) (fun cd => ?_)
  · have H := H.1 cd
    refine ev_iconst 49 rfl dX11_meetTwo_48 (by decide) ?_
    refine ev_istore (L1 := [(2, 78), (0, v1), (0, v2), (0, v3), (0, (h 82 v1)), (0, (h 83 v1)), (0, (h 82 v2)), (0, (h 83 v2)), (0, 1), (8, -1), (8, -1), (8, -1), (8, -1)]) 51 rfl dX11_meetTwo_49 (Nat.le_of_ble_eq_true rfl) rfl ?_
    exact H
  · have H := H.2 cd
    refine ev_iload 41 rfl dX11_meetTwo_39 rfl ?_
    refine ev_iload 43 rfl dX11_meetTwo_41 rfl ?_
    refine ev_icmp_ne (tgt := 48) 46 rfl dX11_meetTwo_43 (by decide) (fun cd => ?_) (fun cd => ?_)
    · have H := H.1 cd
      refine ev_iconst 49 rfl dX11_meetTwo_48 (by decide) ?_
      refine ev_istore (L1 := [(2, 78), (0, v1), (0, v2), (0, v3), (0, (h 82 v1)), (0, (h 83 v1)), (0, (h 82 v2)), (0, (h 83 v2)), (0, 1), (8, -1), (8, -1), (8, -1), (8, -1)]) 51 rfl dX11_meetTwo_49 (Nat.le_of_ble_eq_true rfl) rfl ?_
      exact H
    · have H := H.2 cd
      refine ev_iconst 47 rfl dX11_meetTwo_46 (by decide) ?_
      exact ev_retZ dX11_meetTwo_47 rfl (by decide) H

set_option maxRecDepth 20000 in
theorem b_X11_meetTwo_51 {X : qX} {d : Nat} {sh : qS} {pt h : qM} {K : Int → qM → Prop} {v1 v2 v3 v4 v5 v6 v7 v8 : Int} (hst : St sh pt)
    (H : ((v3 < v8 → K 0 h) ∧ (v8 ≤ v3 → (0 ≤ v1 ∧ v1 < 20) ∧ (0 ≤ v1 ∧ v1 < 6) ∧ (0 ≤ (h 117 v1) ∧ (h 117 v1) < 6) ∧ (0 ≤ v1 ∧ v1 < 20) ∧ (qI ((h 115 (h 117 v1)) - (h 82 v1))) ∧ RunI X d mX11_between [(0, (h 82 v1)), (0, ((h 115 (h 117 v1)) - (h 82 v1))), (0, v8), (0, v3)] sh pt h (fun r6 h5 => (0 ≤ v1 ∧ v1 < 20) ∧ (0 ≤ v1 ∧ v1 < 6) ∧ (0 ≤ (h5 117 v1) ∧ (h5 117 v1) < 6) ∧ (0 ≤ v1 ∧ v1 < 20) ∧ (qI ((h5 116 (h5 117 v1)) - (h5 83 v1))) ∧ RunI X d mX11_between [(0, (h5 83 v1)), (0, ((h5 116 (h5 117 v1)) - (h5 83 v1))), (0, v8), (0, v3)] sh pt h5 (fun r12 h11 => (0 ≤ v2 ∧ v2 < 20) ∧ (0 ≤ v2 ∧ v2 < 6) ∧ (0 ≤ (h11 117 v2) ∧ (h11 117 v2) < 6) ∧ (0 ≤ v2 ∧ v2 < 20) ∧ (qI ((h11 115 (h11 117 v2)) - (h11 82 v2))) ∧ RunI X d mX11_between [(0, (h11 82 v2)), (0, ((h11 115 (h11 117 v2)) - (h11 82 v2))), (0, v8), (0, v3)] sh pt h11 (fun r18 h17 => (0 ≤ v2 ∧ v2 < 20) ∧ (0 ≤ v2 ∧ v2 < 6) ∧ (0 ≤ (h17 117 v2) ∧ (h17 117 v2) < 6) ∧ (0 ≤ v2 ∧ v2 < 20) ∧ (qI ((h17 116 (h17 117 v2)) - (h17 83 v2))) ∧ RunI X d mX11_between [(0, (h17 83 v2)), (0, ((h17 116 (h17 117 v2)) - (h17 83 v2))), (0, v8), (0, v3)] sh pt h17 (fun r24 h23 => ((¬ r6 = r18 → EvI X (d + 1) mX11_meetTwo 199 [(2, 78), (0, v1), (0, v2), (0, v3), (0, v4), (0, v5), (0, v6), (0, v7), (0, v8), (0, r6), (0, r12), (0, r18), (0, r24)] [] sh pt h23 K) ∧ (r6 = r18 → ((r12 = r24 → K 1 h23) ∧ (¬ r12 = r24 → EvI X (d + 1) mX11_meetTwo 199 [(2, 78), (0, v1), (0, v2), (0, v3), (0, v4), (0, v5), (0, v6), (0, v7), (0, v8), (0, r6), (0, r12), (0, r18), (0, r24)] [] sh pt h23 K))))))))))) :
    EvI X (d + 1) mX11_meetTwo 51 [(2, 78), (0, v1), (0, v2), (0, v3), (0, v4), (0, v5), (0, v6), (0, v7), (0, v8), (8, -1), (8, -1), (8, -1), (8, -1)] [] sh pt h K := by
  show Ev X (d + 1) 0 0 mX11_meetTwo 51 [(2, 78), (0, v1), (0, v2), (0, v3), (0, v4), (0, v5), (0, v6), (0, v7), (0, v8), (8, -1), (8, -1), (8, -1), (8, -1)] [] (sh, pt, h) (qRI sh pt K)
  refine ev_iload 53 rfl dX11_meetTwo_51 rfl ?_
  refine ev_iload_n 54 rfl dX11_meetTwo_53 rfl rfl ?_
  refine ev_icmp_gt (tgt := 251) 57 rfl dX11_meetTwo_54 (by decide) (fun cd => ?_) (fun cd => ?_)
  · have H := H.1 cd
    refine ev_iconst 252 rfl dX11_meetTwo_251 (by decide) ?_
    exact ev_retZ dX11_meetTwo_252 rfl (by decide) H
  · have H := H.2 cd
    refine ev_aload_n 58 rfl dX11_meetTwo_57 rfl rfl ?_
    refine ev_getR (ki := 11) (v := 82) 61 rfl dX11_meetTwo_58 lf_11_28 (s_78 hst) (by decide) rfl (p_78_11 hst) ?_
    refine ev_iload_n 62 rfl dX11_meetTwo_61 rfl rfl ?_
    obtain ⟨b1, H⟩ := H
    refine ev_iaload 63 rfl dX11_meetTwo_62 (s_82 hst) b1.1 b1.2 ?_
    refine ev_aload_n 64 rfl dX11_meetTwo_63 rfl rfl ?_
    refine ev_getR (ki := 71) (v := 115) 67 rfl dX11_meetTwo_64 lf_11_147 (s_78 hst) (by decide) rfl (p_78_71 hst) ?_
    refine ev_aload_n 68 rfl dX11_meetTwo_67 rfl rfl ?_
    refine ev_getR (ki := 73) (v := 117) 71 rfl dX11_meetTwo_68 lf_11_153 (s_78 hst) (by decide) rfl (p_78_73 hst) ?_
    refine ev_iload_n 72 rfl dX11_meetTwo_71 rfl rfl ?_
    obtain ⟨b2, H⟩ := H
    refine ev_iaload 73 rfl dX11_meetTwo_72 (s_117 hst) b2.1 b2.2 ?_
    obtain ⟨b3, H⟩ := H
    refine ev_iaload 74 rfl dX11_meetTwo_73 (s_115 hst) b3.1 b3.2 ?_
    refine ev_aload_n 75 rfl dX11_meetTwo_74 rfl rfl ?_
    refine ev_getR (ki := 11) (v := 82) 78 rfl dX11_meetTwo_75 lf_11_28 (s_78 hst) (by decide) rfl (p_78_11 hst) ?_
    refine ev_iload_n 79 rfl dX11_meetTwo_78 rfl rfl ?_
    obtain ⟨b4, H⟩ := H
    refine ev_iaload 80 rfl dX11_meetTwo_79 (s_82 hst) b4.1 b4.2 ?_
    obtain ⟨sd, H⟩ := H
    refine ev_isub 81 rfl dX11_meetTwo_80 sd ?_
    refine ev_iload 83 rfl dX11_meetTwo_81 rfl ?_
    refine ev_iload_n 84 rfl dX11_meetTwo_83 rfl rfl ?_
    refine ev_cSI (As := [(0, (h 82 v1)), (0, ((h 115 (h 117 v1)) - (h 82 v1))), (0, v8), (0, v3)]) (rest := []) 87 rfl dX11_meetTwo_84 lm_11_424 mm_X11_between rfl rfl (Nat.le_of_ble_eq_true rfl) (Nat.le_of_ble_eq_true rfl) (Nat.le_refl _) H ?_
    intro r6 h5 H
    refine ev_istore (L1 := [(2, 78), (0, v1), (0, v2), (0, v3), (0, v4), (0, v5), (0, v6), (0, v7), (0, v8), (0, r6), (8, -1), (8, -1), (8, -1)]) 89 rfl dX11_meetTwo_87 (Nat.le_of_ble_eq_true rfl) rfl ?_
    refine ev_aload_n 90 rfl dX11_meetTwo_89 rfl rfl ?_
    refine ev_getR (ki := 12) (v := 83) 93 rfl dX11_meetTwo_90 lf_11_31 (s_78 hst) (by decide) rfl (p_78_12 hst) ?_
    refine ev_iload_n 94 rfl dX11_meetTwo_93 rfl rfl ?_
    obtain ⟨b7, H⟩ := H
    refine ev_iaload 95 rfl dX11_meetTwo_94 (s_83 hst) b7.1 b7.2 ?_
    refine ev_aload_n 96 rfl dX11_meetTwo_95 rfl rfl ?_
    refine ev_getR (ki := 72) (v := 116) 99 rfl dX11_meetTwo_96 lf_11_150 (s_78 hst) (by decide) rfl (p_78_72 hst) ?_
    refine ev_aload_n 100 rfl dX11_meetTwo_99 rfl rfl ?_
    refine ev_getR (ki := 73) (v := 117) 103 rfl dX11_meetTwo_100 lf_11_153 (s_78 hst) (by decide) rfl (p_78_73 hst) ?_
    refine ev_iload_n 104 rfl dX11_meetTwo_103 rfl rfl ?_
    obtain ⟨b8, H⟩ := H
    refine ev_iaload 105 rfl dX11_meetTwo_104 (s_117 hst) b8.1 b8.2 ?_
    obtain ⟨b9, H⟩ := H
    refine ev_iaload 106 rfl dX11_meetTwo_105 (s_116 hst) b9.1 b9.2 ?_
    refine ev_aload_n 107 rfl dX11_meetTwo_106 rfl rfl ?_
    refine ev_getR (ki := 12) (v := 83) 110 rfl dX11_meetTwo_107 lf_11_31 (s_78 hst) (by decide) rfl (p_78_12 hst) ?_
    refine ev_iload_n 111 rfl dX11_meetTwo_110 rfl rfl ?_
    obtain ⟨b10, H⟩ := H
    refine ev_iaload 112 rfl dX11_meetTwo_111 (s_83 hst) b10.1 b10.2 ?_
    obtain ⟨sd, H⟩ := H
    refine ev_isub 113 rfl dX11_meetTwo_112 sd ?_
    refine ev_iload 115 rfl dX11_meetTwo_113 rfl ?_
    refine ev_iload_n 116 rfl dX11_meetTwo_115 rfl rfl ?_
    refine ev_cSI (As := [(0, (h5 83 v1)), (0, ((h5 116 (h5 117 v1)) - (h5 83 v1))), (0, v8), (0, v3)]) (rest := []) 119 rfl dX11_meetTwo_116 lm_11_424 mm_X11_between rfl rfl (Nat.le_of_ble_eq_true rfl) (Nat.le_of_ble_eq_true rfl) (Nat.le_refl _) H ?_
    intro r12 h11 H
    refine ev_istore (L1 := [(2, 78), (0, v1), (0, v2), (0, v3), (0, v4), (0, v5), (0, v6), (0, v7), (0, v8), (0, r6), (0, r12), (8, -1), (8, -1)]) 121 rfl dX11_meetTwo_119 (Nat.le_of_ble_eq_true rfl) rfl ?_
    refine ev_aload_n 122 rfl dX11_meetTwo_121 rfl rfl ?_
    refine ev_getR (ki := 11) (v := 82) 125 rfl dX11_meetTwo_122 lf_11_28 (s_78 hst) (by decide) rfl (p_78_11 hst) ?_
    refine ev_iload_n 126 rfl dX11_meetTwo_125 rfl rfl ?_
    obtain ⟨b13, H⟩ := H
    refine ev_iaload 127 rfl dX11_meetTwo_126 (s_82 hst) b13.1 b13.2 ?_
    refine ev_aload_n 128 rfl dX11_meetTwo_127 rfl rfl ?_
    refine ev_getR (ki := 71) (v := 115) 131 rfl dX11_meetTwo_128 lf_11_147 (s_78 hst) (by decide) rfl (p_78_71 hst) ?_
    refine ev_aload_n 132 rfl dX11_meetTwo_131 rfl rfl ?_
    refine ev_getR (ki := 73) (v := 117) 135 rfl dX11_meetTwo_132 lf_11_153 (s_78 hst) (by decide) rfl (p_78_73 hst) ?_
    refine ev_iload_n 136 rfl dX11_meetTwo_135 rfl rfl ?_
    obtain ⟨b14, H⟩ := H
    refine ev_iaload 137 rfl dX11_meetTwo_136 (s_117 hst) b14.1 b14.2 ?_
    obtain ⟨b15, H⟩ := H
    refine ev_iaload 138 rfl dX11_meetTwo_137 (s_115 hst) b15.1 b15.2 ?_
    refine ev_aload_n 139 rfl dX11_meetTwo_138 rfl rfl ?_
    refine ev_getR (ki := 11) (v := 82) 142 rfl dX11_meetTwo_139 lf_11_28 (s_78 hst) (by decide) rfl (p_78_11 hst) ?_
    refine ev_iload_n 143 rfl dX11_meetTwo_142 rfl rfl ?_
    obtain ⟨b16, H⟩ := H
    refine ev_iaload 144 rfl dX11_meetTwo_143 (s_82 hst) b16.1 b16.2 ?_
    obtain ⟨sd, H⟩ := H
    refine ev_isub 145 rfl dX11_meetTwo_144 sd ?_
    refine ev_iload 147 rfl dX11_meetTwo_145 rfl ?_
    refine ev_iload_n 148 rfl dX11_meetTwo_147 rfl rfl ?_
    refine ev_cSI (As := [(0, (h11 82 v2)), (0, ((h11 115 (h11 117 v2)) - (h11 82 v2))), (0, v8), (0, v3)]) (rest := []) 151 rfl dX11_meetTwo_148 lm_11_424 mm_X11_between rfl rfl (Nat.le_of_ble_eq_true rfl) (Nat.le_of_ble_eq_true rfl) (Nat.le_refl _) H ?_
    intro r18 h17 H
    refine ev_istore (L1 := [(2, 78), (0, v1), (0, v2), (0, v3), (0, v4), (0, v5), (0, v6), (0, v7), (0, v8), (0, r6), (0, r12), (0, r18), (8, -1)]) 153 rfl dX11_meetTwo_151 (Nat.le_of_ble_eq_true rfl) rfl ?_
    refine ev_aload_n 154 rfl dX11_meetTwo_153 rfl rfl ?_
    refine ev_getR (ki := 12) (v := 83) 157 rfl dX11_meetTwo_154 lf_11_31 (s_78 hst) (by decide) rfl (p_78_12 hst) ?_
    refine ev_iload_n 158 rfl dX11_meetTwo_157 rfl rfl ?_
    obtain ⟨b19, H⟩ := H
    refine ev_iaload 159 rfl dX11_meetTwo_158 (s_83 hst) b19.1 b19.2 ?_
    refine ev_aload_n 160 rfl dX11_meetTwo_159 rfl rfl ?_
    refine ev_getR (ki := 72) (v := 116) 163 rfl dX11_meetTwo_160 lf_11_150 (s_78 hst) (by decide) rfl (p_78_72 hst) ?_
    refine ev_aload_n 164 rfl dX11_meetTwo_163 rfl rfl ?_
    refine ev_getR (ki := 73) (v := 117) 167 rfl dX11_meetTwo_164 lf_11_153 (s_78 hst) (by decide) rfl (p_78_73 hst) ?_
    refine ev_iload_n 168 rfl dX11_meetTwo_167 rfl rfl ?_
    obtain ⟨b20, H⟩ := H
    refine ev_iaload 169 rfl dX11_meetTwo_168 (s_117 hst) b20.1 b20.2 ?_
    obtain ⟨b21, H⟩ := H
    refine ev_iaload 170 rfl dX11_meetTwo_169 (s_116 hst) b21.1 b21.2 ?_
    refine ev_aload_n 171 rfl dX11_meetTwo_170 rfl rfl ?_
    refine ev_getR (ki := 12) (v := 83) 174 rfl dX11_meetTwo_171 lf_11_31 (s_78 hst) (by decide) rfl (p_78_12 hst) ?_
    refine ev_iload_n 175 rfl dX11_meetTwo_174 rfl rfl ?_
    obtain ⟨b22, H⟩ := H
    refine ev_iaload 176 rfl dX11_meetTwo_175 (s_83 hst) b22.1 b22.2 ?_
    obtain ⟨sd, H⟩ := H
    refine ev_isub 177 rfl dX11_meetTwo_176 sd ?_
    refine ev_iload 179 rfl dX11_meetTwo_177 rfl ?_
    refine ev_iload_n 180 rfl dX11_meetTwo_179 rfl rfl ?_
    refine ev_cSI (As := [(0, (h17 83 v2)), (0, ((h17 116 (h17 117 v2)) - (h17 83 v2))), (0, v8), (0, v3)]) (rest := []) 183 rfl dX11_meetTwo_180 lm_11_424 mm_X11_between rfl rfl (Nat.le_of_ble_eq_true rfl) (Nat.le_of_ble_eq_true rfl) (Nat.le_refl _) H ?_
    intro r24 h23 H
    refine ev_istore (L1 := [(2, 78), (0, v1), (0, v2), (0, v3), (0, v4), (0, v5), (0, v6), (0, v7), (0, v8), (0, r6), (0, r12), (0, r18), (0, r24)]) 185 rfl dX11_meetTwo_183 (Nat.le_of_ble_eq_true rfl) rfl ?_
    refine ev_iload 187 rfl dX11_meetTwo_185 rfl ?_
    refine ev_iload 189 rfl dX11_meetTwo_187 rfl ?_
    refine ev_icmp_ne (tgt := 199) 192 rfl dX11_meetTwo_189 (by decide) (fun cd => ?_) (fun cd => ?_)
    · have H := H.1 cd
      exact H
    · have H := H.2 cd
      refine ev_iload 194 rfl dX11_meetTwo_192 rfl ?_
      refine ev_iload 196 rfl dX11_meetTwo_194 rfl ?_
      refine ev_icmp_eq (tgt := 227) 199 rfl dX11_meetTwo_196 (by decide) (fun cd => ?_) (fun cd => ?_)
      · have H := H.1 cd
        refine ev_iconst 228 rfl dX11_meetTwo_227 (by decide) ?_
        exact ev_retZ dX11_meetTwo_228 rfl (by decide) H
      · have H := H.2 cd
        exact H

set_option maxRecDepth 20000 in
theorem b_X11_meetTwo_199 {X : qX} {d : Nat} {sh : qS} {pt h : qM} {K : Int → qM → Prop} {v1 v2 v3 v4 v5 v6 v7 v8 v9 v10 v11 v12 : Int} (hst : St sh pt)
    (H : ((¬ v9 = v6 → (qI (v8 + 1)) ∧ EvI X (d + 1) mX11_meetTwo 51 [(2, 78), (0, v1), (0, v2), (0, v3), (0, v9), (0, v10), (0, v11), (0, v12), (0, (v8 + 1)), (8, -1), (8, -1), (8, -1), (8, -1)] [] sh pt h K) ∧ (v9 = v6 → ((¬ v10 = v7 → (qI (v8 + 1)) ∧ EvI X (d + 1) mX11_meetTwo 51 [(2, 78), (0, v1), (0, v2), (0, v3), (0, v9), (0, v10), (0, v11), (0, v12), (0, (v8 + 1)), (8, -1), (8, -1), (8, -1), (8, -1)] [] sh pt h K) ∧ (v10 = v7 → ((¬ v11 = v4 → (qI (v8 + 1)) ∧ EvI X (d + 1) mX11_meetTwo 51 [(2, 78), (0, v1), (0, v2), (0, v3), (0, v9), (0, v10), (0, v11), (0, v12), (0, (v8 + 1)), (8, -1), (8, -1), (8, -1), (8, -1)] [] sh pt h K) ∧ (v11 = v4 → ((¬ v12 = v5 → (qI (v8 + 1)) ∧ EvI X (d + 1) mX11_meetTwo 51 [(2, 78), (0, v1), (0, v2), (0, v3), (0, v9), (0, v10), (0, v11), (0, v12), (0, (v8 + 1)), (8, -1), (8, -1), (8, -1), (8, -1)] [] sh pt h K) ∧ (v12 = v5 → K 1 h))))))))) :
    EvI X (d + 1) mX11_meetTwo 199 [(2, 78), (0, v1), (0, v2), (0, v3), (0, v4), (0, v5), (0, v6), (0, v7), (0, v8), (0, v9), (0, v10), (0, v11), (0, v12)] [] sh pt h K := by
  show Ev X (d + 1) 0 0 mX11_meetTwo 199 [(2, 78), (0, v1), (0, v2), (0, v3), (0, v4), (0, v5), (0, v6), (0, v7), (0, v8), (0, v9), (0, v10), (0, v11), (0, v12)] [] (sh, pt, h) (qRI sh pt K)
  refine ev_iload 201 rfl dX11_meetTwo_199 rfl ?_
  refine ev_iload 203 rfl dX11_meetTwo_201 rfl ?_
  refine ev_icmp_ne (tgt := 229) 206 rfl dX11_meetTwo_203 (by decide) (fun cd => ?_) (fun cd => ?_)
  · have H := H.1 cd
    refine ev_iload 231 rfl dX11_meetTwo_229 rfl ?_
    refine ev_istore (L1 := [(2, 78), (0, v1), (0, v2), (0, v3), (0, v9), (0, v5), (0, v6), (0, v7), (0, v8), (0, v9), (0, v10), (0, v11), (0, v12)]) 233 rfl dX11_meetTwo_231 (Nat.le_of_ble_eq_true rfl) rfl ?_
    refine ev_iload 235 rfl dX11_meetTwo_233 rfl ?_
    refine ev_istore (L1 := [(2, 78), (0, v1), (0, v2), (0, v3), (0, v9), (0, v10), (0, v6), (0, v7), (0, v8), (0, v9), (0, v10), (0, v11), (0, v12)]) 237 rfl dX11_meetTwo_235 (Nat.le_of_ble_eq_true rfl) rfl ?_
    refine ev_iload 239 rfl dX11_meetTwo_237 rfl ?_
    refine ev_istore (L1 := [(2, 78), (0, v1), (0, v2), (0, v3), (0, v9), (0, v10), (0, v11), (0, v7), (0, v8), (0, v9), (0, v10), (0, v11), (0, v12)]) 241 rfl dX11_meetTwo_239 (Nat.le_of_ble_eq_true rfl) rfl ?_
    refine ev_iload 243 rfl dX11_meetTwo_241 rfl ?_
    refine ev_istore (L1 := [(2, 78), (0, v1), (0, v2), (0, v3), (0, v9), (0, v10), (0, v11), (0, v12), (0, v8), (0, v9), (0, v10), (0, v11), (0, v12)]) 245 rfl dX11_meetTwo_243 (Nat.le_of_ble_eq_true rfl) rfl ?_
    obtain ⟨sd, H⟩ := H
    refine ev_iinc (L1 := [(2, 78), (0, v1), (0, v2), (0, v3), (0, v9), (0, v10), (0, v11), (0, v12), (0, (v8 + 1)), (0, v9), (0, v10), (0, v11), (0, v12)]) 248 rfl dX11_meetTwo_245 rfl sd (Nat.le_of_ble_eq_true rfl) rfl ?_
    refine ev_goto (tgt := 51) dX11_meetTwo_248 (by decide) ?_
    refine Ev.drop [9, 10, 11, 12] rfl ?_
    exact H
  · have H := H.2 cd
    refine ev_iload 208 rfl dX11_meetTwo_206 rfl ?_
    refine ev_iload 210 rfl dX11_meetTwo_208 rfl ?_
    refine ev_icmp_ne (tgt := 229) 213 rfl dX11_meetTwo_210 (by decide) (fun cd => ?_) (fun cd => ?_)
    · have H := H.1 cd
      refine ev_iload 231 rfl dX11_meetTwo_229 rfl ?_
      refine ev_istore (L1 := [(2, 78), (0, v1), (0, v2), (0, v3), (0, v9), (0, v5), (0, v6), (0, v7), (0, v8), (0, v9), (0, v10), (0, v11), (0, v12)]) 233 rfl dX11_meetTwo_231 (Nat.le_of_ble_eq_true rfl) rfl ?_
      refine ev_iload 235 rfl dX11_meetTwo_233 rfl ?_
      refine ev_istore (L1 := [(2, 78), (0, v1), (0, v2), (0, v3), (0, v9), (0, v10), (0, v6), (0, v7), (0, v8), (0, v9), (0, v10), (0, v11), (0, v12)]) 237 rfl dX11_meetTwo_235 (Nat.le_of_ble_eq_true rfl) rfl ?_
      refine ev_iload 239 rfl dX11_meetTwo_237 rfl ?_
      refine ev_istore (L1 := [(2, 78), (0, v1), (0, v2), (0, v3), (0, v9), (0, v10), (0, v11), (0, v7), (0, v8), (0, v9), (0, v10), (0, v11), (0, v12)]) 241 rfl dX11_meetTwo_239 (Nat.le_of_ble_eq_true rfl) rfl ?_
      refine ev_iload 243 rfl dX11_meetTwo_241 rfl ?_
      refine ev_istore (L1 := [(2, 78), (0, v1), (0, v2), (0, v3), (0, v9), (0, v10), (0, v11), (0, v12), (0, v8), (0, v9), (0, v10), (0, v11), (0, v12)]) 245 rfl dX11_meetTwo_243 (Nat.le_of_ble_eq_true rfl) rfl ?_
      obtain ⟨sd, H⟩ := H
      refine ev_iinc (L1 := [(2, 78), (0, v1), (0, v2), (0, v3), (0, v9), (0, v10), (0, v11), (0, v12), (0, (v8 + 1)), (0, v9), (0, v10), (0, v11), (0, v12)]) 248 rfl dX11_meetTwo_245 rfl sd (Nat.le_of_ble_eq_true rfl) rfl ?_
      refine ev_goto (tgt := 51) dX11_meetTwo_248 (by decide) ?_
      refine Ev.drop [9, 10, 11, 12] rfl ?_
      exact H
    · have H := H.2 cd
      refine ev_iload 215 rfl dX11_meetTwo_213 rfl ?_
      refine ev_iload 217 rfl dX11_meetTwo_215 rfl ?_
      refine ev_icmp_ne (tgt := 229) 220 rfl dX11_meetTwo_217 (by decide) (fun cd => ?_) (fun cd => ?_)
      · have H := H.1 cd
        refine ev_iload 231 rfl dX11_meetTwo_229 rfl ?_
        refine ev_istore (L1 := [(2, 78), (0, v1), (0, v2), (0, v3), (0, v9), (0, v5), (0, v6), (0, v7), (0, v8), (0, v9), (0, v10), (0, v11), (0, v12)]) 233 rfl dX11_meetTwo_231 (Nat.le_of_ble_eq_true rfl) rfl ?_
        refine ev_iload 235 rfl dX11_meetTwo_233 rfl ?_
        refine ev_istore (L1 := [(2, 78), (0, v1), (0, v2), (0, v3), (0, v9), (0, v10), (0, v6), (0, v7), (0, v8), (0, v9), (0, v10), (0, v11), (0, v12)]) 237 rfl dX11_meetTwo_235 (Nat.le_of_ble_eq_true rfl) rfl ?_
        refine ev_iload 239 rfl dX11_meetTwo_237 rfl ?_
        refine ev_istore (L1 := [(2, 78), (0, v1), (0, v2), (0, v3), (0, v9), (0, v10), (0, v11), (0, v7), (0, v8), (0, v9), (0, v10), (0, v11), (0, v12)]) 241 rfl dX11_meetTwo_239 (Nat.le_of_ble_eq_true rfl) rfl ?_
        refine ev_iload 243 rfl dX11_meetTwo_241 rfl ?_
        refine ev_istore (L1 := [(2, 78), (0, v1), (0, v2), (0, v3), (0, v9), (0, v10), (0, v11), (0, v12), (0, v8), (0, v9), (0, v10), (0, v11), (0, v12)]) 245 rfl dX11_meetTwo_243 (Nat.le_of_ble_eq_true rfl) rfl ?_
        obtain ⟨sd, H⟩ := H
        refine ev_iinc (L1 := [(2, 78), (0, v1), (0, v2), (0, v3), (0, v9), (0, v10), (0, v11), (0, v12), (0, (v8 + 1)), (0, v9), (0, v10), (0, v11), (0, v12)]) 248 rfl dX11_meetTwo_245 rfl sd (Nat.le_of_ble_eq_true rfl) rfl ?_
        refine ev_goto (tgt := 51) dX11_meetTwo_248 (by decide) ?_
        refine Ev.drop [9, 10, 11, 12] rfl ?_
        exact H
      · have H := H.2 cd
        refine ev_iload 222 rfl dX11_meetTwo_220 rfl ?_
        refine ev_iload 224 rfl dX11_meetTwo_222 rfl ?_
        refine ev_icmp_ne (tgt := 229) 227 rfl dX11_meetTwo_224 (by decide) (fun cd => ?_) (fun cd => ?_)
        · have H := H.1 cd
          refine ev_iload 231 rfl dX11_meetTwo_229 rfl ?_
          refine ev_istore (L1 := [(2, 78), (0, v1), (0, v2), (0, v3), (0, v9), (0, v5), (0, v6), (0, v7), (0, v8), (0, v9), (0, v10), (0, v11), (0, v12)]) 233 rfl dX11_meetTwo_231 (Nat.le_of_ble_eq_true rfl) rfl ?_
          refine ev_iload 235 rfl dX11_meetTwo_233 rfl ?_
          refine ev_istore (L1 := [(2, 78), (0, v1), (0, v2), (0, v3), (0, v9), (0, v10), (0, v6), (0, v7), (0, v8), (0, v9), (0, v10), (0, v11), (0, v12)]) 237 rfl dX11_meetTwo_235 (Nat.le_of_ble_eq_true rfl) rfl ?_
          refine ev_iload 239 rfl dX11_meetTwo_237 rfl ?_
          refine ev_istore (L1 := [(2, 78), (0, v1), (0, v2), (0, v3), (0, v9), (0, v10), (0, v11), (0, v7), (0, v8), (0, v9), (0, v10), (0, v11), (0, v12)]) 241 rfl dX11_meetTwo_239 (Nat.le_of_ble_eq_true rfl) rfl ?_
          refine ev_iload 243 rfl dX11_meetTwo_241 rfl ?_
          refine ev_istore (L1 := [(2, 78), (0, v1), (0, v2), (0, v3), (0, v9), (0, v10), (0, v11), (0, v12), (0, v8), (0, v9), (0, v10), (0, v11), (0, v12)]) 245 rfl dX11_meetTwo_243 (Nat.le_of_ble_eq_true rfl) rfl ?_
          obtain ⟨sd, H⟩ := H
          refine ev_iinc (L1 := [(2, 78), (0, v1), (0, v2), (0, v3), (0, v9), (0, v10), (0, v11), (0, v12), (0, (v8 + 1)), (0, v9), (0, v10), (0, v11), (0, v12)]) 248 rfl dX11_meetTwo_245 rfl sd (Nat.le_of_ble_eq_true rfl) rfl ?_
          refine ev_goto (tgt := 51) dX11_meetTwo_248 (by decide) ?_
          refine Ev.drop [9, 10, 11, 12] rfl ?_
          exact H
        · have H := H.2 cd
          refine ev_iconst 228 rfl dX11_meetTwo_227 (by decide) ?_
          exact ev_retZ dX11_meetTwo_228 rfl (by decide) H

set_option maxRecDepth 20000 in
theorem b_X11_tries {X : qX} {d : Nat} {sh : qS} {pt h : qM} {K : qM → Prop} {v1 v2 v3 v4 v5 v6 : Int} (hst : St sh pt)
    (H : ((¬ v1 = v2 → EvV X (d + 1) mX11_tries 94 [(2, 78), (0, v1), (0, v2), (0, v3), (0, v4), (0, v5), (0, v6), (0, 0)] [] sh pt h K) ∧ (v1 = v2 → (((h 78 78) < 0 → EvV X (d + 1) mX11_tries 39 [(2, 78), (8, -1), (0, v2), (0, v3), (8, -1), (0, v5), (0, v6), (8, -1)] [] sh pt h K) ∧ (0 ≤ (h 78 78) → (((h 78 78) < v5 → K h) ∧ (v5 ≤ (h 78 78) → ((¬ v5 = (h 78 78) → EvV X (d + 1) mX11_tries 39 [(2, 78), (8, -1), (0, v2), (0, v3), (8, -1), (0, v5), (0, v6), (8, -1)] [] sh pt h K) ∧ (v5 = (h 78 78) → (((h 78 79) ≤ v6 → K h) ∧ (v6 < (h 78 79) → EvV X (d + 1) mX11_tries 39 [(2, 78), (8, -1), (0, v2), (0, v3), (8, -1), (0, v5), (0, v6), (8, -1)] [] sh pt h K))))))))))) :
    RunV X (d + 1) mX11_tries [(2, 78), (0, v1), (0, v2), (0, v3), (0, v4), (0, v5), (0, v6)] sh pt h K := by
  show Ev X (d + 1) 0 0 mX11_tries 0 [(2, 78), (0, v1), (0, v2), (0, v3), (0, v4), (0, v5), (0, v6), (8, -1)] [] (sh, pt, h) (qRV sh pt K)
  refine ev_iload_n 1 rfl dX11_tries_0 rfl rfl ?_
  refine ev_iload_n 2 rfl dX11_tries_1 rfl rfl ?_
  refine ev_icmp_ne (tgt := 91) 5 rfl dX11_tries_2 (by decide) (fun cd => ?_) (fun cd => ?_)
  · have H := H.1 cd
    refine ev_iconst 92 rfl dX11_tries_91 (by decide) ?_
    refine ev_istore (L1 := [(2, 78), (0, v1), (0, v2), (0, v3), (0, v4), (0, v5), (0, v6), (0, 0)]) 94 rfl dX11_tries_92 (Nat.le_of_ble_eq_true rfl) rfl ?_
    exact H
  · have H := H.2 cd
    refine ev_aload_n 6 rfl dX11_tries_5 rfl rfl ?_
    refine ev_getI (ki := 78) 9 rfl dX11_tries_6 lf_11_474 (Or.inl rfl) (s_78 hst) (by decide) rfl ?_
    refine ev_if_lt (tgt := 39) 12 rfl dX11_tries_9 (by decide) (fun cd => ?_) (fun cd => ?_)
    · have H := H.1 cd
      refine Ev.drop [1, 4] rfl ?_
      exact H
    · have H := H.2 cd
      refine ev_iload 14 rfl dX11_tries_12 rfl ?_
      refine ev_aload_n 15 rfl dX11_tries_14 rfl rfl ?_
      refine ev_getI (ki := 78) 18 rfl dX11_tries_15 lf_11_474 (Or.inl rfl) (s_78 hst) (by decide) rfl ?_
      refine ev_icmp_gt (tgt := 48) 21 rfl dX11_tries_18 (by decide) (fun cd => ?_) (fun cd => ?_)
      · have H := H.1 cd
        exact ev_retV dX11_tries_48 rfl H
      · have H := H.2 cd
        refine ev_iload 23 rfl dX11_tries_21 rfl ?_
        refine ev_aload_n 24 rfl dX11_tries_23 rfl rfl ?_
        refine ev_getI (ki := 78) 27 rfl dX11_tries_24 lf_11_474 (Or.inl rfl) (s_78 hst) (by decide) rfl ?_
        refine ev_icmp_ne (tgt := 39) 30 rfl dX11_tries_27 (by decide) (fun cd => ?_) (fun cd => ?_)
        · have H := H.1 cd
          refine Ev.drop [1, 4] rfl ?_
          exact H
        · have H := H.2 cd
          refine ev_iload 32 rfl dX11_tries_30 rfl ?_
          refine ev_aload_n 33 rfl dX11_tries_32 rfl rfl ?_
          refine ev_getI (ki := 79) 36 rfl dX11_tries_33 lf_11_477 (Or.inl rfl) (s_78 hst) (by decide) rfl ?_
          refine ev_icmp_ge (tgt := 48) 39 rfl dX11_tries_36 (by decide) (fun cd => ?_) (fun cd => ?_)
          · have H := H.1 cd
            exact ev_retV dX11_tries_48 rfl H
          · have H := H.2 cd
            refine Ev.drop [1, 4] rfl ?_
            exact H

set_option maxRecDepth 20000 in
theorem b_X11_tries_94 {X : qX} {d : Nat} {sh : qS} {pt h : qM} {K : qM → Prop} {v1 v2 v3 v4 v5 v6 v7 : Int} (hst : St sh pt)
    (H : ((v2 ≤ v7 → K h) ∧ (v7 < v2 → ((¬ (qiand (qishr v4 v7) 1) = 1 → (0 ≤ v1 ∧ v1 < 6) ∧ ∀ h2 : qM, h2 = qup h 117 v1 v7 → (qI (v1 + 1)) ∧ RunI X d mX11_wayOf [(2, 78), (0, v1), (0, v7)] sh pt h2 (fun r4 h3 => RunI X d mJ9_max_7cf53 [(0, v5), (0, r4)] sh pt h3 (fun r6 h5 => RunI X d mX11_wayOf [(2, 78), (0, v1), (0, v7)] sh pt h5 (fun r8 h7 => (qI (v6 + r8)) ∧ RunV X d mX11_tries [(2, 78), (0, (v1 + 1)), (0, v2), (0, v3), (0, (qior v4 (qishl 1 v7))), (0, r6), (0, (v6 + r8))] sh pt h7 (fun h9 => (qI (v7 + 1)) ∧ EvV X (d + 1) mX11_tries 94 [(2, 78), (0, v1), (0, v2), (0, v3), (0, v4), (0, v5), (0, v6), (0, (v7 + 1))] [] sh pt h9 K))))) ∧ ((qiand (qishr v4 v7) 1) = 1 → (qI (v7 + 1)) ∧ EvV X (d + 1) mX11_tries 94 [(2, 78), (0, v1), (0, v2), (0, v3), (0, v4), (0, v5), (0, v6), (0, (v7 + 1))] [] sh pt h K))))) :
    EvV X (d + 1) mX11_tries 94 [(2, 78), (0, v1), (0, v2), (0, v3), (0, v4), (0, v5), (0, v6), (0, v7)] [] sh pt h K := by
  show Ev X (d + 1) 0 0 mX11_tries 94 [(2, 78), (0, v1), (0, v2), (0, v3), (0, v4), (0, v5), (0, v6), (0, v7)] [] (sh, pt, h) (qRV sh pt K)
  refine ev_iload 96 rfl dX11_tries_94 rfl ?_
  refine ev_iload_n 97 rfl dX11_tries_96 rfl rfl ?_
  refine ev_icmp_ge (tgt := 166) 100 rfl dX11_tries_97 (by decide) (fun cd => ?_) (fun cd => ?_)
  · have H := H.1 cd
    exact ev_retV dX11_tries_166 rfl H
  · have H := H.2 cd
    refine ev_iload 102 rfl dX11_tries_100 rfl ?_
    refine ev_iload 104 rfl dX11_tries_102 rfl ?_
    refine ev_ishr 105 rfl dX11_tries_104 ?_
    refine ev_iconst 106 rfl dX11_tries_105 (by decide) ?_
    refine ev_iand 107 rfl dX11_tries_106 ?_
    refine ev_iconst 108 rfl dX11_tries_107 (by decide) ?_
    refine ev_icmp_ne (tgt := 114) 111 rfl dX11_tries_108 (by decide) (fun cd => ?_) (fun cd => ?_)
    · have H := H.1 cd
      refine ev_aload_n 115 rfl dX11_tries_114 rfl rfl ?_
      refine ev_getR (ki := 73) (v := 117) 118 rfl dX11_tries_115 lf_11_153 (s_78 hst) (by decide) rfl (p_78_73 hst) ?_
      refine ev_iload_n 119 rfl dX11_tries_118 rfl rfl ?_
      refine ev_iload 121 rfl dX11_tries_119 rfl ?_
      obtain ⟨b1, H⟩ := H
      refine ev_iastore 122 rfl dX11_tries_121 (s_117 hst) b1.1 b1.2 ?_
      obtain ⟨h2, eh2⟩ : ∃ z : qM, z = qup h 117 v1 v7 := ⟨_, rfl⟩
      rw [← eh2]
      have H := H h2 eh2
      refine ev_aload_n 123 rfl dX11_tries_122 rfl rfl ?_
      refine ev_iload_n 124 rfl dX11_tries_123 rfl rfl ?_
      refine ev_iconst 125 rfl dX11_tries_124 (by decide) ?_
      obtain ⟨sd, H⟩ := H
      refine ev_iadd 126 rfl dX11_tries_125 sd ?_
      refine ev_iload_n 127 rfl dX11_tries_126 rfl rfl ?_
      refine ev_iload_n 128 rfl dX11_tries_127 rfl rfl ?_
      refine ev_iload 130 rfl dX11_tries_128 rfl ?_
      refine ev_iconst 131 rfl dX11_tries_130 (by decide) ?_
      refine ev_iload 133 rfl dX11_tries_131 rfl ?_
      refine ev_ishl 134 rfl dX11_tries_133 ?_
      refine ev_ior 135 rfl dX11_tries_134 ?_
      refine ev_iload 137 rfl dX11_tries_135 rfl ?_
      refine ev_aload_n 138 rfl dX11_tries_137 rfl rfl ?_
      refine ev_iload_n 139 rfl dX11_tries_138 rfl rfl ?_
      refine ev_iload 141 rfl dX11_tries_139 rfl ?_
      refine ev_cVI (As := [(0, v1), (0, v7)]) (rest := [(0, v5), (0, (qior v4 (qishl 1 v7))), (0, v3), (0, v2), (0, (v1 + 1)), (2, 78)]) 144 rfl dX11_tries_141 lm_11_483 mm_X11_wayOf (s_78 hst) rfl rfl (Nat.le_of_ble_eq_true rfl) (Nat.le_of_ble_eq_true rfl) (Nat.le_refl _) H ?_
      intro r4 h3 H
      refine ev_cSI (As := [(0, v5), (0, r4)]) (rest := [(0, (qior v4 (qishl 1 v7))), (0, v3), (0, v2), (0, (v1 + 1)), (2, 78)]) 147 rfl dX11_tries_144 lm_11_431 mm_J9_max_7cf53 rfl rfl (Nat.le_of_ble_eq_true rfl) (Nat.le_of_ble_eq_true rfl) (Nat.le_refl _) H ?_
      intro r6 h5 H
      refine ev_iload 149 rfl dX11_tries_147 rfl ?_
      refine ev_aload_n 150 rfl dX11_tries_149 rfl rfl ?_
      refine ev_iload_n 151 rfl dX11_tries_150 rfl rfl ?_
      refine ev_iload 153 rfl dX11_tries_151 rfl ?_
      refine ev_cVI (As := [(0, v1), (0, v7)]) (rest := [(0, v6), (0, r6), (0, (qior v4 (qishl 1 v7))), (0, v3), (0, v2), (0, (v1 + 1)), (2, 78)]) 156 rfl dX11_tries_153 lm_11_483 mm_X11_wayOf (s_78 hst) rfl rfl (Nat.le_of_ble_eq_true rfl) (Nat.le_of_ble_eq_true rfl) (Nat.le_refl _) H ?_
      intro r8 h7 H
      obtain ⟨sd, H⟩ := H
      refine ev_iadd 157 rfl dX11_tries_156 sd ?_
      refine ev_cVV (As := [(0, (v1 + 1)), (0, v2), (0, v3), (0, (qior v4 (qishl 1 v7))), (0, r6), (0, (v6 + r8))]) (rest := []) 160 rfl dX11_tries_157 lm_11_486 mm_X11_tries (s_78 hst) rfl rfl (Nat.le_of_ble_eq_true rfl) (Nat.le_of_ble_eq_true rfl) (Nat.le_refl _) H ?_
      intro h9 H
      obtain ⟨sd, H⟩ := H
      refine ev_iinc (L1 := [(2, 78), (0, v1), (0, v2), (0, v3), (0, v4), (0, v5), (0, v6), (0, (v7 + 1))]) 163 rfl dX11_tries_160 rfl sd (Nat.le_of_ble_eq_true rfl) rfl ?_
      refine ev_goto (tgt := 94) dX11_tries_163 (by decide) ?_
      exact H
    · have H := H.2 cd
      refine ev_goto (tgt := 160) dX11_tries_111 (by decide) ?_
      obtain ⟨sd, H⟩ := H
      refine ev_iinc (L1 := [(2, 78), (0, v1), (0, v2), (0, v3), (0, v4), (0, v5), (0, v6), (0, (v7 + 1))]) 163 rfl dX11_tries_160 rfl sd (Nat.le_of_ble_eq_true rfl) rfl ?_
      refine ev_goto (tgt := 94) dX11_tries_163 (by decide) ?_
      exact H

set_option maxRecDepth 20000 in
theorem b_X11_tries_39 {X : qX} {d : Nat} {sh : qS} {pt h : qM} {K : qM → Prop} {v2 v3 v5 v6 : Int} (hst : St sh pt)
    (H : RunI X d mX11_meets [(2, 78), (0, v2), (0, v3)] sh pt h (fun r2 h1 => ((r2 = 0 → ∀ h3 : qM, h3 = qup h1 78 78 v5 → ∀ h4 : qM, h4 = qup h3 78 79 v6 → EvV X (d + 1) mX11_tries 64 [(2, 78), (8, -1), (0, v2), (8, -1), (8, -1), (8, -1), (8, -1), (0, 0)] [] sh pt h4 K) ∧ (¬ r2 = 0 → K h1)))) :
    EvV X (d + 1) mX11_tries 39 [(2, 78), (8, -1), (0, v2), (0, v3), (8, -1), (0, v5), (0, v6), (8, -1)] [] sh pt h K := by
  show Ev X (d + 1) 0 0 mX11_tries 39 [(2, 78), (8, -1), (0, v2), (0, v3), (8, -1), (0, v5), (0, v6), (8, -1)] [] (sh, pt, h) (qRV sh pt K)
  refine ev_aload_n 40 rfl dX11_tries_39 rfl rfl ?_
  refine ev_iload_n 41 rfl dX11_tries_40 rfl rfl ?_
  refine ev_iload_n 42 rfl dX11_tries_41 rfl rfl ?_
  refine ev_cVI (As := [(0, v2), (0, v3)]) (rest := []) 45 rfl dX11_tries_42 lm_11_480 mm_X11_meets (s_78 hst) rfl rfl (Nat.le_of_ble_eq_true rfl) (Nat.le_of_ble_eq_true rfl) (Nat.le_refl _) H ?_
  intro r2 h1 H
  refine ev_if_eq (tgt := 49) 48 rfl dX11_tries_45 (by decide) (fun cd => ?_) (fun cd => ?_)
  · have H := H.1 cd
    refine ev_aload_n 50 rfl dX11_tries_49 rfl rfl ?_
    refine ev_iload 52 rfl dX11_tries_50 rfl ?_
    refine ev_putI (ki := 78) 55 rfl dX11_tries_52 lf_11_474 (Or.inl rfl) (s_78 hst) (by decide) rfl ?_
    obtain ⟨h3, eh3⟩ : ∃ z : qM, z = qup h1 78 78 v5 := ⟨_, rfl⟩
    rw [← eh3]
    have H := H h3 eh3
    refine ev_aload_n 56 rfl dX11_tries_55 rfl rfl ?_
    refine ev_iload 58 rfl dX11_tries_56 rfl ?_
    refine ev_putI (ki := 79) 61 rfl dX11_tries_58 lf_11_477 (Or.inl rfl) (s_78 hst) (by decide) rfl ?_
    obtain ⟨h4, eh4⟩ : ∃ z : qM, z = qup h3 78 79 v6 := ⟨_, rfl⟩
    rw [← eh4]
    have H := H h4 eh4
    refine ev_iconst 62 rfl dX11_tries_61 (by decide) ?_
    refine ev_istore (L1 := [(2, 78), (8, -1), (0, v2), (0, v3), (8, -1), (0, v5), (0, v6), (0, 0)]) 64 rfl dX11_tries_62 (Nat.le_of_ble_eq_true rfl) rfl ?_
    refine Ev.drop [3, 5, 6] rfl ?_
    exact H
  · have H := H.2 cd
    exact ev_retV dX11_tries_48 rfl H

set_option maxRecDepth 20000 in
theorem b_X11_tries_64 {X : qX} {d : Nat} {sh : qS} {pt h : qM} {K : qM → Prop} {v2 v7 : Int} (hst : St sh pt)
    (H : ((v2 ≤ v7 → K h) ∧ (v7 < v2 → (0 ≤ v7 ∧ v7 < 6) ∧ (0 ≤ v7 ∧ v7 < 6) ∧ ∀ h3 : qM, h3 = qup h 118 v7 (h 117 v7) → (qI (v7 + 1)) ∧ EvV X (d + 1) mX11_tries 64 [(2, 78), (8, -1), (0, v2), (8, -1), (8, -1), (8, -1), (8, -1), (0, (v7 + 1))] [] sh pt h3 K))) :
    EvV X (d + 1) mX11_tries 64 [(2, 78), (8, -1), (0, v2), (8, -1), (8, -1), (8, -1), (8, -1), (0, v7)] [] sh pt h K := by
  show Ev X (d + 1) 0 0 mX11_tries 64 [(2, 78), (8, -1), (0, v2), (8, -1), (8, -1), (8, -1), (8, -1), (0, v7)] [] (sh, pt, h) (qRV sh pt K)
  refine ev_iload 66 rfl dX11_tries_64 rfl ?_
  refine ev_iload_n 67 rfl dX11_tries_66 rfl rfl ?_
  refine ev_icmp_ge (tgt := 90) 70 rfl dX11_tries_67 (by decide) (fun cd => ?_) (fun cd => ?_)
  · have H := H.1 cd
    exact ev_retV dX11_tries_90 rfl H
  · have H := H.2 cd
    refine ev_aload_n 71 rfl dX11_tries_70 rfl rfl ?_
    refine ev_getR (ki := 74) (v := 118) 74 rfl dX11_tries_71 lf_11_156 (s_78 hst) (by decide) rfl (p_78_74 hst) ?_
    refine ev_iload 76 rfl dX11_tries_74 rfl ?_
    refine ev_aload_n 77 rfl dX11_tries_76 rfl rfl ?_
    refine ev_getR (ki := 73) (v := 117) 80 rfl dX11_tries_77 lf_11_153 (s_78 hst) (by decide) rfl (p_78_73 hst) ?_
    refine ev_iload 82 rfl dX11_tries_80 rfl ?_
    obtain ⟨b1, H⟩ := H
    refine ev_iaload 83 rfl dX11_tries_82 (s_117 hst) b1.1 b1.2 ?_
    obtain ⟨b2, H⟩ := H
    refine ev_iastore 84 rfl dX11_tries_83 (s_118 hst) b2.1 b2.2 ?_
    obtain ⟨h3, eh3⟩ : ∃ z : qM, z = qup h 118 v7 (h 117 v7) := ⟨_, rfl⟩
    rw [← eh3]
    have H := H h3 eh3
    obtain ⟨sd, H⟩ := H
    refine ev_iinc (L1 := [(2, 78), (8, -1), (0, v2), (8, -1), (8, -1), (8, -1), (8, -1), (0, (v7 + 1))]) 87 rfl dX11_tries_84 rfl sd (Nat.le_of_ble_eq_true rfl) rfl ?_
    refine ev_goto (tgt := 64) dX11_tries_87 (by decide) ?_
    exact H

set_option maxRecDepth 20000 in
theorem b_X11_goes_ {X : qX} {d : Nat} {sh : qS} {pt h : qM} {K : Int → qM → Prop} {v1 v2 v3 : Int} (hst : St sh pt)
    (H : ∀ h1 : qM, h1 = qup h 78 1 0 → RunI X d mX11_trayed [(2, 78), (0, v1)] sh pt h1 (fun r3 h2 => ∀ h4 : qM, h4 = qup h2 78 0 r3 → (((h4 78 0) ≤ 0 → RunI X d mX11_isIn [(1, v2), (1, 1), (1, 6)] sh pt h4 (fun r6 h5 => ((r6 = 0 → RunI X d mX11_refuse [(2, 78), (0, 5)] sh pt h5 (fun r8 h7 => K r8 h7)) ∧ (¬ r6 = 0 → (((h5 78 7) < v2 → RunI X d mX11_refuse [(2, 78), (0, 5)] sh pt h5 (fun r10 h9 => K r10 h9)) ∧ (v2 ≤ (h5 78 7) → RunI X d mX11_isIn [(1, v3), (1, 1), (1, 40)] sh pt h5 (fun r12 h11 => ((¬ r12 = 0 → (0 ≤ v1 ∧ v1 < 4) ∧ (qI (2 * v2)) ∧ (((2 * v2) ≤ (h11 80 v1) → EvI X (d + 1) mX11_goes_ 82 [(2, 78), (0, v1), (0, v2), (0, v3), (0, 0), (8, -1), (8, -1), (8, -1), (8, -1), (8, -1)] [] sh pt h11 K) ∧ ((h11 80 v1) < (2 * v2) → RunI X d mX11_refuse [(2, 78), (0, 4)] sh pt h11 (fun r15 h14 => K r15 h14)))) ∧ (r12 = 0 → RunI X d mX11_refuse [(2, 78), (0, 5)] sh pt h11 (fun r17 h16 => K r17 h16)))))))))) ∧ (0 < (h4 78 0) → K (-1) h4)))) :
    RunI X (d + 1) mX11_goes_ [(2, 78), (0, v1), (0, v2), (0, v3)] sh pt h K := by
  show Ev X (d + 1) 0 0 mX11_goes_ 0 [(2, 78), (0, v1), (0, v2), (0, v3), (8, -1), (8, -1), (8, -1), (8, -1), (8, -1), (8, -1)] [] (sh, pt, h) (qRI sh pt K)
  refine ev_aload_n 1 rfl dX11_goes__0 rfl rfl ?_
  refine ev_iconst 2 rfl dX11_goes__1 (by decide) ?_
  refine ev_putI (ki := 1) 5 rfl dX11_goes__2 lf_11_213 (Or.inl rfl) (s_78 hst) (by decide) rfl ?_
  obtain ⟨h1, eh1⟩ : ∃ z : qM, z = qup h 78 1 0 := ⟨_, rfl⟩
  rw [← eh1]
  have H := H h1 eh1
  refine ev_aload_n 6 rfl dX11_goes__5 rfl rfl ?_
  refine ev_aload_n 7 rfl dX11_goes__6 rfl rfl ?_
  refine ev_iload_n 8 rfl dX11_goes__7 rfl rfl ?_
  refine ev_cVI (As := [(0, v1)]) (rest := [(2, 78)]) 11 rfl dX11_goes__8 lm_11_231 mm_X11_trayed (s_78 hst) rfl rfl (Nat.le_of_ble_eq_true rfl) (Nat.le_of_ble_eq_true rfl) (Nat.le_refl _) H ?_
  intro r3 h2 H
  refine ev_putI (ki := 0) 14 rfl dX11_goes__11 lf_11_216 (Or.inl rfl) (s_78 hst) (by decide) rfl ?_
  obtain ⟨h4, eh4⟩ : ∃ z : qM, z = qup h2 78 0 r3 := ⟨_, rfl⟩
  rw [← eh4]
  have H := H h4 eh4
  refine ev_aload_n 15 rfl dX11_goes__14 rfl rfl ?_
  refine ev_getI (ki := 0) 18 rfl dX11_goes__15 lf_11_216 (Or.inl rfl) (s_78 hst) (by decide) rfl ?_
  refine ev_if_le (tgt := 23) 21 rfl dX11_goes__18 (by decide) (fun cd => ?_) (fun cd => ?_)
  · have H := H.1 cd
    refine ev_iload_n 24 rfl dX11_goes__23 rfl rfl ?_
    refine ev_i2l 25 rfl dX11_goes__24 ?_
    refine ev_lconst (v := 1) 26 rfl dX11_goes__25 (by decide) (by decide) ?_
    refine ev_ldc2 29 rfl dX11_goes__26 kl_11_490 (by decide) ?_
    refine ev_cSI (As := [(1, v2), (1, 1), (1, 6)]) (rest := []) 32 rfl dX11_goes__29 lm_11_221 mm_X11_isIn rfl rfl (Nat.le_of_ble_eq_true rfl) (Nat.le_of_ble_eq_true rfl) (Nat.le_refl _) H ?_
    intro r6 h5 H
    refine ev_if_eq (tgt := 55) 35 rfl dX11_goes__32 (by decide) (fun cd => ?_) (fun cd => ?_)
    · have H := H.1 cd
      refine ev_aload_n 56 rfl dX11_goes__55 rfl rfl ?_
      refine ev_iconst 57 rfl dX11_goes__56 (by decide) ?_
      refine ev_cVI (As := [(0, 5)]) (rest := []) 60 rfl dX11_goes__57 lm_11_254 mm_X11_refuse (s_78 hst) rfl rfl (Nat.le_of_ble_eq_true rfl) (Nat.le_of_ble_eq_true rfl) (Nat.le_refl _) H ?_
      intro r8 h7 H
      exact ev_retI dX11_goes__60 rfl H
    · have H := H.2 cd
      refine ev_iload_n 36 rfl dX11_goes__35 rfl rfl ?_
      refine ev_aload_n 37 rfl dX11_goes__36 rfl rfl ?_
      refine ev_getI (ki := 7) 40 rfl dX11_goes__37 lf_11_245 (Or.inl rfl) (s_78 hst) (by decide) rfl ?_
      refine ev_icmp_gt (tgt := 55) 43 rfl dX11_goes__40 (by decide) (fun cd => ?_) (fun cd => ?_)
      · have H := H.1 cd
        refine ev_aload_n 56 rfl dX11_goes__55 rfl rfl ?_
        refine ev_iconst 57 rfl dX11_goes__56 (by decide) ?_
        refine ev_cVI (As := [(0, 5)]) (rest := []) 60 rfl dX11_goes__57 lm_11_254 mm_X11_refuse (s_78 hst) rfl rfl (Nat.le_of_ble_eq_true rfl) (Nat.le_of_ble_eq_true rfl) (Nat.le_refl _) H ?_
        intro r10 h9 H
        exact ev_retI dX11_goes__60 rfl H
      · have H := H.2 cd
        refine ev_iload_n 44 rfl dX11_goes__43 rfl rfl ?_
        refine ev_i2l 45 rfl dX11_goes__44 ?_
        refine ev_lconst (v := 1) 46 rfl dX11_goes__45 (by decide) (by decide) ?_
        refine ev_ldc2 49 rfl dX11_goes__46 kl_11_465 (by decide) ?_
        refine ev_cSI (As := [(1, v3), (1, 1), (1, 40)]) (rest := []) 52 rfl dX11_goes__49 lm_11_221 mm_X11_isIn rfl rfl (Nat.le_of_ble_eq_true rfl) (Nat.le_of_ble_eq_true rfl) (Nat.le_refl _) H ?_
        intro r12 h11 H
        refine ev_if_ne (tgt := 61) 55 rfl dX11_goes__52 (by decide) (fun cd => ?_) (fun cd => ?_)
        · have H := H.1 cd
          refine ev_aload_n 62 rfl dX11_goes__61 rfl rfl ?_
          refine ev_getR (ki := 5) (v := 80) 65 rfl dX11_goes__62 lf_11_17 (s_78 hst) (by decide) rfl (p_78_5 hst) ?_
          refine ev_iload_n 66 rfl dX11_goes__65 rfl rfl ?_
          obtain ⟨b13, H⟩ := H
          refine ev_iaload 67 rfl dX11_goes__66 (s_80 hst) b13.1 b13.2 ?_
          refine ev_iconst 68 rfl dX11_goes__67 (by decide) ?_
          refine ev_iload_n 69 rfl dX11_goes__68 rfl rfl ?_
          obtain ⟨sd, H⟩ := H
          refine ev_imul 70 rfl dX11_goes__69 sd ?_
          refine ev_icmp_ge (tgt := 79) 73 rfl dX11_goes__70 (by decide) (fun cd => ?_) (fun cd => ?_)
          · have H := H.1 cd
            refine ev_iconst 80 rfl dX11_goes__79 (by decide) ?_
            refine ev_istore (L1 := [(2, 78), (0, v1), (0, v2), (0, v3), (0, 0), (8, -1), (8, -1), (8, -1), (8, -1), (8, -1)]) 82 rfl dX11_goes__80 (Nat.le_of_ble_eq_true rfl) rfl ?_
            exact H
          · have H := H.2 cd
            refine ev_aload_n 74 rfl dX11_goes__73 rfl rfl ?_
            refine ev_iconst 75 rfl dX11_goes__74 (by decide) ?_
            refine ev_cVI (As := [(0, 4)]) (rest := []) 78 rfl dX11_goes__75 lm_11_254 mm_X11_refuse (s_78 hst) rfl rfl (Nat.le_of_ble_eq_true rfl) (Nat.le_of_ble_eq_true rfl) (Nat.le_refl _) H ?_
            intro r15 h14 H
            exact ev_retI dX11_goes__78 rfl H
        · have H := H.2 cd
          refine ev_aload_n 56 rfl dX11_goes__55 rfl rfl ?_
          refine ev_iconst 57 rfl dX11_goes__56 (by decide) ?_
          refine ev_cVI (As := [(0, 5)]) (rest := []) 60 rfl dX11_goes__57 lm_11_254 mm_X11_refuse (s_78 hst) rfl rfl (Nat.le_of_ble_eq_true rfl) (Nat.le_of_ble_eq_true rfl) (Nat.le_refl _) H ?_
          intro r17 h16 H
          exact ev_retI dX11_goes__60 rfl H
  · have H := H.2 cd
    refine ev_iconst 22 rfl dX11_goes__21 (by decide) ?_
    exact ev_retI dX11_goes__22 rfl H

set_option maxRecDepth 20000 in
theorem b_X11_goes__82 {X : qX} {d : Nat} {sh : qS} {pt h : qM} {K : Int → qM → Prop} {v1 v2 v3 v4 : Int} (hst : St sh pt)
    (H : ((v2 ≤ v4 → ∀ h1 : qM, h1 = qup h 78 78 (-1) → RunV X d mX11_tries [(2, 78), (0, 0), (0, v2), (0, v3), (0, 0), (0, 0), (0, 0)] sh pt h1 (fun h2 => ((0 ≤ (h2 78 78) → ∀ h3 : qM, h3 = qup h2 78 76 v2 → ∀ h4 : qM, h4 = qup h3 78 77 (h3 78 79) → EvI X (d + 1) mX11_goes_ 273 [(2, 78), (8, -1), (0, v2), (8, -1), (0, 0), (8, -1), (8, -1), (8, -1), (8, -1), (8, -1)] [] sh pt h4 K) ∧ ((h2 78 78) < 0 → RunI X d mX11_refuse [(2, 78), (0, 8)] sh pt h2 (fun r6 h5 => K r6 h5))))) ∧ (v4 < v2 → (qI (40 * v1)) ∧ (qI (2 * v4)) ∧ (qI ((40 * v1) + (2 * v4))) ∧ (0 ≤ ((40 * v1) + (2 * v4)) ∧ ((40 * v1) + (2 * v4)) < 160) ∧ ∀ x8 : Int, x8 = (h 81 ((40 * v1) + (2 * v4))) → (qI (40 * v1)) ∧ (qI (2 * v4)) ∧ (qI ((40 * v1) + (2 * v4))) ∧ (qI (((40 * v1) + (2 * v4)) + 1)) ∧ (0 ≤ (((40 * v1) + (2 * v4)) + 1) ∧ (((40 * v1) + (2 * v4)) + 1) < 160) ∧ ∀ x10 : Int, x10 = (h 81 (((40 * v1) + (2 * v4)) + 1)) → RunI X d mX11_isIn [(1, x8), (1, 0), (1, 59)] sh pt h (fun r12 h11 => ((r12 = 0 → RunI X d mX11_refuse [(2, 78), (0, 5)] sh pt h11 (fun r14 h13 => K r14 h13)) ∧ (¬ r12 = 0 → RunI X d mX11_isIn [(1, x10), (1, 0), (1, 39)] sh pt h11 (fun r16 h15 => ((¬ r16 = 0 → (0 ≤ v4 ∧ v4 < 6) ∧ ∀ h18 : qM, h18 = qup h15 115 v4 (ql2i x8) → (0 ≤ v4 ∧ v4 < 6) ∧ ∀ h20 : qM, h20 = qup h18 116 v4 (ql2i x10) → EvI X (d + 1) mX11_goes_ 175 [(2, 78), (0, v1), (0, v2), (0, v3), (0, v4), (1, x8), (8, -1), (1, x10), (8, -1), (0, 0)] [] sh pt h20 K) ∧ (r16 = 0 → RunI X d mX11_refuse [(2, 78), (0, 5)] sh pt h15 (fun r22 h21 => K r22 h21)))))))))) :
    EvI X (d + 1) mX11_goes_ 82 [(2, 78), (0, v1), (0, v2), (0, v3), (0, v4), (8, -1), (8, -1), (8, -1), (8, -1), (8, -1)] [] sh pt h K := by
  show Ev X (d + 1) 0 0 mX11_goes_ 82 [(2, 78), (0, v1), (0, v2), (0, v3), (0, v4), (8, -1), (8, -1), (8, -1), (8, -1), (8, -1)] [] (sh, pt, h) (qRI sh pt K)
  refine ev_iload 84 rfl dX11_goes__82 rfl ?_
  refine ev_iload_n 85 rfl dX11_goes__84 rfl rfl ?_
  refine ev_icmp_ge (tgt := 228) 88 rfl dX11_goes__85 (by decide) (fun cd => ?_) (fun cd => ?_)
  · have H := H.1 cd
    refine ev_aload_n 229 rfl dX11_goes__228 rfl rfl ?_
    refine ev_iconst 230 rfl dX11_goes__229 (by decide) ?_
    refine ev_putI (ki := 78) 233 rfl dX11_goes__230 lf_11_474 (Or.inl rfl) (s_78 hst) (by decide) rfl ?_
    obtain ⟨h1, eh1⟩ : ∃ z : qM, z = qup h 78 78 (-1) := ⟨_, rfl⟩
    rw [← eh1]
    have H := H h1 eh1
    refine ev_aload_n 234 rfl dX11_goes__233 rfl rfl ?_
    refine ev_iconst 235 rfl dX11_goes__234 (by decide) ?_
    refine ev_iload_n 236 rfl dX11_goes__235 rfl rfl ?_
    refine ev_iload_n 237 rfl dX11_goes__236 rfl rfl ?_
    refine ev_iconst 238 rfl dX11_goes__237 (by decide) ?_
    refine ev_iconst 239 rfl dX11_goes__238 (by decide) ?_
    refine ev_iconst 240 rfl dX11_goes__239 (by decide) ?_
    refine ev_cVV (As := [(0, 0), (0, v2), (0, v3), (0, 0), (0, 0), (0, 0)]) (rest := []) 243 rfl dX11_goes__240 lm_11_486 mm_X11_tries (s_78 hst) rfl rfl (Nat.le_of_ble_eq_true rfl) (Nat.le_of_ble_eq_true rfl) (Nat.le_refl _) H ?_
    intro h2 H
    refine ev_aload_n 244 rfl dX11_goes__243 rfl rfl ?_
    refine ev_getI (ki := 78) 247 rfl dX11_goes__244 lf_11_474 (Or.inl rfl) (s_78 hst) (by decide) rfl ?_
    refine ev_if_ge (tgt := 257) 250 rfl dX11_goes__247 (by decide) (fun cd => ?_) (fun cd => ?_)
    · have H := H.1 cd
      refine ev_aload_n 258 rfl dX11_goes__257 rfl rfl ?_
      refine ev_iload_n 259 rfl dX11_goes__258 rfl rfl ?_
      refine ev_putI (ki := 76) 262 rfl dX11_goes__259 lf_11_492 (Or.inl rfl) (s_78 hst) (by decide) rfl ?_
      obtain ⟨h3, eh3⟩ : ∃ z : qM, z = qup h2 78 76 v2 := ⟨_, rfl⟩
      rw [← eh3]
      have H := H h3 eh3
      refine ev_aload_n 263 rfl dX11_goes__262 rfl rfl ?_
      refine ev_aload_n 264 rfl dX11_goes__263 rfl rfl ?_
      refine ev_getI (ki := 79) 267 rfl dX11_goes__264 lf_11_477 (Or.inl rfl) (s_78 hst) (by decide) rfl ?_
      refine ev_putI (ki := 77) 270 rfl dX11_goes__267 lf_11_495 (Or.inl rfl) (s_78 hst) (by decide) rfl ?_
      obtain ⟨h4, eh4⟩ : ∃ z : qM, z = qup h3 78 77 (h3 78 79) := ⟨_, rfl⟩
      rw [← eh4]
      have H := H h4 eh4
      refine ev_iconst 271 rfl dX11_goes__270 (by decide) ?_
      refine ev_istore (L1 := [(2, 78), (0, v1), (0, v2), (0, v3), (0, 0), (8, -1), (8, -1), (8, -1), (8, -1), (8, -1)]) 273 rfl dX11_goes__271 (Nat.le_of_ble_eq_true rfl) rfl ?_
      refine Ev.drop [1, 3] rfl ?_
      exact H
    · have H := H.2 cd
      refine ev_aload_n 251 rfl dX11_goes__250 rfl rfl ?_
      refine ev_bipush 253 rfl dX11_goes__251 (by decide) (by decide) ?_
      refine ev_cVI (As := [(0, 8)]) (rest := []) 256 rfl dX11_goes__253 lm_11_254 mm_X11_refuse (s_78 hst) rfl rfl (Nat.le_of_ble_eq_true rfl) (Nat.le_of_ble_eq_true rfl) (Nat.le_refl _) H ?_
      intro r6 h5 H
      exact ev_retI dX11_goes__256 rfl H
  · have H := H.2 cd
    refine ev_aload_n 89 rfl dX11_goes__88 rfl rfl ?_
    refine ev_getR (ki := 6) (v := 81) 92 rfl dX11_goes__89 lf_11_20 (s_78 hst) (by decide) rfl (p_78_6 hst) ?_
    refine ev_bipush 94 rfl dX11_goes__92 (by decide) (by decide) ?_
    refine ev_iload_n 95 rfl dX11_goes__94 rfl rfl ?_
    obtain ⟨sd, H⟩ := H
    refine ev_imul 96 rfl dX11_goes__95 sd ?_
    refine ev_iconst 97 rfl dX11_goes__96 (by decide) ?_
    refine ev_iload 99 rfl dX11_goes__97 rfl ?_
    obtain ⟨sd, H⟩ := H
    refine ev_imul 100 rfl dX11_goes__99 sd ?_
    obtain ⟨sd, H⟩ := H
    refine ev_iadd 101 rfl dX11_goes__100 sd ?_
    obtain ⟨b7, H⟩ := H
    refine ev_laload 102 rfl dX11_goes__101 (s_81 hst) b7.1 b7.2 ?_
    obtain ⟨x8, ex8⟩ : ∃ z : Int, z = (h 81 ((40 * v1) + (2 * v4))) := ⟨_, rfl⟩
    rw [← ex8]
    have H := H x8 ex8
    refine ev_lstore (L1 := [(2, 78), (0, v1), (0, v2), (0, v3), (0, v4), (1, x8), (8, -1), (8, -1), (8, -1), (8, -1)]) 104 rfl dX11_goes__102 (Nat.le_of_ble_eq_true rfl) rfl ?_
    refine ev_aload_n 105 rfl dX11_goes__104 rfl rfl ?_
    refine ev_getR (ki := 6) (v := 81) 108 rfl dX11_goes__105 lf_11_20 (s_78 hst) (by decide) rfl (p_78_6 hst) ?_
    refine ev_bipush 110 rfl dX11_goes__108 (by decide) (by decide) ?_
    refine ev_iload_n 111 rfl dX11_goes__110 rfl rfl ?_
    obtain ⟨sd, H⟩ := H
    refine ev_imul 112 rfl dX11_goes__111 sd ?_
    refine ev_iconst 113 rfl dX11_goes__112 (by decide) ?_
    refine ev_iload 115 rfl dX11_goes__113 rfl ?_
    obtain ⟨sd, H⟩ := H
    refine ev_imul 116 rfl dX11_goes__115 sd ?_
    obtain ⟨sd, H⟩ := H
    refine ev_iadd 117 rfl dX11_goes__116 sd ?_
    refine ev_iconst 118 rfl dX11_goes__117 (by decide) ?_
    obtain ⟨sd, H⟩ := H
    refine ev_iadd 119 rfl dX11_goes__118 sd ?_
    obtain ⟨b9, H⟩ := H
    refine ev_laload 120 rfl dX11_goes__119 (s_81 hst) b9.1 b9.2 ?_
    obtain ⟨x10, ex10⟩ : ∃ z : Int, z = (h 81 (((40 * v1) + (2 * v4)) + 1)) := ⟨_, rfl⟩
    rw [← ex10]
    have H := H x10 ex10
    refine ev_lstore (L1 := [(2, 78), (0, v1), (0, v2), (0, v3), (0, v4), (1, x8), (8, -1), (1, x10), (8, -1), (8, -1)]) 122 rfl dX11_goes__120 (Nat.le_of_ble_eq_true rfl) rfl ?_
    refine ev_lload 124 rfl dX11_goes__122 rfl ?_
    refine ev_lconst (v := 0) 125 rfl dX11_goes__124 (by decide) (by decide) ?_
    refine ev_ldc2 128 rfl dX11_goes__125 kl_11_219 (by decide) ?_
    refine ev_cSI (As := [(1, x8), (1, 0), (1, 59)]) (rest := []) 131 rfl dX11_goes__128 lm_11_221 mm_X11_isIn rfl rfl (Nat.le_of_ble_eq_true rfl) (Nat.le_of_ble_eq_true rfl) (Nat.le_refl _) H ?_
    intro r12 h11 H
    refine ev_if_eq (tgt := 146) 134 rfl dX11_goes__131 (by decide) (fun cd => ?_) (fun cd => ?_)
    · have H := H.1 cd
      refine ev_aload_n 147 rfl dX11_goes__146 rfl rfl ?_
      refine ev_iconst 148 rfl dX11_goes__147 (by decide) ?_
      refine ev_cVI (As := [(0, 5)]) (rest := []) 151 rfl dX11_goes__148 lm_11_254 mm_X11_refuse (s_78 hst) rfl rfl (Nat.le_of_ble_eq_true rfl) (Nat.le_of_ble_eq_true rfl) (Nat.le_refl _) H ?_
      intro r14 h13 H
      exact ev_retI dX11_goes__151 rfl H
    · have H := H.2 cd
      refine ev_lload 136 rfl dX11_goes__134 rfl ?_
      refine ev_lconst (v := 0) 137 rfl dX11_goes__136 (by decide) (by decide) ?_
      refine ev_ldc2 140 rfl dX11_goes__137 kl_11_225 (by decide) ?_
      refine ev_cSI (As := [(1, x10), (1, 0), (1, 39)]) (rest := []) 143 rfl dX11_goes__140 lm_11_221 mm_X11_isIn rfl rfl (Nat.le_of_ble_eq_true rfl) (Nat.le_of_ble_eq_true rfl) (Nat.le_refl _) H ?_
      intro r16 h15 H
      refine ev_if_ne (tgt := 152) 146 rfl dX11_goes__143 (by decide) (fun cd => ?_) (fun cd => ?_)
      · have H := H.1 cd
        refine ev_aload_n 153 rfl dX11_goes__152 rfl rfl ?_
        refine ev_getR (ki := 71) (v := 115) 156 rfl dX11_goes__153 lf_11_147 (s_78 hst) (by decide) rfl (p_78_71 hst) ?_
        refine ev_iload 158 rfl dX11_goes__156 rfl ?_
        refine ev_lload 160 rfl dX11_goes__158 rfl ?_
        refine ev_l2i 161 rfl dX11_goes__160 ?_
        obtain ⟨b17, H⟩ := H
        refine ev_iastore 162 rfl dX11_goes__161 (s_115 hst) b17.1 b17.2 ?_
        obtain ⟨h18, eh18⟩ : ∃ z : qM, z = qup h15 115 v4 (ql2i x8) := ⟨_, rfl⟩
        rw [← eh18]
        have H := H h18 eh18
        refine ev_aload_n 163 rfl dX11_goes__162 rfl rfl ?_
        refine ev_getR (ki := 72) (v := 116) 166 rfl dX11_goes__163 lf_11_150 (s_78 hst) (by decide) rfl (p_78_72 hst) ?_
        refine ev_iload 168 rfl dX11_goes__166 rfl ?_
        refine ev_lload 170 rfl dX11_goes__168 rfl ?_
        refine ev_l2i 171 rfl dX11_goes__170 ?_
        obtain ⟨b19, H⟩ := H
        refine ev_iastore 172 rfl dX11_goes__171 (s_116 hst) b19.1 b19.2 ?_
        obtain ⟨h20, eh20⟩ : ∃ z : qM, z = qup h18 116 v4 (ql2i x10) := ⟨_, rfl⟩
        rw [← eh20]
        have H := H h20 eh20
        refine ev_iconst 173 rfl dX11_goes__172 (by decide) ?_
        refine ev_istore (L1 := [(2, 78), (0, v1), (0, v2), (0, v3), (0, v4), (1, x8), (8, -1), (1, x10), (8, -1), (0, 0)]) 175 rfl dX11_goes__173 (Nat.le_of_ble_eq_true rfl) rfl ?_
        exact H
      · have H := H.2 cd
        refine ev_aload_n 147 rfl dX11_goes__146 rfl rfl ?_
        refine ev_iconst 148 rfl dX11_goes__147 (by decide) ?_
        refine ev_cVI (As := [(0, 5)]) (rest := []) 151 rfl dX11_goes__148 lm_11_254 mm_X11_refuse (s_78 hst) rfl rfl (Nat.le_of_ble_eq_true rfl) (Nat.le_of_ble_eq_true rfl) (Nat.le_refl _) H ?_
        intro r22 h21 H
        exact ev_retI dX11_goes__151 rfl H

set_option maxRecDepth 20000 in
theorem b_X11_goes__273 {X : qX} {d : Nat} {sh : qS} {pt h : qM} {K : Int → qM → Prop} {v2 v4 : Int} (hst : St sh pt)
    (H : ((v2 ≤ v4 → K (h 78 78) h) ∧ (v4 < v2 → (0 ≤ v4 ∧ v4 < 6) ∧ (0 ≤ v4 ∧ v4 < 6) ∧ ∀ h3 : qM, h3 = qup h 119 v4 (h 118 v4) → (qI (v4 + 1)) ∧ EvI X (d + 1) mX11_goes_ 273 [(2, 78), (8, -1), (0, v2), (8, -1), (0, (v4 + 1)), (8, -1), (8, -1), (8, -1), (8, -1), (8, -1)] [] sh pt h3 K))) :
    EvI X (d + 1) mX11_goes_ 273 [(2, 78), (8, -1), (0, v2), (8, -1), (0, v4), (8, -1), (8, -1), (8, -1), (8, -1), (8, -1)] [] sh pt h K := by
  show Ev X (d + 1) 0 0 mX11_goes_ 273 [(2, 78), (8, -1), (0, v2), (8, -1), (0, v4), (8, -1), (8, -1), (8, -1), (8, -1), (8, -1)] [] (sh, pt, h) (qRI sh pt K)
  refine ev_iload 275 rfl dX11_goes__273 rfl ?_
  refine ev_iload_n 276 rfl dX11_goes__275 rfl rfl ?_
  refine ev_icmp_ge (tgt := 299) 279 rfl dX11_goes__276 (by decide) (fun cd => ?_) (fun cd => ?_)
  · have H := H.1 cd
    refine ev_aload_n 300 rfl dX11_goes__299 rfl rfl ?_
    refine ev_getI (ki := 78) 303 rfl dX11_goes__300 lf_11_474 (Or.inl rfl) (s_78 hst) (by decide) rfl ?_
    exact ev_retI dX11_goes__303 rfl H
  · have H := H.2 cd
    refine ev_aload_n 280 rfl dX11_goes__279 rfl rfl ?_
    refine ev_getR (ki := 75) (v := 119) 283 rfl dX11_goes__280 lf_11_159 (s_78 hst) (by decide) rfl (p_78_75 hst) ?_
    refine ev_iload 285 rfl dX11_goes__283 rfl ?_
    refine ev_aload_n 286 rfl dX11_goes__285 rfl rfl ?_
    refine ev_getR (ki := 74) (v := 118) 289 rfl dX11_goes__286 lf_11_156 (s_78 hst) (by decide) rfl (p_78_74 hst) ?_
    refine ev_iload 291 rfl dX11_goes__289 rfl ?_
    obtain ⟨b1, H⟩ := H
    refine ev_iaload 292 rfl dX11_goes__291 (s_118 hst) b1.1 b1.2 ?_
    obtain ⟨b2, H⟩ := H
    refine ev_iastore 293 rfl dX11_goes__292 (s_119 hst) b2.1 b2.2 ?_
    obtain ⟨h3, eh3⟩ : ∃ z : qM, z = qup h 119 v4 (h 118 v4) := ⟨_, rfl⟩
    rw [← eh3]
    have H := H h3 eh3
    obtain ⟨sd, H⟩ := H
    refine ev_iinc (L1 := [(2, 78), (8, -1), (0, v2), (8, -1), (0, (v4 + 1)), (8, -1), (8, -1), (8, -1), (8, -1), (8, -1)]) 296 rfl dX11_goes__293 rfl sd (Nat.le_of_ble_eq_true rfl) rfl ?_
    refine ev_goto (tgt := 273) dX11_goes__296 (by decide) ?_
    exact H

set_option maxRecDepth 20000 in
theorem b_X11_goes__175 {X : qX} {d : Nat} {sh : qS} {pt h : qM} {K : Int → qM → Prop} {v1 v2 v3 v4 v5 v7 v9 : Int} (hst : St sh pt)
    (H : ((v4 ≤ v9 → (qI (v4 + 1)) ∧ EvI X (d + 1) mX11_goes_ 82 [(2, 78), (0, v1), (0, v2), (0, v3), (0, (v4 + 1)), (8, -1), (8, -1), (8, -1), (8, -1), (8, -1)] [] sh pt h K) ∧ (v9 < v4 → (0 ≤ v9 ∧ v9 < 6) ∧ ((¬ (h 115 v9) = v5 → (qI (v9 + 1)) ∧ EvI X (d + 1) mX11_goes_ 175 [(2, 78), (0, v1), (0, v2), (0, v3), (0, v4), (1, v5), (8, -1), (1, v7), (8, -1), (0, (v9 + 1))] [] sh pt h K) ∧ ((h 115 v9) = v5 → (0 ≤ v9 ∧ v9 < 6) ∧ ((¬ (h 116 v9) = v7 → (qI (v9 + 1)) ∧ EvI X (d + 1) mX11_goes_ 175 [(2, 78), (0, v1), (0, v2), (0, v3), (0, v4), (1, v5), (8, -1), (1, v7), (8, -1), (0, (v9 + 1))] [] sh pt h K) ∧ ((h 116 v9) = v7 → RunI X d mX11_refuse [(2, 78), (0, 5)] sh pt h (fun r4 h3 => K r4 h3)))))))) :
    EvI X (d + 1) mX11_goes_ 175 [(2, 78), (0, v1), (0, v2), (0, v3), (0, v4), (1, v5), (8, -1), (1, v7), (8, -1), (0, v9)] [] sh pt h K := by
  show Ev X (d + 1) 0 0 mX11_goes_ 175 [(2, 78), (0, v1), (0, v2), (0, v3), (0, v4), (1, v5), (8, -1), (1, v7), (8, -1), (0, v9)] [] (sh, pt, h) (qRI sh pt K)
  refine ev_iload 177 rfl dX11_goes__175 rfl ?_
  refine ev_iload 179 rfl dX11_goes__177 rfl ?_
  refine ev_icmp_ge (tgt := 222) 182 rfl dX11_goes__179 (by decide) (fun cd => ?_) (fun cd => ?_)
  · have H := H.1 cd
    obtain ⟨sd, H⟩ := H
    refine ev_iinc (L1 := [(2, 78), (0, v1), (0, v2), (0, v3), (0, (v4 + 1)), (1, v5), (8, -1), (1, v7), (8, -1), (0, v9)]) 225 rfl dX11_goes__222 rfl sd (Nat.le_of_ble_eq_true rfl) rfl ?_
    refine ev_goto (tgt := 82) dX11_goes__225 (by decide) ?_
    refine Ev.drop [5, 7, 9] rfl ?_
    exact H
  · have H := H.2 cd
    refine ev_aload_n 183 rfl dX11_goes__182 rfl rfl ?_
    refine ev_getR (ki := 71) (v := 115) 186 rfl dX11_goes__183 lf_11_147 (s_78 hst) (by decide) rfl (p_78_71 hst) ?_
    refine ev_iload 188 rfl dX11_goes__186 rfl ?_
    obtain ⟨b1, H⟩ := H
    refine ev_iaload 189 rfl dX11_goes__188 (s_115 hst) b1.1 b1.2 ?_
    refine ev_i2l 190 rfl dX11_goes__189 ?_
    refine ev_lload 192 rfl dX11_goes__190 rfl ?_
    refine ev_lc_ne (tgt := 216) 196 rfl dX11_goes__192 dX11_goes__193 (by decide) (fun cd => ?_) (fun cd => ?_)
    · have H := H.1 cd
      obtain ⟨sd, H⟩ := H
      refine ev_iinc (L1 := [(2, 78), (0, v1), (0, v2), (0, v3), (0, v4), (1, v5), (8, -1), (1, v7), (8, -1), (0, (v9 + 1))]) 219 rfl dX11_goes__216 rfl sd (Nat.le_of_ble_eq_true rfl) rfl ?_
      refine ev_goto (tgt := 175) dX11_goes__219 (by decide) ?_
      exact H
    · have H := H.2 cd
      refine ev_aload_n 197 rfl dX11_goes__196 rfl rfl ?_
      refine ev_getR (ki := 72) (v := 116) 200 rfl dX11_goes__197 lf_11_150 (s_78 hst) (by decide) rfl (p_78_72 hst) ?_
      refine ev_iload 202 rfl dX11_goes__200 rfl ?_
      obtain ⟨b2, H⟩ := H
      refine ev_iaload 203 rfl dX11_goes__202 (s_116 hst) b2.1 b2.2 ?_
      refine ev_i2l 204 rfl dX11_goes__203 ?_
      refine ev_lload 206 rfl dX11_goes__204 rfl ?_
      refine ev_lc_ne (tgt := 216) 210 rfl dX11_goes__206 dX11_goes__207 (by decide) (fun cd => ?_) (fun cd => ?_)
      · have H := H.1 cd
        obtain ⟨sd, H⟩ := H
        refine ev_iinc (L1 := [(2, 78), (0, v1), (0, v2), (0, v3), (0, v4), (1, v5), (8, -1), (1, v7), (8, -1), (0, (v9 + 1))]) 219 rfl dX11_goes__216 rfl sd (Nat.le_of_ble_eq_true rfl) rfl ?_
        refine ev_goto (tgt := 175) dX11_goes__219 (by decide) ?_
        exact H
      · have H := H.2 cd
        refine ev_aload_n 211 rfl dX11_goes__210 rfl rfl ?_
        refine ev_iconst 212 rfl dX11_goes__211 (by decide) ?_
        refine ev_cVI (As := [(0, 5)]) (rest := []) 215 rfl dX11_goes__212 lm_11_254 mm_X11_refuse (s_78 hst) rfl rfl (Nat.le_of_ble_eq_true rfl) (Nat.le_of_ble_eq_true rfl) (Nat.le_refl _) H ?_
        intro r4 h3 H
        exact ev_retI dX11_goes__215 rfl H

set_option maxRecDepth 20000 in
theorem b_X11_spotOf {X : qX} {d : Nat} {sh : qS} {pt h : qM} {K : Int → qM → Prop} {v1 : Int} (hst : St sh pt)
    (H : ∀ h1 : qM, h1 = qup h 78 1 0 → ∀ h2 : qM, h2 = qup h1 78 0 0 → (((h2 78 76) = 0 → RunI X d mX11_refuse [(2, 78), (0, 8)] sh pt h2 (fun r4 h3 => K r4 h3)) ∧ (¬ (h2 78 76) = 0 → ((v1 = (-1) → ((¬ v1 = (-1) → (0 ≤ v1 ∧ v1 < 6) ∧ K (h2 119 v1) h2) ∧ (v1 = (-1) → K (h2 78 77) h2))) ∧ (¬ v1 = (-1) → (qI ((h2 78 76) - 1)) ∧ RunI X d mX11_isIn [(1, v1), (1, 0), (1, ((h2 78 76) - 1))] sh pt h2 (fun r7 h6 => ((¬ r7 = 0 → ((¬ v1 = (-1) → (0 ≤ v1 ∧ v1 < 6) ∧ K (h6 119 v1) h6) ∧ (v1 = (-1) → K (h6 78 77) h6))) ∧ (r7 = 0 → RunI X d mX11_refuse [(2, 78), (0, 8)] sh pt h6 (fun r10 h9 => K r10 h9))))))))) :
    RunI X (d + 1) mX11_spotOf [(2, 78), (0, v1)] sh pt h K := by
  show Ev X (d + 1) 0 0 mX11_spotOf 0 [(2, 78), (0, v1)] [] (sh, pt, h) (qRI sh pt K)
  refine ev_aload_n 1 rfl dX11_spotOf_0 rfl rfl ?_
  refine ev_iconst 2 rfl dX11_spotOf_1 (by decide) ?_
  refine ev_putI (ki := 1) 5 rfl dX11_spotOf_2 lf_11_213 (Or.inl rfl) (s_78 hst) (by decide) rfl ?_
  obtain ⟨h1, eh1⟩ : ∃ z : qM, z = qup h 78 1 0 := ⟨_, rfl⟩
  rw [← eh1]
  have H := H h1 eh1
  refine ev_aload_n 6 rfl dX11_spotOf_5 rfl rfl ?_
  refine ev_iconst 7 rfl dX11_spotOf_6 (by decide) ?_
  refine ev_putI (ki := 0) 10 rfl dX11_spotOf_7 lf_11_216 (Or.inl rfl) (s_78 hst) (by decide) rfl ?_
  obtain ⟨h2, eh2⟩ : ∃ z : qM, z = qup h1 78 0 0 := ⟨_, rfl⟩
  rw [← eh2]
  have H := H h2 eh2
  refine ev_aload_n 11 rfl dX11_spotOf_10 rfl rfl ?_
  refine ev_getI (ki := 76) 14 rfl dX11_spotOf_11 lf_11_492 (Or.inl rfl) (s_78 hst) (by decide) rfl ?_
  refine ev_if_eq (tgt := 38) 17 rfl dX11_spotOf_14 (by decide) (fun cd => ?_) (fun cd => ?_)
  · have H := H.1 cd
    refine ev_aload_n 39 rfl dX11_spotOf_38 rfl rfl ?_
    refine ev_bipush 41 rfl dX11_spotOf_39 (by decide) (by decide) ?_
    refine ev_cVI (As := [(0, 8)]) (rest := []) 44 rfl dX11_spotOf_41 lm_11_254 mm_X11_refuse (s_78 hst) rfl rfl (Nat.le_of_ble_eq_true rfl) (Nat.le_of_ble_eq_true rfl) (Nat.le_refl _) H ?_
    intro r4 h3 H
    exact ev_retI dX11_spotOf_44 rfl H
  · have H := H.2 cd
    refine ev_iload_n 18 rfl dX11_spotOf_17 rfl rfl ?_
    refine ev_iconst 19 rfl dX11_spotOf_18 (by decide) ?_
    refine ev_icmp_eq (tgt := 45) 22 rfl dX11_spotOf_19 (by decide) (fun cd => ?_) (fun cd => ?_)
    · have H := H.1 cd
      refine ev_iload_n 46 rfl dX11_spotOf_45 rfl rfl ?_
      refine ev_iconst 47 rfl dX11_spotOf_46 (by decide) ?_
      refine ev_icmp_ne (tgt := 57) 50 rfl dX11_spotOf_47 (by decide) (fun cd => ?_) (fun cd => ?_)
      · have H := H.1 cd
        refine ev_aload_n 58 rfl dX11_spotOf_57 rfl rfl ?_
        refine ev_getR (ki := 75) (v := 119) 61 rfl dX11_spotOf_58 lf_11_159 (s_78 hst) (by decide) rfl (p_78_75 hst) ?_
        refine ev_iload_n 62 rfl dX11_spotOf_61 rfl rfl ?_
        obtain ⟨b5, H⟩ := H
        refine ev_iaload 63 rfl dX11_spotOf_62 (s_119 hst) b5.1 b5.2 ?_
        exact ev_retI dX11_spotOf_63 rfl H
      · have H := H.2 cd
        refine ev_aload_n 51 rfl dX11_spotOf_50 rfl rfl ?_
        refine ev_getI (ki := 77) 54 rfl dX11_spotOf_51 lf_11_495 (Or.inl rfl) (s_78 hst) (by decide) rfl ?_
        refine ev_goto (tgt := 63) dX11_spotOf_54 (by decide) ?_
        exact ev_retI dX11_spotOf_63 rfl H
    · have H := H.2 cd
      refine ev_iload_n 23 rfl dX11_spotOf_22 rfl rfl ?_
      refine ev_i2l 24 rfl dX11_spotOf_23 ?_
      refine ev_lconst (v := 0) 25 rfl dX11_spotOf_24 (by decide) (by decide) ?_
      refine ev_aload_n 26 rfl dX11_spotOf_25 rfl rfl ?_
      refine ev_getI (ki := 76) 29 rfl dX11_spotOf_26 lf_11_492 (Or.inl rfl) (s_78 hst) (by decide) rfl ?_
      refine ev_iconst 30 rfl dX11_spotOf_29 (by decide) ?_
      obtain ⟨sd, H⟩ := H
      refine ev_isub 31 rfl dX11_spotOf_30 sd ?_
      refine ev_i2l 32 rfl dX11_spotOf_31 ?_
      refine ev_cSI (As := [(1, v1), (1, 0), (1, ((h2 78 76) - 1))]) (rest := []) 35 rfl dX11_spotOf_32 lm_11_221 mm_X11_isIn rfl rfl (Nat.le_of_ble_eq_true rfl) (Nat.le_of_ble_eq_true rfl) (Nat.le_refl _) H ?_
      intro r7 h6 H
      refine ev_if_ne (tgt := 45) 38 rfl dX11_spotOf_35 (by decide) (fun cd => ?_) (fun cd => ?_)
      · have H := H.1 cd
        refine ev_iload_n 46 rfl dX11_spotOf_45 rfl rfl ?_
        refine ev_iconst 47 rfl dX11_spotOf_46 (by decide) ?_
        refine ev_icmp_ne (tgt := 57) 50 rfl dX11_spotOf_47 (by decide) (fun cd => ?_) (fun cd => ?_)
        · have H := H.1 cd
          refine ev_aload_n 58 rfl dX11_spotOf_57 rfl rfl ?_
          refine ev_getR (ki := 75) (v := 119) 61 rfl dX11_spotOf_58 lf_11_159 (s_78 hst) (by decide) rfl (p_78_75 hst) ?_
          refine ev_iload_n 62 rfl dX11_spotOf_61 rfl rfl ?_
          obtain ⟨b8, H⟩ := H
          refine ev_iaload 63 rfl dX11_spotOf_62 (s_119 hst) b8.1 b8.2 ?_
          exact ev_retI dX11_spotOf_63 rfl H
        · have H := H.2 cd
          refine ev_aload_n 51 rfl dX11_spotOf_50 rfl rfl ?_
          refine ev_getI (ki := 77) 54 rfl dX11_spotOf_51 lf_11_495 (Or.inl rfl) (s_78 hst) (by decide) rfl ?_
          refine ev_goto (tgt := 63) dX11_spotOf_54 (by decide) ?_
          exact ev_retI dX11_spotOf_63 rfl H
      · have H := H.2 cd
        refine ev_aload_n 39 rfl dX11_spotOf_38 rfl rfl ?_
        refine ev_bipush 41 rfl dX11_spotOf_39 (by decide) (by decide) ?_
        refine ev_cVI (As := [(0, 8)]) (rest := []) 44 rfl dX11_spotOf_41 lm_11_254 mm_X11_refuse (s_78 hst) rfl rfl (Nat.le_of_ble_eq_true rfl) (Nat.le_of_ble_eq_true rfl) (Nat.le_refl _) H ?_
        intro r10 h9 H
        exact ev_retI dX11_spotOf_44 rfl H

set_option maxRecDepth 20000 in
theorem b_X11_isFree {X : qX} {d : Nat} {sh : qS} {pt h : qM} {K : Int → qM → Prop} {v1 v2 v3 : Int} (hst : St sh pt)
    (H : RunI X d mX11_isSpot [(0, v2), (0, v3)] sh pt h (fun r2 h1 => ((¬ r2 = 0 → (0 ≤ v1 ∧ v1 < 20) ∧ ((¬ v2 = (h1 82 v1) → (qI (40 * v2)) ∧ (qI ((40 * v2) + v3)) ∧ (0 ≤ ((40 * v2) + v3) ∧ ((40 * v2) + v3) < 2400) ∧ (((h1 86 ((40 * v2) + v3)) = 0 → EvI X (d + 1) mX11_isFree 51 [(2, 78), (0, v1), (0, v2), (0, v3), (0, 0)] [] sh pt h1 K) ∧ (¬ (h1 86 ((40 * v2) + v3)) = 0 → K 0 h1))) ∧ (v2 = (h1 82 v1) → (0 ≤ v1 ∧ v1 < 20) ∧ ((¬ v3 = (h1 83 v1) → (qI (40 * v2)) ∧ (qI ((40 * v2) + v3)) ∧ (0 ≤ ((40 * v2) + v3) ∧ ((40 * v2) + v3) < 2400) ∧ (((h1 86 ((40 * v2) + v3)) = 0 → EvI X (d + 1) mX11_isFree 51 [(2, 78), (0, v1), (0, v2), (0, v3), (0, 0)] [] sh pt h1 K) ∧ (¬ (h1 86 ((40 * v2) + v3)) = 0 → K 0 h1))) ∧ (v3 = (h1 83 v1) → K 1 h1))))) ∧ (r2 = 0 → K 0 h1)))) :
    RunI X (d + 1) mX11_isFree [(2, 78), (0, v1), (0, v2), (0, v3)] sh pt h K := by
  show Ev X (d + 1) 0 0 mX11_isFree 0 [(2, 78), (0, v1), (0, v2), (0, v3), (8, -1)] [] (sh, pt, h) (qRI sh pt K)
  refine ev_iload_n 1 rfl dX11_isFree_0 rfl rfl ?_
  refine ev_iload_n 2 rfl dX11_isFree_1 rfl rfl ?_
  refine ev_cSI (As := [(0, v2), (0, v3)]) (rest := []) 5 rfl dX11_isFree_2 lm_11_248 mm_X11_isSpot rfl rfl (Nat.le_of_ble_eq_true rfl) (Nat.le_of_ble_eq_true rfl) (Nat.le_refl _) H ?_
  intro r2 h1 H
  refine ev_if_ne (tgt := 10) 8 rfl dX11_isFree_5 (by decide) (fun cd => ?_) (fun cd => ?_)
  · have H := H.1 cd
    refine ev_iload_n 11 rfl dX11_isFree_10 rfl rfl ?_
    refine ev_aload_n 12 rfl dX11_isFree_11 rfl rfl ?_
    refine ev_getR (ki := 11) (v := 82) 15 rfl dX11_isFree_12 lf_11_28 (s_78 hst) (by decide) rfl (p_78_11 hst) ?_
    refine ev_iload_n 16 rfl dX11_isFree_15 rfl rfl ?_
    obtain ⟨b3, H⟩ := H
    refine ev_iaload 17 rfl dX11_isFree_16 (s_82 hst) b3.1 b3.2 ?_
    refine ev_icmp_ne (tgt := 32) 20 rfl dX11_isFree_17 (by decide) (fun cd => ?_) (fun cd => ?_)
    · have H := H.1 cd
      refine ev_aload_n 33 rfl dX11_isFree_32 rfl rfl ?_
      refine ev_getR (ki := 15) (v := 86) 36 rfl dX11_isFree_33 lf_11_40 (s_78 hst) (by decide) rfl (p_78_15 hst) ?_
      refine ev_bipush 38 rfl dX11_isFree_36 (by decide) (by decide) ?_
      refine ev_iload_n 39 rfl dX11_isFree_38 rfl rfl ?_
      obtain ⟨sd, H⟩ := H
      refine ev_imul 40 rfl dX11_isFree_39 sd ?_
      refine ev_iload_n 41 rfl dX11_isFree_40 rfl rfl ?_
      obtain ⟨sd, H⟩ := H
      refine ev_iadd 42 rfl dX11_isFree_41 sd ?_
      obtain ⟨b4, H⟩ := H
      refine ev_zaload 43 rfl dX11_isFree_42 (s_86 hst) b4.1 b4.2 ?_
      refine ev_if_eq (tgt := 48) 46 rfl dX11_isFree_43 (by decide) (fun cd => ?_) (fun cd => ?_)
      · have H := H.1 cd
        refine ev_iconst 49 rfl dX11_isFree_48 (by decide) ?_
        refine ev_istore (L1 := [(2, 78), (0, v1), (0, v2), (0, v3), (0, 0)]) 51 rfl dX11_isFree_49 (Nat.le_of_ble_eq_true rfl) rfl ?_
        exact H
      · have H := H.2 cd
        refine ev_iconst 47 rfl dX11_isFree_46 (by decide) ?_
        exact ev_retZ dX11_isFree_47 rfl (by decide) H
    · have H := H.2 cd
      refine ev_iload_n 21 rfl dX11_isFree_20 rfl rfl ?_
      refine ev_aload_n 22 rfl dX11_isFree_21 rfl rfl ?_
      refine ev_getR (ki := 12) (v := 83) 25 rfl dX11_isFree_22 lf_11_31 (s_78 hst) (by decide) rfl (p_78_12 hst) ?_
      refine ev_iload_n 26 rfl dX11_isFree_25 rfl rfl ?_
      obtain ⟨b5, H⟩ := H
      refine ev_iaload 27 rfl dX11_isFree_26 (s_83 hst) b5.1 b5.2 ?_
      refine ev_icmp_ne (tgt := 32) 30 rfl dX11_isFree_27 (by decide) (fun cd => ?_) (fun cd => ?_)
      · have H := H.1 cd
        refine ev_aload_n 33 rfl dX11_isFree_32 rfl rfl ?_
        refine ev_getR (ki := 15) (v := 86) 36 rfl dX11_isFree_33 lf_11_40 (s_78 hst) (by decide) rfl (p_78_15 hst) ?_
        refine ev_bipush 38 rfl dX11_isFree_36 (by decide) (by decide) ?_
        refine ev_iload_n 39 rfl dX11_isFree_38 rfl rfl ?_
        obtain ⟨sd, H⟩ := H
        refine ev_imul 40 rfl dX11_isFree_39 sd ?_
        refine ev_iload_n 41 rfl dX11_isFree_40 rfl rfl ?_
        obtain ⟨sd, H⟩ := H
        refine ev_iadd 42 rfl dX11_isFree_41 sd ?_
        obtain ⟨b6, H⟩ := H
        refine ev_zaload 43 rfl dX11_isFree_42 (s_86 hst) b6.1 b6.2 ?_
        refine ev_if_eq (tgt := 48) 46 rfl dX11_isFree_43 (by decide) (fun cd => ?_) (fun cd => ?_)
        · have H := H.1 cd
          refine ev_iconst 49 rfl dX11_isFree_48 (by decide) ?_
          refine ev_istore (L1 := [(2, 78), (0, v1), (0, v2), (0, v3), (0, 0)]) 51 rfl dX11_isFree_49 (Nat.le_of_ble_eq_true rfl) rfl ?_
          exact H
        · have H := H.2 cd
          refine ev_iconst 47 rfl dX11_isFree_46 (by decide) ?_
          exact ev_retZ dX11_isFree_47 rfl (by decide) H
      · have H := H.2 cd
        refine ev_iconst 31 rfl dX11_isFree_30 (by decide) ?_
        exact ev_retZ dX11_isFree_31 rfl (by decide) H
  · have H := H.2 cd
    refine ev_iconst 9 rfl dX11_isFree_8 (by decide) ?_
    exact ev_retZ dX11_isFree_9 rfl (by decide) H

set_option maxRecDepth 20000 in
theorem b_X11_isFree_51 {X : qX} {d : Nat} {sh : qS} {pt h : qM} {K : Int → qM → Prop} {v1 v2 v3 v4 : Int} (hst : St sh pt)
    (H : (((h 78 7) ≤ v4 → K 1 h) ∧ (v4 < (h 78 7) → ((v4 = v1 → (qI (v4 + 1)) ∧ EvI X (d + 1) mX11_isFree 51 [(2, 78), (0, v1), (0, v2), (0, v3), (0, (v4 + 1))] [] sh pt h K) ∧ (¬ v4 = v1 → (0 ≤ v4 ∧ v4 < 20) ∧ ((¬ (h 82 v4) = v2 → (qI (v4 + 1)) ∧ EvI X (d + 1) mX11_isFree 51 [(2, 78), (0, v1), (0, v2), (0, v3), (0, (v4 + 1))] [] sh pt h K) ∧ ((h 82 v4) = v2 → (0 ≤ v4 ∧ v4 < 20) ∧ ((¬ (h 83 v4) = v3 → (qI (v4 + 1)) ∧ EvI X (d + 1) mX11_isFree 51 [(2, 78), (0, v1), (0, v2), (0, v3), (0, (v4 + 1))] [] sh pt h K) ∧ ((h 83 v4) = v3 → K 0 h))))))))) :
    EvI X (d + 1) mX11_isFree 51 [(2, 78), (0, v1), (0, v2), (0, v3), (0, v4)] [] sh pt h K := by
  show Ev X (d + 1) 0 0 mX11_isFree 51 [(2, 78), (0, v1), (0, v2), (0, v3), (0, v4)] [] (sh, pt, h) (qRI sh pt K)
  refine ev_iload 53 rfl dX11_isFree_51 rfl ?_
  refine ev_aload_n 54 rfl dX11_isFree_53 rfl rfl ?_
  refine ev_getI (ki := 7) 57 rfl dX11_isFree_54 lf_11_245 (Or.inl rfl) (s_78 hst) (by decide) rfl ?_
  refine ev_icmp_ge (tgt := 96) 60 rfl dX11_isFree_57 (by decide) (fun cd => ?_) (fun cd => ?_)
  · have H := H.1 cd
    refine ev_iconst 97 rfl dX11_isFree_96 (by decide) ?_
    exact ev_retZ dX11_isFree_97 rfl (by decide) H
  · have H := H.2 cd
    refine ev_iload 62 rfl dX11_isFree_60 rfl ?_
    refine ev_iload_n 63 rfl dX11_isFree_62 rfl rfl ?_
    refine ev_icmp_eq (tgt := 90) 66 rfl dX11_isFree_63 (by decide) (fun cd => ?_) (fun cd => ?_)
    · have H := H.1 cd
      obtain ⟨sd, H⟩ := H
      refine ev_iinc (L1 := [(2, 78), (0, v1), (0, v2), (0, v3), (0, (v4 + 1))]) 93 rfl dX11_isFree_90 rfl sd (Nat.le_of_ble_eq_true rfl) rfl ?_
      refine ev_goto (tgt := 51) dX11_isFree_93 (by decide) ?_
      exact H
    · have H := H.2 cd
      refine ev_aload_n 67 rfl dX11_isFree_66 rfl rfl ?_
      refine ev_getR (ki := 11) (v := 82) 70 rfl dX11_isFree_67 lf_11_28 (s_78 hst) (by decide) rfl (p_78_11 hst) ?_
      refine ev_iload 72 rfl dX11_isFree_70 rfl ?_
      obtain ⟨b1, H⟩ := H
      refine ev_iaload 73 rfl dX11_isFree_72 (s_82 hst) b1.1 b1.2 ?_
      refine ev_iload_n 74 rfl dX11_isFree_73 rfl rfl ?_
      refine ev_icmp_ne (tgt := 90) 77 rfl dX11_isFree_74 (by decide) (fun cd => ?_) (fun cd => ?_)
      · have H := H.1 cd
        obtain ⟨sd, H⟩ := H
        refine ev_iinc (L1 := [(2, 78), (0, v1), (0, v2), (0, v3), (0, (v4 + 1))]) 93 rfl dX11_isFree_90 rfl sd (Nat.le_of_ble_eq_true rfl) rfl ?_
        refine ev_goto (tgt := 51) dX11_isFree_93 (by decide) ?_
        exact H
      · have H := H.2 cd
        refine ev_aload_n 78 rfl dX11_isFree_77 rfl rfl ?_
        refine ev_getR (ki := 12) (v := 83) 81 rfl dX11_isFree_78 lf_11_31 (s_78 hst) (by decide) rfl (p_78_12 hst) ?_
        refine ev_iload 83 rfl dX11_isFree_81 rfl ?_
        obtain ⟨b2, H⟩ := H
        refine ev_iaload 84 rfl dX11_isFree_83 (s_83 hst) b2.1 b2.2 ?_
        refine ev_iload_n 85 rfl dX11_isFree_84 rfl rfl ?_
        refine ev_icmp_ne (tgt := 90) 88 rfl dX11_isFree_85 (by decide) (fun cd => ?_) (fun cd => ?_)
        · have H := H.1 cd
          obtain ⟨sd, H⟩ := H
          refine ev_iinc (L1 := [(2, 78), (0, v1), (0, v2), (0, v3), (0, (v4 + 1))]) 93 rfl dX11_isFree_90 rfl sd (Nat.le_of_ble_eq_true rfl) rfl ?_
          refine ev_goto (tgt := 51) dX11_isFree_93 (by decide) ?_
          exact H
        · have H := H.2 cd
          refine ev_iconst 89 rfl dX11_isFree_88 (by decide) ?_
          exact ev_retZ dX11_isFree_89 rfl (by decide) H

set_option maxRecDepth 20000 in
theorem b_X11_path {X : qX} {d : Nat} {sh : qS} {pt h : qM} {K : Int → qM → Prop} {v1 v2 v3 v4 : Int} (hst : St sh pt)
    (H : ∀ h1 : qM, h1 = qup h 78 1 0 → ∀ h2 : qM, h2 = qup h1 78 0 0 → RunI X d mX11_isMarcher [(2, 78), (0, v1)] sh pt h2 (fun r4 h3 => ((¬ r4 = 0 → RunI X d mX11_isSpot [(0, v2), (0, v3)] sh pt h3 (fun r6 h5 => ((r6 = 0 → RunI X d mX11_refuse [(2, 78), (0, 5)] sh pt h5 (fun r8 h7 => K r8 h7)) ∧ (¬ r6 = 0 → ((v4 = (-1) → EvI X (d + 1) mX11_path 60 [(2, 78), (0, v1), (0, v2), (0, v3), (0, v4), (0, 0), (8, -1), (8, -1), (8, -1), (8, -1), (8, -1), (8, -1), (8, -1), (8, -1), (8, -1), (8, -1), (8, -1)] [] sh pt h5 K) ∧ (¬ v4 = (-1) → RunI X d mX11_isIn [(1, v4), (1, 0), (1, 7)] sh pt h5 (fun r10 h9 => ((¬ r10 = 0 → EvI X (d + 1) mX11_path 60 [(2, 78), (0, v1), (0, v2), (0, v3), (0, v4), (0, 0), (8, -1), (8, -1), (8, -1), (8, -1), (8, -1), (8, -1), (8, -1), (8, -1), (8, -1), (8, -1), (8, -1)] [] sh pt h9 K) ∧ (r10 = 0 → RunI X d mX11_refuse [(2, 78), (0, 5)] sh pt h9 (fun r12 h11 => K r12 h11)))))))))) ∧ (r4 = 0 → RunI X d mX11_refuse [(2, 78), (0, 2)] sh pt h3 (fun r14 h13 => K r14 h13))))) :
    RunI X (d + 1) mX11_path [(2, 78), (0, v1), (0, v2), (0, v3), (0, v4)] sh pt h K := by
  show Ev X (d + 1) 0 0 mX11_path 0 [(2, 78), (0, v1), (0, v2), (0, v3), (0, v4), (8, -1), (8, -1), (8, -1), (8, -1), (8, -1), (8, -1), (8, -1), (8, -1), (8, -1), (8, -1), (8, -1), (8, -1)] [] (sh, pt, h) (qRI sh pt K)
  refine ev_aload_n 1 rfl dX11_path_0 rfl rfl ?_
  refine ev_iconst 2 rfl dX11_path_1 (by decide) ?_
  refine ev_putI (ki := 1) 5 rfl dX11_path_2 lf_11_213 (Or.inl rfl) (s_78 hst) (by decide) rfl ?_
  obtain ⟨h1, eh1⟩ : ∃ z : qM, z = qup h 78 1 0 := ⟨_, rfl⟩
  rw [← eh1]
  have H := H h1 eh1
  refine ev_aload_n 6 rfl dX11_path_5 rfl rfl ?_
  refine ev_iconst 7 rfl dX11_path_6 (by decide) ?_
  refine ev_putI (ki := 0) 10 rfl dX11_path_7 lf_11_216 (Or.inl rfl) (s_78 hst) (by decide) rfl ?_
  obtain ⟨h2, eh2⟩ : ∃ z : qM, z = qup h1 78 0 0 := ⟨_, rfl⟩
  rw [← eh2]
  have H := H h2 eh2
  refine ev_aload_n 11 rfl dX11_path_10 rfl rfl ?_
  refine ev_iload_n 12 rfl dX11_path_11 rfl rfl ?_
  refine ev_cVI (As := [(0, v1)]) (rest := []) 15 rfl dX11_path_12 lm_11_498 mm_X11_isMarcher (s_78 hst) rfl rfl (Nat.le_of_ble_eq_true rfl) (Nat.le_of_ble_eq_true rfl) (Nat.le_refl _) H ?_
  intro r4 h3 H
  refine ev_if_ne (tgt := 24) 18 rfl dX11_path_15 (by decide) (fun cd => ?_) (fun cd => ?_)
  · have H := H.1 cd
    refine ev_iload_n 25 rfl dX11_path_24 rfl rfl ?_
    refine ev_iload_n 26 rfl dX11_path_25 rfl rfl ?_
    refine ev_cSI (As := [(0, v2), (0, v3)]) (rest := []) 29 rfl dX11_path_26 lm_11_248 mm_X11_isSpot rfl rfl (Nat.le_of_ble_eq_true rfl) (Nat.le_of_ble_eq_true rfl) (Nat.le_refl _) H ?_
    intro r6 h5 H
    refine ev_if_eq (tgt := 51) 32 rfl dX11_path_29 (by decide) (fun cd => ?_) (fun cd => ?_)
    · have H := H.1 cd
      refine ev_aload_n 52 rfl dX11_path_51 rfl rfl ?_
      refine ev_iconst 53 rfl dX11_path_52 (by decide) ?_
      refine ev_cVI (As := [(0, 5)]) (rest := []) 56 rfl dX11_path_53 lm_11_254 mm_X11_refuse (s_78 hst) rfl rfl (Nat.le_of_ble_eq_true rfl) (Nat.le_of_ble_eq_true rfl) (Nat.le_refl _) H ?_
      intro r8 h7 H
      exact ev_retI dX11_path_56 rfl H
    · have H := H.2 cd
      refine ev_iload 34 rfl dX11_path_32 rfl ?_
      refine ev_iconst 35 rfl dX11_path_34 (by decide) ?_
      refine ev_icmp_eq (tgt := 57) 38 rfl dX11_path_35 (by decide) (fun cd => ?_) (fun cd => ?_)
      · have H := H.1 cd
        refine ev_iconst 58 rfl dX11_path_57 (by decide) ?_
        refine ev_istore (L1 := [(2, 78), (0, v1), (0, v2), (0, v3), (0, v4), (0, 0), (8, -1), (8, -1), (8, -1), (8, -1), (8, -1), (8, -1), (8, -1), (8, -1), (8, -1), (8, -1), (8, -1)]) 60 rfl dX11_path_58 (Nat.le_of_ble_eq_true rfl) rfl ?_
        exact H
      · have H := H.2 cd
        refine ev_iload 40 rfl dX11_path_38 rfl ?_
        refine ev_i2l 41 rfl dX11_path_40 ?_
        refine ev_lconst (v := 0) 42 rfl dX11_path_41 (by decide) (by decide) ?_
        refine ev_ldc2 45 rfl dX11_path_42 kl_11_252 (by decide) ?_
        refine ev_cSI (As := [(1, v4), (1, 0), (1, 7)]) (rest := []) 48 rfl dX11_path_45 lm_11_221 mm_X11_isIn rfl rfl (Nat.le_of_ble_eq_true rfl) (Nat.le_of_ble_eq_true rfl) (Nat.le_refl _) H ?_
        intro r10 h9 H
        refine ev_if_ne (tgt := 57) 51 rfl dX11_path_48 (by decide) (fun cd => ?_) (fun cd => ?_)
        · have H := H.1 cd
          refine ev_iconst 58 rfl dX11_path_57 (by decide) ?_
          refine ev_istore (L1 := [(2, 78), (0, v1), (0, v2), (0, v3), (0, v4), (0, 0), (8, -1), (8, -1), (8, -1), (8, -1), (8, -1), (8, -1), (8, -1), (8, -1), (8, -1), (8, -1), (8, -1)]) 60 rfl dX11_path_58 (Nat.le_of_ble_eq_true rfl) rfl ?_
          exact H
        · have H := H.2 cd
          refine ev_aload_n 52 rfl dX11_path_51 rfl rfl ?_
          refine ev_iconst 53 rfl dX11_path_52 (by decide) ?_
          refine ev_cVI (As := [(0, 5)]) (rest := []) 56 rfl dX11_path_53 lm_11_254 mm_X11_refuse (s_78 hst) rfl rfl (Nat.le_of_ble_eq_true rfl) (Nat.le_of_ble_eq_true rfl) (Nat.le_refl _) H ?_
          intro r12 h11 H
          exact ev_retI dX11_path_56 rfl H
  · have H := H.2 cd
    refine ev_aload_n 19 rfl dX11_path_18 rfl rfl ?_
    refine ev_iconst 20 rfl dX11_path_19 (by decide) ?_
    refine ev_cVI (As := [(0, 2)]) (rest := []) 23 rfl dX11_path_20 lm_11_254 mm_X11_refuse (s_78 hst) rfl rfl (Nat.le_of_ble_eq_true rfl) (Nat.le_of_ble_eq_true rfl) (Nat.le_refl _) H ?_
    intro r14 h13 H
    exact ev_retI dX11_path_23 rfl H

set_option maxRecDepth 20000 in
theorem b_X11_path_60 {X : qX} {d : Nat} {sh : qS} {pt h : qM} {K : Int → qM → Prop} {v1 v2 v3 v4 v5 : Int} (hst : St sh pt)
    (H : ((19200 ≤ v5 → (0 ≤ v1 ∧ v1 < 20) ∧ (qI (40 * (h 82 v1))) ∧ (0 ≤ v1 ∧ v1 < 20) ∧ (qI ((40 * (h 82 v1)) + (h 83 v1))) ∧ (qI (8 * ((40 * (h 82 v1)) + (h 83 v1)))) ∧ (0 ≤ v1 ∧ v1 < 20) ∧ (qI ((8 * ((40 * (h 82 v1)) + (h 83 v1))) + (h 84 v1))) ∧ ∀ x4 : Int, x4 = ((8 * ((40 * (h 82 v1)) + (h 83 v1))) + (h 84 v1)) → (0 ≤ x4 ∧ x4 < 19200) ∧ ∀ h6 : qM, h6 = qup h 120 x4 x4 → ∀ h7 : qM, h7 = qup h6 122 0 x4 → EvI X (d + 1) mX11_path 136 [(2, 78), (0, v1), (0, v2), (0, v3), (0, v4), (0, x4), (0, 1), (0, (-1)), (0, 0), (8, -1), (8, -1), (8, -1), (8, -1), (8, -1), (8, -1), (8, -1), (8, -1)] [] sh pt h7 K) ∧ (v5 < 19200 → (0 ≤ v5 ∧ v5 < 19200) ∧ ∀ h9 : qM, h9 = qup h 120 v5 (-1) → (qI (v5 + 1)) ∧ EvI X (d + 1) mX11_path 60 [(2, 78), (0, v1), (0, v2), (0, v3), (0, v4), (0, (v5 + 1)), (8, -1), (8, -1), (8, -1), (8, -1), (8, -1), (8, -1), (8, -1), (8, -1), (8, -1), (8, -1), (8, -1)] [] sh pt h9 K))) :
    EvI X (d + 1) mX11_path 60 [(2, 78), (0, v1), (0, v2), (0, v3), (0, v4), (0, v5), (8, -1), (8, -1), (8, -1), (8, -1), (8, -1), (8, -1), (8, -1), (8, -1), (8, -1), (8, -1), (8, -1)] [] sh pt h K := by
  show Ev X (d + 1) 0 0 mX11_path 60 [(2, 78), (0, v1), (0, v2), (0, v3), (0, v4), (0, v5), (8, -1), (8, -1), (8, -1), (8, -1), (8, -1), (8, -1), (8, -1), (8, -1), (8, -1), (8, -1), (8, -1)] [] (sh, pt, h) (qRI sh pt K)
  refine ev_iload 62 rfl dX11_path_60 rfl ?_
  refine ev_sipush 65 rfl dX11_path_62 (by decide) (by decide) ?_
  refine ev_icmp_ge (tgt := 82) 68 rfl dX11_path_65 (by decide) (fun cd => ?_) (fun cd => ?_)
  · have H := H.1 cd
    refine ev_bipush 84 rfl dX11_path_82 (by decide) (by decide) ?_
    refine ev_bipush 86 rfl dX11_path_84 (by decide) (by decide) ?_
    refine ev_aload_n 87 rfl dX11_path_86 rfl rfl ?_
    refine ev_getR (ki := 11) (v := 82) 90 rfl dX11_path_87 lf_11_28 (s_78 hst) (by decide) rfl (p_78_11 hst) ?_
    refine ev_iload_n 91 rfl dX11_path_90 rfl rfl ?_
    obtain ⟨b1, H⟩ := H
    refine ev_iaload 92 rfl dX11_path_91 (s_82 hst) b1.1 b1.2 ?_
    obtain ⟨sd, H⟩ := H
    refine ev_imul 93 rfl dX11_path_92 sd ?_
    refine ev_aload_n 94 rfl dX11_path_93 rfl rfl ?_
    refine ev_getR (ki := 12) (v := 83) 97 rfl dX11_path_94 lf_11_31 (s_78 hst) (by decide) rfl (p_78_12 hst) ?_
    refine ev_iload_n 98 rfl dX11_path_97 rfl rfl ?_
    obtain ⟨b2, H⟩ := H
    refine ev_iaload 99 rfl dX11_path_98 (s_83 hst) b2.1 b2.2 ?_
    obtain ⟨sd, H⟩ := H
    refine ev_iadd 100 rfl dX11_path_99 sd ?_
    obtain ⟨sd, H⟩ := H
    refine ev_imul 101 rfl dX11_path_100 sd ?_
    refine ev_aload_n 102 rfl dX11_path_101 rfl rfl ?_
    refine ev_getR (ki := 13) (v := 84) 105 rfl dX11_path_102 lf_11_34 (s_78 hst) (by decide) rfl (p_78_13 hst) ?_
    refine ev_iload_n 106 rfl dX11_path_105 rfl rfl ?_
    obtain ⟨b3, H⟩ := H
    refine ev_iaload 107 rfl dX11_path_106 (s_84 hst) b3.1 b3.2 ?_
    obtain ⟨sd, H⟩ := H
    refine ev_iadd 108 rfl dX11_path_107 sd ?_
    obtain ⟨x4, ex4⟩ : ∃ z : Int, z = ((8 * ((40 * (h 82 v1)) + (h 83 v1))) + (h 84 v1)) := ⟨_, rfl⟩
    rw [← ex4]
    have H := H x4 ex4
    refine ev_istore (L1 := [(2, 78), (0, v1), (0, v2), (0, v3), (0, v4), (0, x4), (8, -1), (8, -1), (8, -1), (8, -1), (8, -1), (8, -1), (8, -1), (8, -1), (8, -1), (8, -1), (8, -1)]) 110 rfl dX11_path_108 (Nat.le_of_ble_eq_true rfl) rfl ?_
    refine ev_aload_n 111 rfl dX11_path_110 rfl rfl ?_
    refine ev_getR (ki := 80) (v := 120) 114 rfl dX11_path_111 lf_11_162 (s_78 hst) (by decide) rfl (p_78_80 hst) ?_
    refine ev_iload 116 rfl dX11_path_114 rfl ?_
    refine ev_iload 118 rfl dX11_path_116 rfl ?_
    obtain ⟨b5, H⟩ := H
    refine ev_iastore 119 rfl dX11_path_118 (s_120 hst) b5.1 b5.2 ?_
    obtain ⟨h6, eh6⟩ : ∃ z : qM, z = qup h 120 x4 x4 := ⟨_, rfl⟩
    rw [← eh6]
    have H := H h6 eh6
    refine ev_aload_n 120 rfl dX11_path_119 rfl rfl ?_
    refine ev_getR (ki := 82) (v := 122) 123 rfl dX11_path_120 lf_11_168 (s_78 hst) (by decide) rfl (p_78_82 hst) ?_
    refine ev_iconst 124 rfl dX11_path_123 (by decide) ?_
    refine ev_iload 126 rfl dX11_path_124 rfl ?_
    refine ev_iastore 127 rfl dX11_path_126 (s_122 hst) (by decide) (by decide) ?_
    obtain ⟨h7, eh7⟩ : ∃ z : qM, z = qup h6 122 0 x4 := ⟨_, rfl⟩
    rw [← eh7]
    have H := H h7 eh7
    refine ev_iconst 128 rfl dX11_path_127 (by decide) ?_
    refine ev_istore (L1 := [(2, 78), (0, v1), (0, v2), (0, v3), (0, v4), (0, x4), (0, 1), (8, -1), (8, -1), (8, -1), (8, -1), (8, -1), (8, -1), (8, -1), (8, -1), (8, -1), (8, -1)]) 130 rfl dX11_path_128 (Nat.le_of_ble_eq_true rfl) rfl ?_
    refine ev_iconst 131 rfl dX11_path_130 (by decide) ?_
    refine ev_istore (L1 := [(2, 78), (0, v1), (0, v2), (0, v3), (0, v4), (0, x4), (0, 1), (0, (-1)), (8, -1), (8, -1), (8, -1), (8, -1), (8, -1), (8, -1), (8, -1), (8, -1), (8, -1)]) 133 rfl dX11_path_131 (Nat.le_of_ble_eq_true rfl) rfl ?_
    refine ev_iconst 134 rfl dX11_path_133 (by decide) ?_
    refine ev_istore (L1 := [(2, 78), (0, v1), (0, v2), (0, v3), (0, v4), (0, x4), (0, 1), (0, (-1)), (0, 0), (8, -1), (8, -1), (8, -1), (8, -1), (8, -1), (8, -1), (8, -1), (8, -1)]) 136 rfl dX11_path_134 (Nat.le_of_ble_eq_true rfl) rfl ?_
    exact H
  · have H := H.2 cd
    refine ev_aload_n 69 rfl dX11_path_68 rfl rfl ?_
    refine ev_getR (ki := 80) (v := 120) 72 rfl dX11_path_69 lf_11_162 (s_78 hst) (by decide) rfl (p_78_80 hst) ?_
    refine ev_iload 74 rfl dX11_path_72 rfl ?_
    refine ev_iconst 75 rfl dX11_path_74 (by decide) ?_
    obtain ⟨b8, H⟩ := H
    refine ev_iastore 76 rfl dX11_path_75 (s_120 hst) b8.1 b8.2 ?_
    obtain ⟨h9, eh9⟩ : ∃ z : qM, z = qup h 120 v5 (-1) := ⟨_, rfl⟩
    rw [← eh9]
    have H := H h9 eh9
    obtain ⟨sd, H⟩ := H
    refine ev_iinc (L1 := [(2, 78), (0, v1), (0, v2), (0, v3), (0, v4), (0, (v5 + 1)), (8, -1), (8, -1), (8, -1), (8, -1), (8, -1), (8, -1), (8, -1), (8, -1), (8, -1), (8, -1), (8, -1)]) 79 rfl dX11_path_76 rfl sd (Nat.le_of_ble_eq_true rfl) rfl ?_
    refine ev_goto (tgt := 60) dX11_path_79 (by decide) ?_
    exact H

set_option maxRecDepth 20000 in
theorem b_X11_path_136 {X : qX} {d : Nat} {sh : qS} {pt h : qM} {K : Int → qM → Prop} {v1 v2 v3 v4 v5 v6 v7 v8 : Int} (hst : St sh pt)
    (H : ((v6 ≤ v8 → ((0 ≤ v7 → EvI X (d + 1) mX11_path 404 [(2, 78), (8, -1), (8, -1), (8, -1), (8, -1), (0, v5), (8, -1), (0, v7), (0, 0), (0, v7), (8, -1), (8, -1), (8, -1), (8, -1), (8, -1), (8, -1), (8, -1)] [] sh pt h K) ∧ (v7 < 0 → RunI X d mX11_refuse [(2, 78), (0, 8)] sh pt h (fun r2 h1 => K r2 h1)))) ∧ (v8 < v6 → ((0 ≤ v7 → ((0 ≤ v7 → EvI X (d + 1) mX11_path 404 [(2, 78), (8, -1), (8, -1), (8, -1), (8, -1), (0, v5), (8, -1), (0, v7), (0, 0), (0, v7), (8, -1), (8, -1), (8, -1), (8, -1), (8, -1), (8, -1), (8, -1)] [] sh pt h K) ∧ (v7 < 0 → RunI X d mX11_refuse [(2, 78), (0, 8)] sh pt h (fun r4 h3 => K r4 h3)))) ∧ (v7 < 0 → (0 ≤ v8 ∧ v8 < 19200) ∧ (0 ≤ (h 122 v8)) ∧ (0 ≤ ((h 122 v8) / 8)) ∧ (0 ≤ (h 122 v8)) ∧ (0 ≤ ((h 122 v8) / 8)) ∧ ((¬ (((h 122 v8) / 8) / 40) = v2 → EvI X (d + 1) mX11_path 212 [(2, 78), (0, v1), (0, v2), (0, v3), (0, v4), (0, v5), (0, v6), (0, v7), (0, v8), (0, (h 122 v8)), (0, (((h 122 v8) / 8) / 40)), (0, (((h 122 v8) / 8) % 40)), (0, 0), (8, -1), (8, -1), (8, -1), (8, -1)] [] sh pt h K) ∧ ((((h 122 v8) / 8) / 40) = v2 → ((¬ (((h 122 v8) / 8) % 40) = v3 → EvI X (d + 1) mX11_path 212 [(2, 78), (0, v1), (0, v2), (0, v3), (0, v4), (0, v5), (0, v6), (0, v7), (0, v8), (0, (h 122 v8)), (0, (((h 122 v8) / 8) / 40)), (0, (((h 122 v8) / 8) % 40)), (0, 0), (8, -1), (8, -1), (8, -1), (8, -1)] [] sh pt h K) ∧ ((((h 122 v8) / 8) % 40) = v3 → ((v4 = (-1) → EvI X (d + 1) mX11_path 212 [(2, 78), (0, v1), (0, v2), (0, v3), (0, v4), (0, v5), (0, v6), (0, (h 122 v8)), (0, v8), (0, (h 122 v8)), (0, (((h 122 v8) / 8) / 40)), (0, (((h 122 v8) / 8) % 40)), (0, 0), (8, -1), (8, -1), (8, -1), (8, -1)] [] sh pt h K) ∧ (¬ v4 = (-1) → (0 ≤ (h 122 v8)) ∧ ((¬ ((h 122 v8) % 8) = v4 → EvI X (d + 1) mX11_path 212 [(2, 78), (0, v1), (0, v2), (0, v3), (0, v4), (0, v5), (0, v6), (0, v7), (0, v8), (0, (h 122 v8)), (0, (((h 122 v8) / 8) / 40)), (0, (((h 122 v8) / 8) % 40)), (0, 0), (8, -1), (8, -1), (8, -1), (8, -1)] [] sh pt h K) ∧ (((h 122 v8) % 8) = v4 → EvI X (d + 1) mX11_path 212 [(2, 78), (0, v1), (0, v2), (0, v3), (0, v4), (0, v5), (0, v6), (0, (h 122 v8)), (0, v8), (0, (h 122 v8)), (0, (((h 122 v8) / 8) / 40)), (0, (((h 122 v8) / 8) % 40)), (0, 0), (8, -1), (8, -1), (8, -1), (8, -1)] [] sh pt h K))))))))))))) :
    EvI X (d + 1) mX11_path 136 [(2, 78), (0, v1), (0, v2), (0, v3), (0, v4), (0, v5), (0, v6), (0, v7), (0, v8), (8, -1), (8, -1), (8, -1), (8, -1), (8, -1), (8, -1), (8, -1), (8, -1)] [] sh pt h K := by
  show Ev X (d + 1) 0 0 mX11_path 136 [(2, 78), (0, v1), (0, v2), (0, v3), (0, v4), (0, v5), (0, v6), (0, v7), (0, v8), (8, -1), (8, -1), (8, -1), (8, -1), (8, -1), (8, -1), (8, -1), (8, -1)] [] (sh, pt, h) (qRI sh pt K)
  refine ev_iload 138 rfl dX11_path_136 rfl ?_
  refine ev_iload 140 rfl dX11_path_138 rfl ?_
  refine ev_icmp_ge (tgt := 385) 143 rfl dX11_path_140 (by decide) (fun cd => ?_) (fun cd => ?_)
  · have H := H.1 cd
    refine ev_iload 387 rfl dX11_path_385 rfl ?_
    refine ev_if_ge (tgt := 397) 390 rfl dX11_path_387 (by decide) (fun cd => ?_) (fun cd => ?_)
    · have H := H.1 cd
      refine ev_iconst 398 rfl dX11_path_397 (by decide) ?_
      refine ev_istore (L1 := [(2, 78), (0, v1), (0, v2), (0, v3), (0, v4), (0, v5), (0, v6), (0, v7), (0, 0), (8, -1), (8, -1), (8, -1), (8, -1), (8, -1), (8, -1), (8, -1), (8, -1)]) 400 rfl dX11_path_398 (Nat.le_of_ble_eq_true rfl) rfl ?_
      refine ev_iload 402 rfl dX11_path_400 rfl ?_
      refine ev_istore (L1 := [(2, 78), (0, v1), (0, v2), (0, v3), (0, v4), (0, v5), (0, v6), (0, v7), (0, 0), (0, v7), (8, -1), (8, -1), (8, -1), (8, -1), (8, -1), (8, -1), (8, -1)]) 404 rfl dX11_path_402 (Nat.le_of_ble_eq_true rfl) rfl ?_
      refine Ev.drop [1, 2, 3, 4, 6] rfl ?_
      exact H
    · have H := H.2 cd
      refine ev_aload_n 391 rfl dX11_path_390 rfl rfl ?_
      refine ev_bipush 393 rfl dX11_path_391 (by decide) (by decide) ?_
      refine ev_cVI (As := [(0, 8)]) (rest := []) 396 rfl dX11_path_393 lm_11_254 mm_X11_refuse (s_78 hst) rfl rfl (Nat.le_of_ble_eq_true rfl) (Nat.le_of_ble_eq_true rfl) (Nat.le_refl _) H ?_
      intro r2 h1 H
      exact ev_retI dX11_path_396 rfl H
  · have H := H.2 cd
    refine ev_iload 145 rfl dX11_path_143 rfl ?_
    refine ev_if_ge (tgt := 385) 148 rfl dX11_path_145 (by decide) (fun cd => ?_) (fun cd => ?_)
    · have H := H.1 cd
      refine ev_iload 387 rfl dX11_path_385 rfl ?_
      refine ev_if_ge (tgt := 397) 390 rfl dX11_path_387 (by decide) (fun cd => ?_) (fun cd => ?_)
      · have H := H.1 cd
        refine ev_iconst 398 rfl dX11_path_397 (by decide) ?_
        refine ev_istore (L1 := [(2, 78), (0, v1), (0, v2), (0, v3), (0, v4), (0, v5), (0, v6), (0, v7), (0, 0), (8, -1), (8, -1), (8, -1), (8, -1), (8, -1), (8, -1), (8, -1), (8, -1)]) 400 rfl dX11_path_398 (Nat.le_of_ble_eq_true rfl) rfl ?_
        refine ev_iload 402 rfl dX11_path_400 rfl ?_
        refine ev_istore (L1 := [(2, 78), (0, v1), (0, v2), (0, v3), (0, v4), (0, v5), (0, v6), (0, v7), (0, 0), (0, v7), (8, -1), (8, -1), (8, -1), (8, -1), (8, -1), (8, -1), (8, -1)]) 404 rfl dX11_path_402 (Nat.le_of_ble_eq_true rfl) rfl ?_
        refine Ev.drop [1, 2, 3, 4, 6] rfl ?_
        exact H
      · have H := H.2 cd
        refine ev_aload_n 391 rfl dX11_path_390 rfl rfl ?_
        refine ev_bipush 393 rfl dX11_path_391 (by decide) (by decide) ?_
        refine ev_cVI (As := [(0, 8)]) (rest := []) 396 rfl dX11_path_393 lm_11_254 mm_X11_refuse (s_78 hst) rfl rfl (Nat.le_of_ble_eq_true rfl) (Nat.le_of_ble_eq_true rfl) (Nat.le_refl _) H ?_
        intro r4 h3 H
        exact ev_retI dX11_path_396 rfl H
    · have H := H.2 cd
      refine ev_aload_n 149 rfl dX11_path_148 rfl rfl ?_
      refine ev_getR (ki := 82) (v := 122) 152 rfl dX11_path_149 lf_11_168 (s_78 hst) (by decide) rfl (p_78_82 hst) ?_
      refine ev_iload 154 rfl dX11_path_152 rfl ?_
      obtain ⟨b5, H⟩ := H
      refine ev_iaload 155 rfl dX11_path_154 (s_122 hst) b5.1 b5.2 ?_
      refine ev_istore (L1 := [(2, 78), (0, v1), (0, v2), (0, v3), (0, v4), (0, v5), (0, v6), (0, v7), (0, v8), (0, (h 122 v8)), (8, -1), (8, -1), (8, -1), (8, -1), (8, -1), (8, -1), (8, -1)]) 157 rfl dX11_path_155 (Nat.le_of_ble_eq_true rfl) rfl ?_
      refine ev_iload 159 rfl dX11_path_157 rfl ?_
      refine ev_bipush 161 rfl dX11_path_159 (by decide) (by decide) ?_
      obtain ⟨sd, H⟩ := H
      refine ev_idivP 162 rfl dX11_path_161 ⟨sd, by decide⟩ ?_
      refine ev_bipush 164 rfl dX11_path_162 (by decide) (by decide) ?_
      obtain ⟨sd, H⟩ := H
      refine ev_idivP 165 rfl dX11_path_164 ⟨sd, by decide⟩ ?_
      refine ev_istore (L1 := [(2, 78), (0, v1), (0, v2), (0, v3), (0, v4), (0, v5), (0, v6), (0, v7), (0, v8), (0, (h 122 v8)), (0, (((h 122 v8) / 8) / 40)), (8, -1), (8, -1), (8, -1), (8, -1), (8, -1), (8, -1)]) 167 rfl dX11_path_165 (Nat.le_of_ble_eq_true rfl) rfl ?_
      refine ev_iload 169 rfl dX11_path_167 rfl ?_
      refine ev_bipush 171 rfl dX11_path_169 (by decide) (by decide) ?_
      obtain ⟨sd, H⟩ := H
      refine ev_idivP 172 rfl dX11_path_171 ⟨sd, by decide⟩ ?_
      refine ev_bipush 174 rfl dX11_path_172 (by decide) (by decide) ?_
      obtain ⟨sd, H⟩ := H
      refine ev_iremP 175 rfl dX11_path_174 ⟨sd, by decide⟩ ?_
      refine ev_istore (L1 := [(2, 78), (0, v1), (0, v2), (0, v3), (0, v4), (0, v5), (0, v6), (0, v7), (0, v8), (0, (h 122 v8)), (0, (((h 122 v8) / 8) / 40)), (0, (((h 122 v8) / 8) % 40)), (8, -1), (8, -1), (8, -1), (8, -1), (8, -1)]) 177 rfl dX11_path_175 (Nat.le_of_ble_eq_true rfl) rfl ?_
      refine ev_iload 179 rfl dX11_path_177 rfl ?_
      refine ev_iload_n 180 rfl dX11_path_179 rfl rfl ?_
      refine ev_icmp_ne (tgt := 209) 183 rfl dX11_path_180 (by decide) (fun cd => ?_) (fun cd => ?_)
      · have H := H.1 cd
        refine ev_iconst 210 rfl dX11_path_209 (by decide) ?_
        refine ev_istore (L1 := [(2, 78), (0, v1), (0, v2), (0, v3), (0, v4), (0, v5), (0, v6), (0, v7), (0, v8), (0, (h 122 v8)), (0, (((h 122 v8) / 8) / 40)), (0, (((h 122 v8) / 8) % 40)), (0, 0), (8, -1), (8, -1), (8, -1), (8, -1)]) 212 rfl dX11_path_210 (Nat.le_of_ble_eq_true rfl) rfl ?_
        exact H
      · have H := H.2 cd
        refine ev_iload 185 rfl dX11_path_183 rfl ?_
        refine ev_iload_n 186 rfl dX11_path_185 rfl rfl ?_
        refine ev_icmp_ne (tgt := 209) 189 rfl dX11_path_186 (by decide) (fun cd => ?_) (fun cd => ?_)
        · have H := H.1 cd
          refine ev_iconst 210 rfl dX11_path_209 (by decide) ?_
          refine ev_istore (L1 := [(2, 78), (0, v1), (0, v2), (0, v3), (0, v4), (0, v5), (0, v6), (0, v7), (0, v8), (0, (h 122 v8)), (0, (((h 122 v8) / 8) / 40)), (0, (((h 122 v8) / 8) % 40)), (0, 0), (8, -1), (8, -1), (8, -1), (8, -1)]) 212 rfl dX11_path_210 (Nat.le_of_ble_eq_true rfl) rfl ?_
          exact H
        · have H := H.2 cd
          refine ev_iload 191 rfl dX11_path_189 rfl ?_
          refine ev_iconst 192 rfl dX11_path_191 (by decide) ?_
          refine ev_icmp_eq (tgt := 205) 195 rfl dX11_path_192 (by decide) (fun cd => ?_) (fun cd => ?_)
          · have H := H.1 cd
            refine ev_iload 207 rfl dX11_path_205 rfl ?_
            refine ev_istore (L1 := [(2, 78), (0, v1), (0, v2), (0, v3), (0, v4), (0, v5), (0, v6), (0, (h 122 v8)), (0, v8), (0, (h 122 v8)), (0, (((h 122 v8) / 8) / 40)), (0, (((h 122 v8) / 8) % 40)), (8, -1), (8, -1), (8, -1), (8, -1), (8, -1)]) 209 rfl dX11_path_207 (Nat.le_of_ble_eq_true rfl) rfl ?_
            refine ev_iconst 210 rfl dX11_path_209 (by decide) ?_
            refine ev_istore (L1 := [(2, 78), (0, v1), (0, v2), (0, v3), (0, v4), (0, v5), (0, v6), (0, (h 122 v8)), (0, v8), (0, (h 122 v8)), (0, (((h 122 v8) / 8) / 40)), (0, (((h 122 v8) / 8) % 40)), (0, 0), (8, -1), (8, -1), (8, -1), (8, -1)]) 212 rfl dX11_path_210 (Nat.le_of_ble_eq_true rfl) rfl ?_
            exact H
          · have H := H.2 cd
            refine ev_iload 197 rfl dX11_path_195 rfl ?_
            refine ev_bipush 199 rfl dX11_path_197 (by decide) (by decide) ?_
            obtain ⟨sd, H⟩ := H
            refine ev_iremP 200 rfl dX11_path_199 ⟨sd, by decide⟩ ?_
            refine ev_iload 202 rfl dX11_path_200 rfl ?_
            refine ev_icmp_ne (tgt := 209) 205 rfl dX11_path_202 (by decide) (fun cd => ?_) (fun cd => ?_)
            · have H := H.1 cd
              refine ev_iconst 210 rfl dX11_path_209 (by decide) ?_
              refine ev_istore (L1 := [(2, 78), (0, v1), (0, v2), (0, v3), (0, v4), (0, v5), (0, v6), (0, v7), (0, v8), (0, (h 122 v8)), (0, (((h 122 v8) / 8) / 40)), (0, (((h 122 v8) / 8) % 40)), (0, 0), (8, -1), (8, -1), (8, -1), (8, -1)]) 212 rfl dX11_path_210 (Nat.le_of_ble_eq_true rfl) rfl ?_
              exact H
            · have H := H.2 cd
              refine ev_iload 207 rfl dX11_path_205 rfl ?_
              refine ev_istore (L1 := [(2, 78), (0, v1), (0, v2), (0, v3), (0, v4), (0, v5), (0, v6), (0, (h 122 v8)), (0, v8), (0, (h 122 v8)), (0, (((h 122 v8) / 8) / 40)), (0, (((h 122 v8) / 8) % 40)), (8, -1), (8, -1), (8, -1), (8, -1), (8, -1)]) 209 rfl dX11_path_207 (Nat.le_of_ble_eq_true rfl) rfl ?_
              refine ev_iconst 210 rfl dX11_path_209 (by decide) ?_
              refine ev_istore (L1 := [(2, 78), (0, v1), (0, v2), (0, v3), (0, v4), (0, v5), (0, v6), (0, (h 122 v8)), (0, v8), (0, (h 122 v8)), (0, (((h 122 v8) / 8) / 40)), (0, (((h 122 v8) / 8) % 40)), (0, 0), (8, -1), (8, -1), (8, -1), (8, -1)]) 212 rfl dX11_path_210 (Nat.le_of_ble_eq_true rfl) rfl ?_
              exact H

set_option maxRecDepth 20000 in
theorem b_X11_path_404 {X : qX} {d : Nat} {sh : qS} {pt h : qM} {K : Int → qM → Prop} {v5 v7 v8 v9 : Int} (hst : St sh pt)
    (H : ((v9 = v5 → ∀ h1 : qM, h1 = qup h 78 84 v8 → EvI X (d + 1) mX11_path 436 [(2, 78), (8, -1), (8, -1), (8, -1), (8, -1), (0, v5), (8, -1), (8, -1), (0, v8), (0, v7), (8, -1), (8, -1), (8, -1), (8, -1), (8, -1), (8, -1), (8, -1)] [] sh pt h1 K) ∧ (¬ v9 = v5 → (qI (v8 + 1)) ∧ (0 ≤ v9 ∧ v9 < 19200) ∧ EvI X (d + 1) mX11_path 404 [(2, 78), (8, -1), (8, -1), (8, -1), (8, -1), (0, v5), (8, -1), (0, v7), (0, (v8 + 1)), (0, (h 120 v9)), (8, -1), (8, -1), (8, -1), (8, -1), (8, -1), (8, -1), (8, -1)] [] sh pt h K))) :
    EvI X (d + 1) mX11_path 404 [(2, 78), (8, -1), (8, -1), (8, -1), (8, -1), (0, v5), (8, -1), (0, v7), (0, v8), (0, v9), (8, -1), (8, -1), (8, -1), (8, -1), (8, -1), (8, -1), (8, -1)] [] sh pt h K := by
  show Ev X (d + 1) 0 0 mX11_path 404 [(2, 78), (8, -1), (8, -1), (8, -1), (8, -1), (0, v5), (8, -1), (0, v7), (0, v8), (0, v9), (8, -1), (8, -1), (8, -1), (8, -1), (8, -1), (8, -1), (8, -1)] [] (sh, pt, h) (qRI sh pt K)
  refine ev_iload 406 rfl dX11_path_404 rfl ?_
  refine ev_iload 408 rfl dX11_path_406 rfl ?_
  refine ev_icmp_eq (tgt := 426) 411 rfl dX11_path_408 (by decide) (fun cd => ?_) (fun cd => ?_)
  · have H := H.1 cd
    refine ev_aload_n 427 rfl dX11_path_426 rfl rfl ?_
    refine ev_iload 429 rfl dX11_path_427 rfl ?_
    refine ev_putI (ki := 84) 432 rfl dX11_path_429 lf_11_174 (Or.inl rfl) (s_78 hst) (by decide) rfl ?_
    obtain ⟨h1, eh1⟩ : ∃ z : qM, z = qup h 78 84 v8 := ⟨_, rfl⟩
    rw [← eh1]
    have H := H h1 eh1
    refine ev_iload 434 rfl dX11_path_432 rfl ?_
    refine ev_istore (L1 := [(2, 78), (8, -1), (8, -1), (8, -1), (8, -1), (0, v5), (8, -1), (0, v7), (0, v8), (0, v7), (8, -1), (8, -1), (8, -1), (8, -1), (8, -1), (8, -1), (8, -1)]) 436 rfl dX11_path_434 (Nat.le_of_ble_eq_true rfl) rfl ?_
    refine Ev.drop [7] rfl ?_
    exact H
  · have H := H.2 cd
    obtain ⟨sd, H⟩ := H
    refine ev_iinc (L1 := [(2, 78), (8, -1), (8, -1), (8, -1), (8, -1), (0, v5), (8, -1), (0, v7), (0, (v8 + 1)), (0, v9), (8, -1), (8, -1), (8, -1), (8, -1), (8, -1), (8, -1), (8, -1)]) 414 rfl dX11_path_411 rfl sd (Nat.le_of_ble_eq_true rfl) rfl ?_
    refine ev_aload_n 415 rfl dX11_path_414 rfl rfl ?_
    refine ev_getR (ki := 80) (v := 120) 418 rfl dX11_path_415 lf_11_162 (s_78 hst) (by decide) rfl (p_78_80 hst) ?_
    refine ev_iload 420 rfl dX11_path_418 rfl ?_
    obtain ⟨b2, H⟩ := H
    refine ev_iaload 421 rfl dX11_path_420 (s_120 hst) b2.1 b2.2 ?_
    refine ev_istore (L1 := [(2, 78), (8, -1), (8, -1), (8, -1), (8, -1), (0, v5), (8, -1), (0, v7), (0, (v8 + 1)), (0, (h 120 v9)), (8, -1), (8, -1), (8, -1), (8, -1), (8, -1), (8, -1), (8, -1)]) 423 rfl dX11_path_421 (Nat.le_of_ble_eq_true rfl) rfl ?_
    refine ev_goto (tgt := 404) dX11_path_423 (by decide) ?_
    exact H

set_option maxRecDepth 20000 in
theorem b_X11_path_212 {X : qX} {d : Nat} {sh : qS} {pt h : qM} {K : Int → qM → Prop} {v1 v2 v3 v4 v5 v6 v7 v8 v9 v10 v11 v12 : Int} (hst : St sh pt)
    (H : ((3 ≤ v12 → (qI (v8 + 1)) ∧ EvI X (d + 1) mX11_path 136 [(2, 78), (0, v1), (0, v2), (0, v3), (0, v4), (0, v5), (0, v6), (0, v7), (0, (v8 + 1)), (8, -1), (8, -1), (8, -1), (8, -1), (8, -1), (8, -1), (8, -1), (8, -1)] [] sh pt h K) ∧ (v12 < 3 → ((0 ≤ v7 → (qI (v8 + 1)) ∧ EvI X (d + 1) mX11_path 136 [(2, 78), (0, v1), (0, v2), (0, v3), (0, v4), (0, v5), (0, v6), (0, v7), (0, (v8 + 1)), (8, -1), (8, -1), (8, -1), (8, -1), (8, -1), (8, -1), (8, -1), (8, -1)] [] sh pt h K) ∧ (v7 < 0 → (0 ≤ v9) ∧ ((¬ v12 = 0 → ((¬ v12 = 0 → EvI X (d + 1) mX11_path 268 [(2, 78), (0, v1), (0, v2), (0, v3), (0, v4), (0, v5), (0, v6), (0, v7), (0, v8), (0, v9), (0, v10), (0, v11), (0, v12), (0, (v9 % 8)), (0, v10), (8, -1), (8, -1)] [(0, v11)] sh pt h K) ∧ (v12 = 0 → RunI X d mX11_northOf [(0, (v9 % 8))] sh pt h (fun r2 h1 => (qI (v11 + r2)) ∧ EvI X (d + 1) mX11_path 268 [(2, 78), (0, v1), (0, v2), (0, v3), (0, v4), (0, v5), (0, v6), (0, v7), (0, v8), (0, v9), (0, v10), (0, v11), (0, v12), (0, (v9 % 8)), (0, v10), (8, -1), (8, -1)] [(0, (v11 + r2))] sh pt h1 K)))) ∧ (v12 = 0 → RunI X d mX11_eastOf [(0, (v9 % 8))] sh pt h (fun r4 h3 => (qI (v10 + r4)) ∧ ((¬ v12 = 0 → EvI X (d + 1) mX11_path 268 [(2, 78), (0, v1), (0, v2), (0, v3), (0, v4), (0, v5), (0, v6), (0, v7), (0, v8), (0, v9), (0, v10), (0, v11), (0, v12), (0, (v9 % 8)), (0, (v10 + r4)), (8, -1), (8, -1)] [(0, v11)] sh pt h3 K) ∧ (v12 = 0 → RunI X d mX11_northOf [(0, (v9 % 8))] sh pt h3 (fun r6 h5 => (qI (v11 + r6)) ∧ EvI X (d + 1) mX11_path 268 [(2, 78), (0, v1), (0, v2), (0, v3), (0, v4), (0, v5), (0, v6), (0, v7), (0, v8), (0, v9), (0, v10), (0, v11), (0, v12), (0, (v9 % 8)), (0, (v10 + r4)), (8, -1), (8, -1)] [(0, (v11 + r6))] sh pt h5 K))))))))))) :
    EvI X (d + 1) mX11_path 212 [(2, 78), (0, v1), (0, v2), (0, v3), (0, v4), (0, v5), (0, v6), (0, v7), (0, v8), (0, v9), (0, v10), (0, v11), (0, v12), (8, -1), (8, -1), (8, -1), (8, -1)] [] sh pt h K := by
  show Ev X (d + 1) 0 0 mX11_path 212 [(2, 78), (0, v1), (0, v2), (0, v3), (0, v4), (0, v5), (0, v6), (0, v7), (0, v8), (0, v9), (0, v10), (0, v11), (0, v12), (8, -1), (8, -1), (8, -1), (8, -1)] [] (sh, pt, h) (qRI sh pt K)
  refine ev_iload 214 rfl dX11_path_212 rfl ?_
  refine ev_iconst 215 rfl dX11_path_214 (by decide) ?_
  refine ev_icmp_ge (tgt := 379) 218 rfl dX11_path_215 (by decide) (fun cd => ?_) (fun cd => ?_)
  · have H := H.1 cd
    obtain ⟨sd, H⟩ := H
    refine ev_iinc (L1 := [(2, 78), (0, v1), (0, v2), (0, v3), (0, v4), (0, v5), (0, v6), (0, v7), (0, (v8 + 1)), (0, v9), (0, v10), (0, v11), (0, v12), (8, -1), (8, -1), (8, -1), (8, -1)]) 382 rfl dX11_path_379 rfl sd (Nat.le_of_ble_eq_true rfl) rfl ?_
    refine ev_goto (tgt := 136) dX11_path_382 (by decide) ?_
    refine Ev.drop [9, 10, 11, 12] rfl ?_
    exact H
  · have H := H.2 cd
    refine ev_iload 220 rfl dX11_path_218 rfl ?_
    refine ev_if_ge (tgt := 379) 223 rfl dX11_path_220 (by decide) (fun cd => ?_) (fun cd => ?_)
    · have H := H.1 cd
      obtain ⟨sd, H⟩ := H
      refine ev_iinc (L1 := [(2, 78), (0, v1), (0, v2), (0, v3), (0, v4), (0, v5), (0, v6), (0, v7), (0, (v8 + 1)), (0, v9), (0, v10), (0, v11), (0, v12), (8, -1), (8, -1), (8, -1), (8, -1)]) 382 rfl dX11_path_379 rfl sd (Nat.le_of_ble_eq_true rfl) rfl ?_
      refine ev_goto (tgt := 136) dX11_path_382 (by decide) ?_
      refine Ev.drop [9, 10, 11, 12] rfl ?_
      exact H
    · have H := H.2 cd
      refine ev_iload 225 rfl dX11_path_223 rfl ?_
      refine ev_bipush 227 rfl dX11_path_225 (by decide) (by decide) ?_
      obtain ⟨sd, H⟩ := H
      refine ev_iremP 228 rfl dX11_path_227 ⟨sd, by decide⟩ ?_
      refine ev_istore (L1 := [(2, 78), (0, v1), (0, v2), (0, v3), (0, v4), (0, v5), (0, v6), (0, v7), (0, v8), (0, v9), (0, v10), (0, v11), (0, v12), (0, (v9 % 8)), (8, -1), (8, -1), (8, -1)]) 230 rfl dX11_path_228 (Nat.le_of_ble_eq_true rfl) rfl ?_
      refine ev_iload 232 rfl dX11_path_230 rfl ?_
      refine ev_if_ne (tgt := 246) 235 rfl dX11_path_232 (by decide) (fun cd => ?_) (fun cd => ?_)
      · have H := H.1 cd
        refine ev_iload 248 rfl dX11_path_246 rfl ?_
        refine ev_istore (L1 := [(2, 78), (0, v1), (0, v2), (0, v3), (0, v4), (0, v5), (0, v6), (0, v7), (0, v8), (0, v9), (0, v10), (0, v11), (0, v12), (0, (v9 % 8)), (0, v10), (8, -1), (8, -1)]) 250 rfl dX11_path_248 (Nat.le_of_ble_eq_true rfl) rfl ?_
        refine ev_iload 252 rfl dX11_path_250 rfl ?_
        refine ev_if_ne (tgt := 266) 255 rfl dX11_path_252 (by decide) (fun cd => ?_) (fun cd => ?_)
        · have H := H.1 cd
          refine ev_iload 268 rfl dX11_path_266 rfl ?_
          exact H
        · have H := H.2 cd
          refine ev_iload 257 rfl dX11_path_255 rfl ?_
          refine ev_iload 259 rfl dX11_path_257 rfl ?_
          refine ev_cSI (As := [(0, (v9 % 8))]) (rest := [(0, v11)]) 262 rfl dX11_path_259 lm_11_421 mm_X11_northOf rfl rfl (Nat.le_of_ble_eq_true rfl) (Nat.le_of_ble_eq_true rfl) (Nat.le_refl _) H ?_
          intro r2 h1 H
          obtain ⟨sd, H⟩ := H
          refine ev_iadd 263 rfl dX11_path_262 sd ?_
          refine ev_goto (tgt := 268) dX11_path_263 (by decide) ?_
          exact H
      · have H := H.2 cd
        refine ev_iload 237 rfl dX11_path_235 rfl ?_
        refine ev_iload 239 rfl dX11_path_237 rfl ?_
        refine ev_cSI (As := [(0, (v9 % 8))]) (rest := [(0, v10)]) 242 rfl dX11_path_239 lm_11_418 mm_X11_eastOf rfl rfl (Nat.le_of_ble_eq_true rfl) (Nat.le_of_ble_eq_true rfl) (Nat.le_refl _) H ?_
        intro r4 h3 H
        obtain ⟨sd, H⟩ := H
        refine ev_iadd 243 rfl dX11_path_242 sd ?_
        refine ev_goto (tgt := 248) dX11_path_243 (by decide) ?_
        refine ev_istore (L1 := [(2, 78), (0, v1), (0, v2), (0, v3), (0, v4), (0, v5), (0, v6), (0, v7), (0, v8), (0, v9), (0, v10), (0, v11), (0, v12), (0, (v9 % 8)), (0, (v10 + r4)), (8, -1), (8, -1)]) 250 rfl dX11_path_248 (Nat.le_of_ble_eq_true rfl) rfl ?_
        refine ev_iload 252 rfl dX11_path_250 rfl ?_
        refine ev_if_ne (tgt := 266) 255 rfl dX11_path_252 (by decide) (fun cd => ?_) (fun cd => ?_)
        · have H := H.1 cd
          refine ev_iload 268 rfl dX11_path_266 rfl ?_
          exact H
        · have H := H.2 cd
          refine ev_iload 257 rfl dX11_path_255 rfl ?_
          refine ev_iload 259 rfl dX11_path_257 rfl ?_
          refine ev_cSI (As := [(0, (v9 % 8))]) (rest := [(0, v11)]) 262 rfl dX11_path_259 lm_11_421 mm_X11_northOf rfl rfl (Nat.le_of_ble_eq_true rfl) (Nat.le_of_ble_eq_true rfl) (Nat.le_refl _) H ?_
          intro r6 h5 H
          obtain ⟨sd, H⟩ := H
          refine ev_iadd 263 rfl dX11_path_262 sd ?_
          refine ev_goto (tgt := 268) dX11_path_263 (by decide) ?_
          exact H

set_option maxRecDepth 20000 in
theorem b_X11_path_436 {X : qX} {d : Nat} {sh : qS} {pt h : qM} {K : Int → qM → Prop} {v5 v8 v9 : Int} (hst : St sh pt)
    (H : ((v9 = v5 → K (h 78 84) h) ∧ (¬ v9 = v5 → (qI (v8 + (-1))) ∧ (0 ≤ v9 ∧ v9 < 19200) ∧ (0 ≤ (v8 + (-1)) ∧ (v8 + (-1)) < 2500) ∧ ∀ h3 : qM, h3 = qup h 123 (v8 + (-1)) (h 121 v9) → (0 ≤ v9 ∧ v9 < 19200) ∧ EvI X (d + 1) mX11_path 436 [(2, 78), (8, -1), (8, -1), (8, -1), (8, -1), (0, v5), (8, -1), (8, -1), (0, (v8 + (-1))), (0, (h3 120 v9)), (8, -1), (8, -1), (8, -1), (8, -1), (8, -1), (8, -1), (8, -1)] [] sh pt h3 K))) :
    EvI X (d + 1) mX11_path 436 [(2, 78), (8, -1), (8, -1), (8, -1), (8, -1), (0, v5), (8, -1), (8, -1), (0, v8), (0, v9), (8, -1), (8, -1), (8, -1), (8, -1), (8, -1), (8, -1), (8, -1)] [] sh pt h K := by
  show Ev X (d + 1) 0 0 mX11_path 436 [(2, 78), (8, -1), (8, -1), (8, -1), (8, -1), (0, v5), (8, -1), (8, -1), (0, v8), (0, v9), (8, -1), (8, -1), (8, -1), (8, -1), (8, -1), (8, -1), (8, -1)] [] (sh, pt, h) (qRI sh pt K)
  refine ev_iload 438 rfl dX11_path_436 rfl ?_
  refine ev_iload 440 rfl dX11_path_438 rfl ?_
  refine ev_icmp_eq (tgt := 472) 443 rfl dX11_path_440 (by decide) (fun cd => ?_) (fun cd => ?_)
  · have H := H.1 cd
    refine ev_aload_n 473 rfl dX11_path_472 rfl rfl ?_
    refine ev_getI (ki := 84) 476 rfl dX11_path_473 lf_11_174 (Or.inl rfl) (s_78 hst) (by decide) rfl ?_
    exact ev_retI dX11_path_476 rfl H
  · have H := H.2 cd
    obtain ⟨sd, H⟩ := H
    refine ev_iinc (L1 := [(2, 78), (8, -1), (8, -1), (8, -1), (8, -1), (0, v5), (8, -1), (8, -1), (0, (v8 + (-1))), (0, v9), (8, -1), (8, -1), (8, -1), (8, -1), (8, -1), (8, -1), (8, -1)]) 446 rfl dX11_path_443 rfl sd (Nat.le_of_ble_eq_true rfl) rfl ?_
    refine ev_aload_n 447 rfl dX11_path_446 rfl rfl ?_
    refine ev_getR (ki := 83) (v := 123) 450 rfl dX11_path_447 lf_11_171 (s_78 hst) (by decide) rfl (p_78_83 hst) ?_
    refine ev_iload 452 rfl dX11_path_450 rfl ?_
    refine ev_aload_n 453 rfl dX11_path_452 rfl rfl ?_
    refine ev_getR (ki := 81) (v := 121) 456 rfl dX11_path_453 lf_11_165 (s_78 hst) (by decide) rfl (p_78_81 hst) ?_
    refine ev_iload 458 rfl dX11_path_456 rfl ?_
    obtain ⟨b1, H⟩ := H
    refine ev_iaload 459 rfl dX11_path_458 (s_121 hst) b1.1 b1.2 ?_
    obtain ⟨b2, H⟩ := H
    refine ev_iastore 460 rfl dX11_path_459 (s_123 hst) b2.1 b2.2 ?_
    obtain ⟨h3, eh3⟩ : ∃ z : qM, z = qup h 123 (v8 + (-1)) (h 121 v9) := ⟨_, rfl⟩
    rw [← eh3]
    have H := H h3 eh3
    refine ev_aload_n 461 rfl dX11_path_460 rfl rfl ?_
    refine ev_getR (ki := 80) (v := 120) 464 rfl dX11_path_461 lf_11_162 (s_78 hst) (by decide) rfl (p_78_80 hst) ?_
    refine ev_iload 466 rfl dX11_path_464 rfl ?_
    obtain ⟨b4, H⟩ := H
    refine ev_iaload 467 rfl dX11_path_466 (s_120 hst) b4.1 b4.2 ?_
    refine ev_istore (L1 := [(2, 78), (8, -1), (8, -1), (8, -1), (8, -1), (0, v5), (8, -1), (8, -1), (0, (v8 + (-1))), (0, (h3 120 v9)), (8, -1), (8, -1), (8, -1), (8, -1), (8, -1), (8, -1), (8, -1)]) 469 rfl dX11_path_467 (Nat.le_of_ble_eq_true rfl) rfl ?_
    refine ev_goto (tgt := 436) dX11_path_469 (by decide) ?_
    exact H

set_option maxRecDepth 20000 in
theorem b_X11_path_268 {X : qX} {d : Nat} {sh : qS} {pt h : qM} {K : Int → qM → Prop} {v1 v2 v3 v4 v5 v6 v7 v8 v9 v10 v11 v12 v13 v14 u0 : Int} (hst : St sh pt)
    (H : (qI (40 * v14)) ∧ (qI ((40 * v14) + u0)) ∧ (qI (8 * ((40 * v14) + u0))) ∧ ((¬ v12 = 0 → ((¬ v12 = 1 → (qI (v13 + 7)) ∧ (0 ≤ (v13 + 7)) ∧ EvI X (d + 1) mX11_path 315 [(2, 78), (0, v1), (0, v2), (0, v3), (0, v4), (0, v5), (0, v6), (0, v7), (0, v8), (0, v9), (0, v10), (0, v11), (0, v12), (8, -1), (0, v14), (0, u0), (8, -1)] [(0, ((v13 + 7) % 8)), (0, (8 * ((40 * v14) + u0)))] sh pt h K) ∧ (v12 = 1 → (qI (v13 + 1)) ∧ (0 ≤ (v13 + 1)) ∧ EvI X (d + 1) mX11_path 315 [(2, 78), (0, v1), (0, v2), (0, v3), (0, v4), (0, v5), (0, v6), (0, v7), (0, v8), (0, v9), (0, v10), (0, v11), (0, v12), (8, -1), (0, v14), (0, u0), (8, -1)] [(0, ((v13 + 1) % 8)), (0, (8 * ((40 * v14) + u0)))] sh pt h K))) ∧ (v12 = 0 → EvI X (d + 1) mX11_path 315 [(2, 78), (0, v1), (0, v2), (0, v3), (0, v4), (0, v5), (0, v6), (0, v7), (0, v8), (0, v9), (0, v10), (0, v11), (0, v12), (8, -1), (0, v14), (0, u0), (8, -1)] [(0, v13), (0, (8 * ((40 * v14) + u0)))] sh pt h K))) :
    EvI X (d + 1) mX11_path 268 [(2, 78), (0, v1), (0, v2), (0, v3), (0, v4), (0, v5), (0, v6), (0, v7), (0, v8), (0, v9), (0, v10), (0, v11), (0, v12), (0, v13), (0, v14), (8, -1), (8, -1)] [(0, u0)] sh pt h K := by
  show Ev X (d + 1) 0 0 mX11_path 268 [(2, 78), (0, v1), (0, v2), (0, v3), (0, v4), (0, v5), (0, v6), (0, v7), (0, v8), (0, v9), (0, v10), (0, v11), (0, v12), (0, v13), (0, v14), (8, -1), (8, -1)] [(0, u0)] (sh, pt, h) (qRI sh pt K)
  refine ev_istore (L1 := [(2, 78), (0, v1), (0, v2), (0, v3), (0, v4), (0, v5), (0, v6), (0, v7), (0, v8), (0, v9), (0, v10), (0, v11), (0, v12), (0, v13), (0, v14), (0, u0), (8, -1)]) 270 rfl dX11_path_268 (Nat.le_of_ble_eq_true rfl) rfl ?_
  refine ev_bipush 272 rfl dX11_path_270 (by decide) (by decide) ?_
  refine ev_bipush 274 rfl dX11_path_272 (by decide) (by decide) ?_
  refine ev_iload 276 rfl dX11_path_274 rfl ?_
  obtain ⟨sd, H⟩ := H
  refine ev_imul 277 rfl dX11_path_276 sd ?_
  refine ev_iload 279 rfl dX11_path_277 rfl ?_
  obtain ⟨sd, H⟩ := H
  refine ev_iadd 280 rfl dX11_path_279 sd ?_
  obtain ⟨sd, H⟩ := H
  refine ev_imul 281 rfl dX11_path_280 sd ?_
  refine ev_iload 283 rfl dX11_path_281 rfl ?_
  refine ev_if_ne (tgt := 291) 286 rfl dX11_path_283 (by decide) (fun cd => ?_) (fun cd => ?_)
  · have H := H.1 cd
    refine ev_iload 293 rfl dX11_path_291 rfl ?_
    refine ev_iconst 294 rfl dX11_path_293 (by decide) ?_
    refine ev_icmp_ne (tgt := 307) 297 rfl dX11_path_294 (by decide) (fun cd => ?_) (fun cd => ?_)
    · have H := H.1 cd
      refine ev_iload 309 rfl dX11_path_307 rfl ?_
      refine ev_bipush 311 rfl dX11_path_309 (by decide) (by decide) ?_
      obtain ⟨sd, H⟩ := H
      refine ev_iadd 312 rfl dX11_path_311 sd ?_
      refine ev_bipush 314 rfl dX11_path_312 (by decide) (by decide) ?_
      obtain ⟨sd, H⟩ := H
      refine ev_iremP 315 rfl dX11_path_314 ⟨sd, by decide⟩ ?_
      refine Ev.drop [13] rfl ?_
      exact H
    · have H := H.2 cd
      refine ev_iload 299 rfl dX11_path_297 rfl ?_
      refine ev_iconst 300 rfl dX11_path_299 (by decide) ?_
      obtain ⟨sd, H⟩ := H
      refine ev_iadd 301 rfl dX11_path_300 sd ?_
      refine ev_bipush 303 rfl dX11_path_301 (by decide) (by decide) ?_
      obtain ⟨sd, H⟩ := H
      refine ev_iremP 304 rfl dX11_path_303 ⟨sd, by decide⟩ ?_
      refine ev_goto (tgt := 315) dX11_path_304 (by decide) ?_
      refine Ev.drop [13] rfl ?_
      exact H
  · have H := H.2 cd
    refine ev_iload 288 rfl dX11_path_286 rfl ?_
    refine ev_goto (tgt := 315) dX11_path_288 (by decide) ?_
    refine Ev.drop [13] rfl ?_
    exact H

set_option maxRecDepth 20000 in
theorem b_X11_path_315 {X : qX} {d : Nat} {sh : qS} {pt h : qM} {K : Int → qM → Prop} {v1 v2 v3 v4 v5 v6 v7 v8 v9 v10 v11 v12 v14 v15 u0 u1 : Int} (hst : St sh pt)
    (H : (qI (u1 + u0)) ∧ RunI X d mX11_isFree [(2, 78), (0, v1), (0, v14), (0, v15)] sh pt h (fun r2 h1 => ((r2 = 0 → (qI (v12 + 1)) ∧ EvI X (d + 1) mX11_path 212 [(2, 78), (0, v1), (0, v2), (0, v3), (0, v4), (0, v5), (0, v6), (0, v7), (0, v8), (0, v9), (0, v10), (0, v11), (0, (v12 + 1)), (8, -1), (8, -1), (8, -1), (8, -1)] [] sh pt h1 K) ∧ (¬ r2 = 0 → (0 ≤ (u1 + u0) ∧ (u1 + u0) < 19200) ∧ (((h1 120 (u1 + u0)) < 0 → (0 ≤ (u1 + u0) ∧ (u1 + u0) < 19200) ∧ ∀ h5 : qM, h5 = qup h1 120 (u1 + u0) v9 → (0 ≤ (u1 + u0) ∧ (u1 + u0) < 19200) ∧ ∀ h7 : qM, h7 = qup h5 121 (u1 + u0) v12 → (0 ≤ v6 ∧ v6 < 19200) ∧ ∀ h9 : qM, h9 = qup h7 122 v6 (u1 + u0) → (qI (v6 + 1)) ∧ (qI (v12 + 1)) ∧ EvI X (d + 1) mX11_path 212 [(2, 78), (0, v1), (0, v2), (0, v3), (0, v4), (0, v5), (0, (v6 + 1)), (0, v7), (0, v8), (0, v9), (0, v10), (0, v11), (0, (v12 + 1)), (8, -1), (8, -1), (8, -1), (8, -1)] [] sh pt h9 K) ∧ (0 ≤ (h1 120 (u1 + u0)) → (qI (v12 + 1)) ∧ EvI X (d + 1) mX11_path 212 [(2, 78), (0, v1), (0, v2), (0, v3), (0, v4), (0, v5), (0, v6), (0, v7), (0, v8), (0, v9), (0, v10), (0, v11), (0, (v12 + 1)), (8, -1), (8, -1), (8, -1), (8, -1)] [] sh pt h1 K)))))) :
    EvI X (d + 1) mX11_path 315 [(2, 78), (0, v1), (0, v2), (0, v3), (0, v4), (0, v5), (0, v6), (0, v7), (0, v8), (0, v9), (0, v10), (0, v11), (0, v12), (8, -1), (0, v14), (0, v15), (8, -1)] [(0, u0), (0, u1)] sh pt h K := by
  show Ev X (d + 1) 0 0 mX11_path 315 [(2, 78), (0, v1), (0, v2), (0, v3), (0, v4), (0, v5), (0, v6), (0, v7), (0, v8), (0, v9), (0, v10), (0, v11), (0, v12), (8, -1), (0, v14), (0, v15), (8, -1)] [(0, u0), (0, u1)] (sh, pt, h) (qRI sh pt K)
  obtain ⟨sd, H⟩ := H
  refine ev_iadd 316 rfl dX11_path_315 sd ?_
  refine ev_istore (L1 := [(2, 78), (0, v1), (0, v2), (0, v3), (0, v4), (0, v5), (0, v6), (0, v7), (0, v8), (0, v9), (0, v10), (0, v11), (0, v12), (8, -1), (0, v14), (0, v15), (0, (u1 + u0))]) 318 rfl dX11_path_316 (Nat.le_of_ble_eq_true rfl) rfl ?_
  refine ev_aload_n 319 rfl dX11_path_318 rfl rfl ?_
  refine ev_iload_n 320 rfl dX11_path_319 rfl rfl ?_
  refine ev_iload 322 rfl dX11_path_320 rfl ?_
  refine ev_iload 324 rfl dX11_path_322 rfl ?_
  refine ev_cVI (As := [(0, v1), (0, v14), (0, v15)]) (rest := []) 327 rfl dX11_path_324 lm_11_501 mm_X11_isFree (s_78 hst) rfl rfl (Nat.le_of_ble_eq_true rfl) (Nat.le_of_ble_eq_true rfl) (Nat.le_refl _) H ?_
  intro r2 h1 H
  refine ev_if_eq (tgt := 373) 330 rfl dX11_path_327 (by decide) (fun cd => ?_) (fun cd => ?_)
  · have H := H.1 cd
    obtain ⟨sd, H⟩ := H
    refine ev_iinc (L1 := [(2, 78), (0, v1), (0, v2), (0, v3), (0, v4), (0, v5), (0, v6), (0, v7), (0, v8), (0, v9), (0, v10), (0, v11), (0, (v12 + 1)), (8, -1), (0, v14), (0, v15), (0, (u1 + u0))]) 376 rfl dX11_path_373 rfl sd (Nat.le_of_ble_eq_true rfl) rfl ?_
    refine ev_goto (tgt := 212) dX11_path_376 (by decide) ?_
    refine Ev.drop [14, 15, 16] rfl ?_
    exact H
  · have H := H.2 cd
    refine ev_aload_n 331 rfl dX11_path_330 rfl rfl ?_
    refine ev_getR (ki := 80) (v := 120) 334 rfl dX11_path_331 lf_11_162 (s_78 hst) (by decide) rfl (p_78_80 hst) ?_
    refine ev_iload 336 rfl dX11_path_334 rfl ?_
    obtain ⟨b3, H⟩ := H
    refine ev_iaload 337 rfl dX11_path_336 (s_120 hst) b3.1 b3.2 ?_
    refine ev_if_lt (tgt := 343) 340 rfl dX11_path_337 (by decide) (fun cd => ?_) (fun cd => ?_)
    · have H := H.1 cd
      refine ev_aload_n 344 rfl dX11_path_343 rfl rfl ?_
      refine ev_getR (ki := 80) (v := 120) 347 rfl dX11_path_344 lf_11_162 (s_78 hst) (by decide) rfl (p_78_80 hst) ?_
      refine ev_iload 349 rfl dX11_path_347 rfl ?_
      refine ev_iload 351 rfl dX11_path_349 rfl ?_
      obtain ⟨b4, H⟩ := H
      refine ev_iastore 352 rfl dX11_path_351 (s_120 hst) b4.1 b4.2 ?_
      obtain ⟨h5, eh5⟩ : ∃ z : qM, z = qup h1 120 (u1 + u0) v9 := ⟨_, rfl⟩
      rw [← eh5]
      have H := H h5 eh5
      refine ev_aload_n 353 rfl dX11_path_352 rfl rfl ?_
      refine ev_getR (ki := 81) (v := 121) 356 rfl dX11_path_353 lf_11_165 (s_78 hst) (by decide) rfl (p_78_81 hst) ?_
      refine ev_iload 358 rfl dX11_path_356 rfl ?_
      refine ev_iload 360 rfl dX11_path_358 rfl ?_
      obtain ⟨b6, H⟩ := H
      refine ev_iastore 361 rfl dX11_path_360 (s_121 hst) b6.1 b6.2 ?_
      obtain ⟨h7, eh7⟩ : ∃ z : qM, z = qup h5 121 (u1 + u0) v12 := ⟨_, rfl⟩
      rw [← eh7]
      have H := H h7 eh7
      refine ev_aload_n 362 rfl dX11_path_361 rfl rfl ?_
      refine ev_getR (ki := 82) (v := 122) 365 rfl dX11_path_362 lf_11_168 (s_78 hst) (by decide) rfl (p_78_82 hst) ?_
      refine ev_iload 367 rfl dX11_path_365 rfl ?_
      refine ev_iload 369 rfl dX11_path_367 rfl ?_
      obtain ⟨b8, H⟩ := H
      refine ev_iastore 370 rfl dX11_path_369 (s_122 hst) b8.1 b8.2 ?_
      obtain ⟨h9, eh9⟩ : ∃ z : qM, z = qup h7 122 v6 (u1 + u0) := ⟨_, rfl⟩
      rw [← eh9]
      have H := H h9 eh9
      obtain ⟨sd, H⟩ := H
      refine ev_iinc (L1 := [(2, 78), (0, v1), (0, v2), (0, v3), (0, v4), (0, v5), (0, (v6 + 1)), (0, v7), (0, v8), (0, v9), (0, v10), (0, v11), (0, v12), (8, -1), (0, v14), (0, v15), (0, (u1 + u0))]) 373 rfl dX11_path_370 rfl sd (Nat.le_of_ble_eq_true rfl) rfl ?_
      obtain ⟨sd, H⟩ := H
      refine ev_iinc (L1 := [(2, 78), (0, v1), (0, v2), (0, v3), (0, v4), (0, v5), (0, (v6 + 1)), (0, v7), (0, v8), (0, v9), (0, v10), (0, v11), (0, (v12 + 1)), (8, -1), (0, v14), (0, v15), (0, (u1 + u0))]) 376 rfl dX11_path_373 rfl sd (Nat.le_of_ble_eq_true rfl) rfl ?_
      refine ev_goto (tgt := 212) dX11_path_376 (by decide) ?_
      refine Ev.drop [14, 15, 16] rfl ?_
      exact H
    · have H := H.2 cd
      refine ev_goto (tgt := 373) dX11_path_340 (by decide) ?_
      obtain ⟨sd, H⟩ := H
      refine ev_iinc (L1 := [(2, 78), (0, v1), (0, v2), (0, v3), (0, v4), (0, v5), (0, v6), (0, v7), (0, v8), (0, v9), (0, v10), (0, v11), (0, (v12 + 1)), (8, -1), (0, v14), (0, v15), (0, (u1 + u0))]) 376 rfl dX11_path_373 rfl sd (Nat.le_of_ble_eq_true rfl) rfl ?_
      refine ev_goto (tgt := 212) dX11_path_376 (by decide) ?_
      refine Ev.drop [14, 15, 16] rfl ?_
      exact H

set_option maxRecDepth 20000 in
theorem b_X11_move {X : qX} {d : Nat} {sh : qS} {pt h : qM} {K : Int → qM → Prop} {v1 : Int} (hst : St sh pt)
    (H : ∀ h1 : qM, h1 = qup h 78 1 0 → ∀ h2 : qM, h2 = qup h1 78 0 0 → (qI ((h2 78 84) - 1)) ∧ RunI X d mX11_isIn [(1, v1), (1, 0), (1, ((h2 78 84) - 1))] sh pt h2 (fun r4 h3 => ((r4 = 0 → RunI X d mX11_refuse [(2, 78), (0, 8)] sh pt h3 (fun r6 h5 => K r6 h5)) ∧ (¬ r4 = 0 → (0 ≤ v1 ∧ v1 < 2500) ∧ K (h3 123 v1) h3)))) :
    RunI X (d + 1) mX11_move [(2, 78), (0, v1)] sh pt h K := by
  show Ev X (d + 1) 0 0 mX11_move 0 [(2, 78), (0, v1)] [] (sh, pt, h) (qRI sh pt K)
  refine ev_aload_n 1 rfl dX11_move_0 rfl rfl ?_
  refine ev_iconst 2 rfl dX11_move_1 (by decide) ?_
  refine ev_putI (ki := 1) 5 rfl dX11_move_2 lf_11_213 (Or.inl rfl) (s_78 hst) (by decide) rfl ?_
  obtain ⟨h1, eh1⟩ : ∃ z : qM, z = qup h 78 1 0 := ⟨_, rfl⟩
  rw [← eh1]
  have H := H h1 eh1
  refine ev_aload_n 6 rfl dX11_move_5 rfl rfl ?_
  refine ev_iconst 7 rfl dX11_move_6 (by decide) ?_
  refine ev_putI (ki := 0) 10 rfl dX11_move_7 lf_11_216 (Or.inl rfl) (s_78 hst) (by decide) rfl ?_
  obtain ⟨h2, eh2⟩ : ∃ z : qM, z = qup h1 78 0 0 := ⟨_, rfl⟩
  rw [← eh2]
  have H := H h2 eh2
  refine ev_iload_n 11 rfl dX11_move_10 rfl rfl ?_
  refine ev_i2l 12 rfl dX11_move_11 ?_
  refine ev_lconst (v := 0) 13 rfl dX11_move_12 (by decide) (by decide) ?_
  refine ev_aload_n 14 rfl dX11_move_13 rfl rfl ?_
  refine ev_getI (ki := 84) 17 rfl dX11_move_14 lf_11_174 (Or.inl rfl) (s_78 hst) (by decide) rfl ?_
  refine ev_iconst 18 rfl dX11_move_17 (by decide) ?_
  obtain ⟨sd, H⟩ := H
  refine ev_isub 19 rfl dX11_move_18 sd ?_
  refine ev_i2l 20 rfl dX11_move_19 ?_
  refine ev_cSI (As := [(1, v1), (1, 0), (1, ((h2 78 84) - 1))]) (rest := []) 23 rfl dX11_move_20 lm_11_221 mm_X11_isIn rfl rfl (Nat.le_of_ble_eq_true rfl) (Nat.le_of_ble_eq_true rfl) (Nat.le_refl _) H ?_
  intro r4 h3 H
  refine ev_if_eq (tgt := 35) 26 rfl dX11_move_23 (by decide) (fun cd => ?_) (fun cd => ?_)
  · have H := H.1 cd
    refine ev_aload_n 36 rfl dX11_move_35 rfl rfl ?_
    refine ev_bipush 38 rfl dX11_move_36 (by decide) (by decide) ?_
    refine ev_cVI (As := [(0, 8)]) (rest := []) 41 rfl dX11_move_38 lm_11_254 mm_X11_refuse (s_78 hst) rfl rfl (Nat.le_of_ble_eq_true rfl) (Nat.le_of_ble_eq_true rfl) (Nat.le_refl _) H ?_
    intro r6 h5 H
    exact ev_retI dX11_move_41 rfl H
  · have H := H.2 cd
    refine ev_aload_n 27 rfl dX11_move_26 rfl rfl ?_
    refine ev_getR (ki := 83) (v := 123) 30 rfl dX11_move_27 lf_11_171 (s_78 hst) (by decide) rfl (p_78_83 hst) ?_
    refine ev_iload_n 31 rfl dX11_move_30 rfl rfl ?_
    obtain ⟨b7, H⟩ := H
    refine ev_iaload 32 rfl dX11_move_31 (s_123 hst) b7.1 b7.2 ?_
    refine ev_goto (tgt := 41) dX11_move_32 (by decide) ?_
    exact ev_retI dX11_move_41 rfl H

set_option maxRecDepth 20000 in
theorem b_X11_isPerson {X : qX} {d : Nat} {sh : qS} {pt h : qM} {K : Int → qM → Prop} {v1 : Int} (hst : St sh pt)
    (H : (qI ((h 78 85) - 1)) ∧ RunI X d mX11_isIn [(1, v1), (1, 0), (1, ((h 78 85) - 1))] sh pt h (fun r2 h1 => (0 ≤ r2 ∧ r2 ≤ 1) ∧ K r2 h1)) :
    RunI X (d + 1) mX11_isPerson [(2, 78), (0, v1)] sh pt h K := by
  show Ev X (d + 1) 0 0 mX11_isPerson 0 [(2, 78), (0, v1)] [] (sh, pt, h) (qRI sh pt K)
  refine ev_iload_n 1 rfl dX11_isPerson_0 rfl rfl ?_
  refine ev_i2l 2 rfl dX11_isPerson_1 ?_
  refine ev_lconst (v := 0) 3 rfl dX11_isPerson_2 (by decide) (by decide) ?_
  refine ev_aload_n 4 rfl dX11_isPerson_3 rfl rfl ?_
  refine ev_getI (ki := 85) 7 rfl dX11_isPerson_4 lf_11_504 (Or.inl rfl) (s_78 hst) (by decide) rfl ?_
  refine ev_iconst 8 rfl dX11_isPerson_7 (by decide) ?_
  obtain ⟨sd, H⟩ := H
  refine ev_isub 9 rfl dX11_isPerson_8 sd ?_
  refine ev_i2l 10 rfl dX11_isPerson_9 ?_
  refine ev_cSI (As := [(1, v1), (1, 0), (1, ((h 78 85) - 1))]) (rest := []) 13 rfl dX11_isPerson_10 lm_11_221 mm_X11_isIn rfl rfl (Nat.le_of_ble_eq_true rfl) (Nat.le_of_ble_eq_true rfl) (Nat.le_refl _) H ?_
  intro r2 h1 H
  obtain ⟨sd, H⟩ := H
  exact ev_retZ dX11_isPerson_13 rfl sd H

set_option maxRecDepth 20000 in
theorem b_X11_isDay {X : qX} {d : Nat} {sh : qS} {pt h : qM} {K : Int → qM → Prop} {v0 : Int} (hst : St sh pt)
    (H : RunI X d mX11_isIn [(1, v0), (1, 0), (1, 9999)] sh pt h (fun r2 h1 => (0 ≤ r2 ∧ r2 ≤ 1) ∧ K r2 h1)) :
    RunI X (d + 1) mX11_isDay [(0, v0)] sh pt h K := by
  show Ev X (d + 1) 0 0 mX11_isDay 0 [(0, v0)] [] (sh, pt, h) (qRI sh pt K)
  refine ev_iload_n 1 rfl dX11_isDay_0 rfl rfl ?_
  refine ev_i2l 2 rfl dX11_isDay_1 ?_
  refine ev_lconst (v := 0) 3 rfl dX11_isDay_2 (by decide) (by decide) ?_
  refine ev_ldc2 6 rfl dX11_isDay_3 kl_11_507 (by decide) ?_
  refine ev_cSI (As := [(1, v0), (1, 0), (1, 9999)]) (rest := []) 9 rfl dX11_isDay_6 lm_11_221 mm_X11_isIn rfl rfl (Nat.le_of_ble_eq_true rfl) (Nat.le_of_ble_eq_true rfl) (Nat.le_refl _) H ?_
  intro r2 h1 H
  obtain ⟨sd, H⟩ := H
  exact ev_retZ dX11_isDay_9 rfl sd H

set_option maxRecDepth 20000 in
theorem b_X11_person {X : qX} {d : Nat} {sh : qS} {pt h : qM} {K : Int → qM → Prop} {v1 : Int} (hst : St sh pt)
    (H : ∀ h1 : qM, h1 = qup h 78 1 0 → ∀ h2 : qM, h2 = qup h1 78 0 0 → ((v1 < 0 → RunI X d mX11_refuse [(2, 78), (0, 5)] sh pt h2 (fun r4 h3 => K r4 h3)) ∧ (0 ≤ v1 → ((v1 < (qishl 1 (h2 78 7)) → ((¬ (h2 78 85) = 16 → (0 ≤ (h2 78 85) ∧ (h2 78 85) < 16) ∧ ∀ h6 : qM, h6 = qup h2 124 (h2 78 85) v1 → (qI ((h6 78 85) + 1)) ∧ ∀ h7 : qM, h7 = qup h6 78 85 ((h6 78 85) + 1) → (qI ((h7 78 85) - 1)) ∧ K ((h7 78 85) - 1) h7) ∧ ((h2 78 85) = 16 → RunI X d mX11_refuse [(2, 78), (0, 7)] sh pt h2 (fun r9 h8 => K r9 h8)))) ∧ ((qishl 1 (h2 78 7)) ≤ v1 → RunI X d mX11_refuse [(2, 78), (0, 5)] sh pt h2 (fun r11 h10 => K r11 h10)))))) :
    RunI X (d + 1) mX11_person [(2, 78), (0, v1)] sh pt h K := by
  show Ev X (d + 1) 0 0 mX11_person 0 [(2, 78), (0, v1)] [] (sh, pt, h) (qRI sh pt K)
  refine ev_aload_n 1 rfl dX11_person_0 rfl rfl ?_
  refine ev_iconst 2 rfl dX11_person_1 (by decide) ?_
  refine ev_putI (ki := 1) 5 rfl dX11_person_2 lf_11_213 (Or.inl rfl) (s_78 hst) (by decide) rfl ?_
  obtain ⟨h1, eh1⟩ : ∃ z : qM, z = qup h 78 1 0 := ⟨_, rfl⟩
  rw [← eh1]
  have H := H h1 eh1
  refine ev_aload_n 6 rfl dX11_person_5 rfl rfl ?_
  refine ev_iconst 7 rfl dX11_person_6 (by decide) ?_
  refine ev_putI (ki := 0) 10 rfl dX11_person_7 lf_11_216 (Or.inl rfl) (s_78 hst) (by decide) rfl ?_
  obtain ⟨h2, eh2⟩ : ∃ z : qM, z = qup h1 78 0 0 := ⟨_, rfl⟩
  rw [← eh2]
  have H := H h2 eh2
  refine ev_iload_n 11 rfl dX11_person_10 rfl rfl ?_
  refine ev_if_lt (tgt := 24) 14 rfl dX11_person_11 (by decide) (fun cd => ?_) (fun cd => ?_)
  · have H := H.1 cd
    refine ev_aload_n 25 rfl dX11_person_24 rfl rfl ?_
    refine ev_iconst 26 rfl dX11_person_25 (by decide) ?_
    refine ev_cVI (As := [(0, 5)]) (rest := []) 29 rfl dX11_person_26 lm_11_254 mm_X11_refuse (s_78 hst) rfl rfl (Nat.le_of_ble_eq_true rfl) (Nat.le_of_ble_eq_true rfl) (Nat.le_refl _) H ?_
    intro r4 h3 H
    exact ev_retI dX11_person_29 rfl H
  · have H := H.2 cd
    refine ev_iload_n 15 rfl dX11_person_14 rfl rfl ?_
    refine ev_iconst 16 rfl dX11_person_15 (by decide) ?_
    refine ev_aload_n 17 rfl dX11_person_16 rfl rfl ?_
    refine ev_getI (ki := 7) 20 rfl dX11_person_17 lf_11_245 (Or.inl rfl) (s_78 hst) (by decide) rfl ?_
    refine ev_ishl 21 rfl dX11_person_20 ?_
    refine ev_icmp_lt (tgt := 30) 24 rfl dX11_person_21 (by decide) (fun cd => ?_) (fun cd => ?_)
    · have H := H.1 cd
      refine ev_aload_n 31 rfl dX11_person_30 rfl rfl ?_
      refine ev_getI (ki := 85) 34 rfl dX11_person_31 lf_11_504 (Or.inl rfl) (s_78 hst) (by decide) rfl ?_
      refine ev_bipush 36 rfl dX11_person_34 (by decide) (by decide) ?_
      refine ev_icmp_ne (tgt := 46) 39 rfl dX11_person_36 (by decide) (fun cd => ?_) (fun cd => ?_)
      · have H := H.1 cd
        refine ev_aload_n 47 rfl dX11_person_46 rfl rfl ?_
        refine ev_getR (ki := 88) (v := 124) 50 rfl dX11_person_47 lf_11_177 (s_78 hst) (by decide) rfl (p_78_88 hst) ?_
        refine ev_aload_n 51 rfl dX11_person_50 rfl rfl ?_
        refine ev_getI (ki := 85) 54 rfl dX11_person_51 lf_11_504 (Or.inl rfl) (s_78 hst) (by decide) rfl ?_
        refine ev_iload_n 55 rfl dX11_person_54 rfl rfl ?_
        obtain ⟨b5, H⟩ := H
        refine ev_iastore 56 rfl dX11_person_55 (s_124 hst) b5.1 b5.2 ?_
        obtain ⟨h6, eh6⟩ : ∃ z : qM, z = qup h2 124 (h2 78 85) v1 := ⟨_, rfl⟩
        rw [← eh6]
        have H := H h6 eh6
        refine ev_aload_n 57 rfl dX11_person_56 rfl rfl ?_
        refine ev_dup 58 rfl dX11_person_57 q21 ?_
        refine ev_getI (ki := 85) 61 rfl dX11_person_58 lf_11_504 (Or.inl rfl) (s_78 hst) (by decide) rfl ?_
        refine ev_iconst 62 rfl dX11_person_61 (by decide) ?_
        obtain ⟨sd, H⟩ := H
        refine ev_iadd 63 rfl dX11_person_62 sd ?_
        refine ev_putI (ki := 85) 66 rfl dX11_person_63 lf_11_504 (Or.inl rfl) (s_78 hst) (by decide) rfl ?_
        obtain ⟨h7, eh7⟩ : ∃ z : qM, z = qup h6 78 85 ((h6 78 85) + 1) := ⟨_, rfl⟩
        rw [← eh7]
        have H := H h7 eh7
        refine ev_aload_n 67 rfl dX11_person_66 rfl rfl ?_
        refine ev_getI (ki := 85) 70 rfl dX11_person_67 lf_11_504 (Or.inl rfl) (s_78 hst) (by decide) rfl ?_
        refine ev_iconst 71 rfl dX11_person_70 (by decide) ?_
        obtain ⟨sd, H⟩ := H
        refine ev_isub 72 rfl dX11_person_71 sd ?_
        exact ev_retI dX11_person_72 rfl H
      · have H := H.2 cd
        refine ev_aload_n 40 rfl dX11_person_39 rfl rfl ?_
        refine ev_bipush 42 rfl dX11_person_40 (by decide) (by decide) ?_
        refine ev_cVI (As := [(0, 7)]) (rest := []) 45 rfl dX11_person_42 lm_11_254 mm_X11_refuse (s_78 hst) rfl rfl (Nat.le_of_ble_eq_true rfl) (Nat.le_of_ble_eq_true rfl) (Nat.le_refl _) H ?_
        intro r9 h8 H
        exact ev_retI dX11_person_45 rfl H
    · have H := H.2 cd
      refine ev_aload_n 25 rfl dX11_person_24 rfl rfl ?_
      refine ev_iconst 26 rfl dX11_person_25 (by decide) ?_
      refine ev_cVI (As := [(0, 5)]) (rest := []) 29 rfl dX11_person_26 lm_11_254 mm_X11_refuse (s_78 hst) rfl rfl (Nat.le_of_ble_eq_true rfl) (Nat.le_of_ble_eq_true rfl) (Nat.le_refl _) H ?_
      intro r11 h10 H
      exact ev_retI dX11_person_29 rfl H

set_option maxRecDepth 20000 in
theorem b_X11_away {X : qX} {d : Nat} {sh : qS} {pt h : qM} {K : Int → qM → Prop} {v1 v2 v3 v4 : Int} (hst : St sh pt)
    (H : ∀ h1 : qM, h1 = qup h 78 1 0 → ∀ h2 : qM, h2 = qup h1 78 0 0 → RunI X d mX11_isPerson [(2, 78), (0, v1)] sh pt h2 (fun r4 h3 => ((¬ r4 = 0 → RunI X d mX11_isDay [(0, v2)] sh pt h3 (fun r6 h5 => ((r6 = 0 → RunI X d mX11_no [(2, 78), (0, 5)] sh pt h5 (fun r8 h7 => (0 ≤ r8 ∧ r8 ≤ 1) ∧ K r8 h7)) ∧ (¬ r6 = 0 → RunI X d mX11_isDay [(0, v3)] sh pt h5 (fun r10 h9 => ((r10 = 0 → RunI X d mX11_no [(2, 78), (0, 5)] sh pt h9 (fun r12 h11 => (0 ≤ r12 ∧ r12 ≤ 1) ∧ K r12 h11)) ∧ (¬ r10 = 0 → ((v3 < v2 → RunI X d mX11_no [(2, 78), (0, 5)] sh pt h9 (fun r14 h13 => (0 ≤ r14 ∧ r14 ≤ 1) ∧ K r14 h13)) ∧ (v2 ≤ v3 → RunI X d mX11_isDay [(0, v4)] sh pt h9 (fun r16 h15 => ((¬ r16 = 0 → ((¬ (h15 78 86) = 60 → (((h15 78 87) ≤ v4 → (0 ≤ (h15 78 86) ∧ (h15 78 86) < 60) ∧ ∀ h18 : qM, h18 = qup h15 125 (h15 78 86) v1 → (0 ≤ (h18 78 86) ∧ (h18 78 86) < 60) ∧ ∀ h20 : qM, h20 = qup h18 126 (h18 78 86) v2 → (0 ≤ (h20 78 86) ∧ (h20 78 86) < 60) ∧ ∀ h22 : qM, h22 = qup h20 127 (h20 78 86) v3 → (0 ≤ (h22 78 86) ∧ (h22 78 86) < 60) ∧ ∀ h24 : qM, h24 = qup h22 128 (h22 78 86) v4 → (qI ((h24 78 86) + 1)) ∧ ∀ h25 : qM, h25 = qup h24 78 86 ((h24 78 86) + 1) → ∀ h26 : qM, h26 = qup h25 78 87 v4 → K 1 h26) ∧ (v4 < (h15 78 87) → RunI X d mX11_no [(2, 78), (0, 12)] sh pt h15 (fun r28 h27 => (0 ≤ r28 ∧ r28 ≤ 1) ∧ K r28 h27)))) ∧ ((h15 78 86) = 60 → RunI X d mX11_no [(2, 78), (0, 7)] sh pt h15 (fun r30 h29 => (0 ≤ r30 ∧ r30 ≤ 1) ∧ K r30 h29)))) ∧ (r16 = 0 → RunI X d mX11_no [(2, 78), (0, 5)] sh pt h15 (fun r32 h31 => (0 ≤ r32 ∧ r32 ≤ 1) ∧ K r32 h31))))))))))))) ∧ (r4 = 0 → RunI X d mX11_no [(2, 78), (0, 2)] sh pt h3 (fun r34 h33 => (0 ≤ r34 ∧ r34 ≤ 1) ∧ K r34 h33))))) :
    RunI X (d + 1) mX11_away [(2, 78), (0, v1), (0, v2), (0, v3), (0, v4)] sh pt h K := by
  show Ev X (d + 1) 0 0 mX11_away 0 [(2, 78), (0, v1), (0, v2), (0, v3), (0, v4)] [] (sh, pt, h) (qRI sh pt K)
  refine ev_aload_n 1 rfl dX11_away_0 rfl rfl ?_
  refine ev_iconst 2 rfl dX11_away_1 (by decide) ?_
  refine ev_putI (ki := 1) 5 rfl dX11_away_2 lf_11_213 (Or.inl rfl) (s_78 hst) (by decide) rfl ?_
  obtain ⟨h1, eh1⟩ : ∃ z : qM, z = qup h 78 1 0 := ⟨_, rfl⟩
  rw [← eh1]
  have H := H h1 eh1
  refine ev_aload_n 6 rfl dX11_away_5 rfl rfl ?_
  refine ev_iconst 7 rfl dX11_away_6 (by decide) ?_
  refine ev_putI (ki := 0) 10 rfl dX11_away_7 lf_11_216 (Or.inl rfl) (s_78 hst) (by decide) rfl ?_
  obtain ⟨h2, eh2⟩ : ∃ z : qM, z = qup h1 78 0 0 := ⟨_, rfl⟩
  rw [← eh2]
  have H := H h2 eh2
  refine ev_aload_n 11 rfl dX11_away_10 rfl rfl ?_
  refine ev_iload_n 12 rfl dX11_away_11 rfl rfl ?_
  refine ev_cVI (As := [(0, v1)]) (rest := []) 15 rfl dX11_away_12 lm_11_509 mm_X11_isPerson (s_78 hst) rfl rfl (Nat.le_of_ble_eq_true rfl) (Nat.le_of_ble_eq_true rfl) (Nat.le_refl _) H ?_
  intro r4 h3 H
  refine ev_if_ne (tgt := 24) 18 rfl dX11_away_15 (by decide) (fun cd => ?_) (fun cd => ?_)
  · have H := H.1 cd
    refine ev_iload_n 25 rfl dX11_away_24 rfl rfl ?_
    refine ev_cSI (As := [(0, v2)]) (rest := []) 28 rfl dX11_away_25 lm_11_512 mm_X11_isDay rfl rfl (Nat.le_of_ble_eq_true rfl) (Nat.le_of_ble_eq_true rfl) (Nat.le_refl _) H ?_
    intro r6 h5 H
    refine ev_if_eq (tgt := 51) 31 rfl dX11_away_28 (by decide) (fun cd => ?_) (fun cd => ?_)
    · have H := H.1 cd
      refine ev_aload_n 52 rfl dX11_away_51 rfl rfl ?_
      refine ev_iconst 53 rfl dX11_away_52 (by decide) ?_
      refine ev_cVI (As := [(0, 5)]) (rest := []) 56 rfl dX11_away_53 lm_11_227 mm_X11_no (s_78 hst) rfl rfl (Nat.le_of_ble_eq_true rfl) (Nat.le_of_ble_eq_true rfl) (Nat.le_refl _) H ?_
      intro r8 h7 H
      obtain ⟨sd, H⟩ := H
      exact ev_retZ dX11_away_56 rfl sd H
    · have H := H.2 cd
      refine ev_iload_n 32 rfl dX11_away_31 rfl rfl ?_
      refine ev_cSI (As := [(0, v3)]) (rest := []) 35 rfl dX11_away_32 lm_11_512 mm_X11_isDay rfl rfl (Nat.le_of_ble_eq_true rfl) (Nat.le_of_ble_eq_true rfl) (Nat.le_refl _) H ?_
      intro r10 h9 H
      refine ev_if_eq (tgt := 51) 38 rfl dX11_away_35 (by decide) (fun cd => ?_) (fun cd => ?_)
      · have H := H.1 cd
        refine ev_aload_n 52 rfl dX11_away_51 rfl rfl ?_
        refine ev_iconst 53 rfl dX11_away_52 (by decide) ?_
        refine ev_cVI (As := [(0, 5)]) (rest := []) 56 rfl dX11_away_53 lm_11_227 mm_X11_no (s_78 hst) rfl rfl (Nat.le_of_ble_eq_true rfl) (Nat.le_of_ble_eq_true rfl) (Nat.le_refl _) H ?_
        intro r12 h11 H
        obtain ⟨sd, H⟩ := H
        exact ev_retZ dX11_away_56 rfl sd H
      · have H := H.2 cd
        refine ev_iload_n 39 rfl dX11_away_38 rfl rfl ?_
        refine ev_iload_n 40 rfl dX11_away_39 rfl rfl ?_
        refine ev_icmp_lt (tgt := 51) 43 rfl dX11_away_40 (by decide) (fun cd => ?_) (fun cd => ?_)
        · have H := H.1 cd
          refine ev_aload_n 52 rfl dX11_away_51 rfl rfl ?_
          refine ev_iconst 53 rfl dX11_away_52 (by decide) ?_
          refine ev_cVI (As := [(0, 5)]) (rest := []) 56 rfl dX11_away_53 lm_11_227 mm_X11_no (s_78 hst) rfl rfl (Nat.le_of_ble_eq_true rfl) (Nat.le_of_ble_eq_true rfl) (Nat.le_refl _) H ?_
          intro r14 h13 H
          obtain ⟨sd, H⟩ := H
          exact ev_retZ dX11_away_56 rfl sd H
        · have H := H.2 cd
          refine ev_iload 45 rfl dX11_away_43 rfl ?_
          refine ev_cSI (As := [(0, v4)]) (rest := []) 48 rfl dX11_away_45 lm_11_512 mm_X11_isDay rfl rfl (Nat.le_of_ble_eq_true rfl) (Nat.le_of_ble_eq_true rfl) (Nat.le_refl _) H ?_
          intro r16 h15 H
          refine ev_if_ne (tgt := 57) 51 rfl dX11_away_48 (by decide) (fun cd => ?_) (fun cd => ?_)
          · have H := H.1 cd
            refine ev_aload_n 58 rfl dX11_away_57 rfl rfl ?_
            refine ev_getI (ki := 86) 61 rfl dX11_away_58 lf_11_515 (Or.inl rfl) (s_78 hst) (by decide) rfl ?_
            refine ev_bipush 63 rfl dX11_away_61 (by decide) (by decide) ?_
            refine ev_icmp_ne (tgt := 73) 66 rfl dX11_away_63 (by decide) (fun cd => ?_) (fun cd => ?_)
            · have H := H.1 cd
              refine ev_iload 75 rfl dX11_away_73 rfl ?_
              refine ev_aload_n 76 rfl dX11_away_75 rfl rfl ?_
              refine ev_getI (ki := 87) 79 rfl dX11_away_76 lf_11_518 (Or.inl rfl) (s_78 hst) (by decide) rfl ?_
              refine ev_icmp_ge (tgt := 89) 82 rfl dX11_away_79 (by decide) (fun cd => ?_) (fun cd => ?_)
              · have H := H.1 cd
                refine ev_aload_n 90 rfl dX11_away_89 rfl rfl ?_
                refine ev_getR (ki := 89) (v := 125) 93 rfl dX11_away_90 lf_11_180 (s_78 hst) (by decide) rfl (p_78_89 hst) ?_
                refine ev_aload_n 94 rfl dX11_away_93 rfl rfl ?_
                refine ev_getI (ki := 86) 97 rfl dX11_away_94 lf_11_515 (Or.inl rfl) (s_78 hst) (by decide) rfl ?_
                refine ev_iload_n 98 rfl dX11_away_97 rfl rfl ?_
                obtain ⟨b17, H⟩ := H
                refine ev_iastore 99 rfl dX11_away_98 (s_125 hst) b17.1 b17.2 ?_
                obtain ⟨h18, eh18⟩ : ∃ z : qM, z = qup h15 125 (h15 78 86) v1 := ⟨_, rfl⟩
                rw [← eh18]
                have H := H h18 eh18
                refine ev_aload_n 100 rfl dX11_away_99 rfl rfl ?_
                refine ev_getR (ki := 90) (v := 126) 103 rfl dX11_away_100 lf_11_183 (s_78 hst) (by decide) rfl (p_78_90 hst) ?_
                refine ev_aload_n 104 rfl dX11_away_103 rfl rfl ?_
                refine ev_getI (ki := 86) 107 rfl dX11_away_104 lf_11_515 (Or.inl rfl) (s_78 hst) (by decide) rfl ?_
                refine ev_iload_n 108 rfl dX11_away_107 rfl rfl ?_
                obtain ⟨b19, H⟩ := H
                refine ev_iastore 109 rfl dX11_away_108 (s_126 hst) b19.1 b19.2 ?_
                obtain ⟨h20, eh20⟩ : ∃ z : qM, z = qup h18 126 (h18 78 86) v2 := ⟨_, rfl⟩
                rw [← eh20]
                have H := H h20 eh20
                refine ev_aload_n 110 rfl dX11_away_109 rfl rfl ?_
                refine ev_getR (ki := 91) (v := 127) 113 rfl dX11_away_110 lf_11_186 (s_78 hst) (by decide) rfl (p_78_91 hst) ?_
                refine ev_aload_n 114 rfl dX11_away_113 rfl rfl ?_
                refine ev_getI (ki := 86) 117 rfl dX11_away_114 lf_11_515 (Or.inl rfl) (s_78 hst) (by decide) rfl ?_
                refine ev_iload_n 118 rfl dX11_away_117 rfl rfl ?_
                obtain ⟨b21, H⟩ := H
                refine ev_iastore 119 rfl dX11_away_118 (s_127 hst) b21.1 b21.2 ?_
                obtain ⟨h22, eh22⟩ : ∃ z : qM, z = qup h20 127 (h20 78 86) v3 := ⟨_, rfl⟩
                rw [← eh22]
                have H := H h22 eh22
                refine ev_aload_n 120 rfl dX11_away_119 rfl rfl ?_
                refine ev_getR (ki := 92) (v := 128) 123 rfl dX11_away_120 lf_11_189 (s_78 hst) (by decide) rfl (p_78_92 hst) ?_
                refine ev_aload_n 124 rfl dX11_away_123 rfl rfl ?_
                refine ev_getI (ki := 86) 127 rfl dX11_away_124 lf_11_515 (Or.inl rfl) (s_78 hst) (by decide) rfl ?_
                refine ev_iload 129 rfl dX11_away_127 rfl ?_
                obtain ⟨b23, H⟩ := H
                refine ev_iastore 130 rfl dX11_away_129 (s_128 hst) b23.1 b23.2 ?_
                obtain ⟨h24, eh24⟩ : ∃ z : qM, z = qup h22 128 (h22 78 86) v4 := ⟨_, rfl⟩
                rw [← eh24]
                have H := H h24 eh24
                refine ev_aload_n 131 rfl dX11_away_130 rfl rfl ?_
                refine ev_dup 132 rfl dX11_away_131 q21 ?_
                refine ev_getI (ki := 86) 135 rfl dX11_away_132 lf_11_515 (Or.inl rfl) (s_78 hst) (by decide) rfl ?_
                refine ev_iconst 136 rfl dX11_away_135 (by decide) ?_
                obtain ⟨sd, H⟩ := H
                refine ev_iadd 137 rfl dX11_away_136 sd ?_
                refine ev_putI (ki := 86) 140 rfl dX11_away_137 lf_11_515 (Or.inl rfl) (s_78 hst) (by decide) rfl ?_
                obtain ⟨h25, eh25⟩ : ∃ z : qM, z = qup h24 78 86 ((h24 78 86) + 1) := ⟨_, rfl⟩
                rw [← eh25]
                have H := H h25 eh25
                refine ev_aload_n 141 rfl dX11_away_140 rfl rfl ?_
                refine ev_iload 143 rfl dX11_away_141 rfl ?_
                refine ev_putI (ki := 87) 146 rfl dX11_away_143 lf_11_518 (Or.inl rfl) (s_78 hst) (by decide) rfl ?_
                obtain ⟨h26, eh26⟩ : ∃ z : qM, z = qup h25 78 87 v4 := ⟨_, rfl⟩
                rw [← eh26]
                have H := H h26 eh26
                refine ev_iconst 147 rfl dX11_away_146 (by decide) ?_
                exact ev_retZ dX11_away_147 rfl (by decide) H
              · have H := H.2 cd
                refine ev_aload_n 83 rfl dX11_away_82 rfl rfl ?_
                refine ev_bipush 85 rfl dX11_away_83 (by decide) (by decide) ?_
                refine ev_cVI (As := [(0, 12)]) (rest := []) 88 rfl dX11_away_85 lm_11_227 mm_X11_no (s_78 hst) rfl rfl (Nat.le_of_ble_eq_true rfl) (Nat.le_of_ble_eq_true rfl) (Nat.le_refl _) H ?_
                intro r28 h27 H
                obtain ⟨sd, H⟩ := H
                exact ev_retZ dX11_away_88 rfl sd H
            · have H := H.2 cd
              refine ev_aload_n 67 rfl dX11_away_66 rfl rfl ?_
              refine ev_bipush 69 rfl dX11_away_67 (by decide) (by decide) ?_
              refine ev_cVI (As := [(0, 7)]) (rest := []) 72 rfl dX11_away_69 lm_11_227 mm_X11_no (s_78 hst) rfl rfl (Nat.le_of_ble_eq_true rfl) (Nat.le_of_ble_eq_true rfl) (Nat.le_refl _) H ?_
              intro r30 h29 H
              obtain ⟨sd, H⟩ := H
              exact ev_retZ dX11_away_72 rfl sd H
          · have H := H.2 cd
            refine ev_aload_n 52 rfl dX11_away_51 rfl rfl ?_
            refine ev_iconst 53 rfl dX11_away_52 (by decide) ?_
            refine ev_cVI (As := [(0, 5)]) (rest := []) 56 rfl dX11_away_53 lm_11_227 mm_X11_no (s_78 hst) rfl rfl (Nat.le_of_ble_eq_true rfl) (Nat.le_of_ble_eq_true rfl) (Nat.le_refl _) H ?_
            intro r32 h31 H
            obtain ⟨sd, H⟩ := H
            exact ev_retZ dX11_away_56 rfl sd H
  · have H := H.2 cd
    refine ev_aload_n 19 rfl dX11_away_18 rfl rfl ?_
    refine ev_iconst 20 rfl dX11_away_19 (by decide) ?_
    refine ev_cVI (As := [(0, 2)]) (rest := []) 23 rfl dX11_away_20 lm_11_227 mm_X11_no (s_78 hst) rfl rfl (Nat.le_of_ble_eq_true rfl) (Nat.le_of_ble_eq_true rfl) (Nat.le_refl _) H ?_
    intro r34 h33 H
    obtain ⟨sd, H⟩ := H
    exact ev_retZ dX11_away_23 rfl sd H

set_option maxRecDepth 20000 in
theorem b_X11_fills {X : qX} {d : Nat} {sh : qS} {pt h : qM} {K : Int → qM → Prop} {v1 : Int} (hst : St sh pt)
    (H : EvI X (d + 1) mX11_fills 2 [(2, 78), (0, v1), (0, 0)] [] sh pt h K) :
    RunI X (d + 1) mX11_fills [(2, 78), (0, v1)] sh pt h K := by
  show Ev X (d + 1) 0 0 mX11_fills 0 [(2, 78), (0, v1), (8, -1)] [] (sh, pt, h) (qRI sh pt K)
  refine ev_iconst 1 rfl dX11_fills_0 (by decide) ?_
  refine ev_istore_n (L1 := [(2, 78), (0, v1), (0, 0)]) 2 rfl dX11_fills_1 rfl (Nat.le_of_ble_eq_true rfl) rfl ?_
  exact H

set_option maxRecDepth 20000 in
theorem b_X11_fills_2 {X : qX} {d : Nat} {sh : qS} {pt h : qM} {K : Int → qM → Prop} {v1 v2 : Int} (hst : St sh pt)
    (H : (((h 78 85) ≤ v2 → K 0 h) ∧ (v2 < (h 78 85) → (0 ≤ v2 ∧ v2 < 16) ∧ (((h 131 v2) = 0 → (qI (v2 + 1)) ∧ EvI X (d + 1) mX11_fills 2 [(2, 78), (0, v1), (0, (v2 + 1))] [] sh pt h K) ∧ (¬ (h 131 v2) = 0 → (0 ≤ v2 ∧ v2 < 16) ∧ ((¬ (h 132 v2) = 0 → (qI (v2 + 1)) ∧ EvI X (d + 1) mX11_fills 2 [(2, 78), (0, v1), (0, (v2 + 1))] [] sh pt h K) ∧ ((h 132 v2) = 0 → (0 ≤ v2 ∧ v2 < 16) ∧ ((¬ (h 133 v2) = 0 → (qI (v2 + 1)) ∧ EvI X (d + 1) mX11_fills 2 [(2, 78), (0, v1), (0, (v2 + 1))] [] sh pt h K) ∧ ((h 133 v2) = 0 → (0 ≤ v2 ∧ v2 < 16) ∧ ((¬ (qiand (qishr (h 124 v2) v1) 1) = 0 → (0 ≤ v2 ∧ v2 < 16) ∧ ∀ h6 : qM, h6 = qup h 133 v2 1 → (0 ≤ v2 ∧ v2 < 16) ∧ (((h6 130 v2) < 0 → (0 ≤ v2 ∧ v2 < 16) ∧ ∀ h9 : qM, h9 = qup h6 130 v2 v1 → K 1 h9) ∧ (0 ≤ (h6 130 v2) → (0 ≤ v2 ∧ v2 < 16) ∧ RunI X d mX11_fills [(2, 78), (0, (h6 130 v2))] sh pt h6 (fun r12 h11 => ((¬ r12 = 0 → (0 ≤ v2 ∧ v2 < 16) ∧ ∀ h14 : qM, h14 = qup h11 130 v2 v1 → K 1 h14) ∧ (r12 = 0 → (qI (v2 + 1)) ∧ EvI X (d + 1) mX11_fills 2 [(2, 78), (0, v1), (0, (v2 + 1))] [] sh pt h11 K)))))) ∧ ((qiand (qishr (h 124 v2) v1) 1) = 0 → (qI (v2 + 1)) ∧ EvI X (d + 1) mX11_fills 2 [(2, 78), (0, v1), (0, (v2 + 1))] [] sh pt h K))))))))))) :
    EvI X (d + 1) mX11_fills 2 [(2, 78), (0, v1), (0, v2)] [] sh pt h K := by
  show Ev X (d + 1) 0 0 mX11_fills 2 [(2, 78), (0, v1), (0, v2)] [] (sh, pt, h) (qRI sh pt K)
  refine ev_iload_n 3 rfl dX11_fills_2 rfl rfl ?_
  refine ev_aload_n 4 rfl dX11_fills_3 rfl rfl ?_
  refine ev_getI (ki := 85) 7 rfl dX11_fills_4 lf_11_504 (Or.inl rfl) (s_78 hst) (by decide) rfl ?_
  refine ev_icmp_ge (tgt := 100) 10 rfl dX11_fills_7 (by decide) (fun cd => ?_) (fun cd => ?_)
  · have H := H.1 cd
    refine ev_iconst 101 rfl dX11_fills_100 (by decide) ?_
    exact ev_retZ dX11_fills_101 rfl (by decide) H
  · have H := H.2 cd
    refine ev_aload_n 11 rfl dX11_fills_10 rfl rfl ?_
    refine ev_getR (ki := 95) (v := 131) 14 rfl dX11_fills_11 lf_11_198 (s_78 hst) (by decide) rfl (p_78_95 hst) ?_
    refine ev_iload_n 15 rfl dX11_fills_14 rfl rfl ?_
    obtain ⟨b1, H⟩ := H
    refine ev_zaload 16 rfl dX11_fills_15 (s_131 hst) b1.1 b1.2 ?_
    refine ev_if_eq (tgt := 94) 19 rfl dX11_fills_16 (by decide) (fun cd => ?_) (fun cd => ?_)
    · have H := H.1 cd
      obtain ⟨sd, H⟩ := H
      refine ev_iinc (L1 := [(2, 78), (0, v1), (0, (v2 + 1))]) 97 rfl dX11_fills_94 rfl sd (Nat.le_of_ble_eq_true rfl) rfl ?_
      refine ev_goto (tgt := 2) dX11_fills_97 (by decide) ?_
      exact H
    · have H := H.2 cd
      refine ev_aload_n 20 rfl dX11_fills_19 rfl rfl ?_
      refine ev_getR (ki := 96) (v := 132) 23 rfl dX11_fills_20 lf_11_201 (s_78 hst) (by decide) rfl (p_78_96 hst) ?_
      refine ev_iload_n 24 rfl dX11_fills_23 rfl rfl ?_
      obtain ⟨b2, H⟩ := H
      refine ev_zaload 25 rfl dX11_fills_24 (s_132 hst) b2.1 b2.2 ?_
      refine ev_if_ne (tgt := 94) 28 rfl dX11_fills_25 (by decide) (fun cd => ?_) (fun cd => ?_)
      · have H := H.1 cd
        obtain ⟨sd, H⟩ := H
        refine ev_iinc (L1 := [(2, 78), (0, v1), (0, (v2 + 1))]) 97 rfl dX11_fills_94 rfl sd (Nat.le_of_ble_eq_true rfl) rfl ?_
        refine ev_goto (tgt := 2) dX11_fills_97 (by decide) ?_
        exact H
      · have H := H.2 cd
        refine ev_aload_n 29 rfl dX11_fills_28 rfl rfl ?_
        refine ev_getR (ki := 97) (v := 133) 32 rfl dX11_fills_29 lf_11_204 (s_78 hst) (by decide) rfl (p_78_97 hst) ?_
        refine ev_iload_n 33 rfl dX11_fills_32 rfl rfl ?_
        obtain ⟨b3, H⟩ := H
        refine ev_zaload 34 rfl dX11_fills_33 (s_133 hst) b3.1 b3.2 ?_
        refine ev_if_ne (tgt := 94) 37 rfl dX11_fills_34 (by decide) (fun cd => ?_) (fun cd => ?_)
        · have H := H.1 cd
          obtain ⟨sd, H⟩ := H
          refine ev_iinc (L1 := [(2, 78), (0, v1), (0, (v2 + 1))]) 97 rfl dX11_fills_94 rfl sd (Nat.le_of_ble_eq_true rfl) rfl ?_
          refine ev_goto (tgt := 2) dX11_fills_97 (by decide) ?_
          exact H
        · have H := H.2 cd
          refine ev_aload_n 38 rfl dX11_fills_37 rfl rfl ?_
          refine ev_getR (ki := 88) (v := 124) 41 rfl dX11_fills_38 lf_11_177 (s_78 hst) (by decide) rfl (p_78_88 hst) ?_
          refine ev_iload_n 42 rfl dX11_fills_41 rfl rfl ?_
          obtain ⟨b4, H⟩ := H
          refine ev_iaload 43 rfl dX11_fills_42 (s_124 hst) b4.1 b4.2 ?_
          refine ev_iload_n 44 rfl dX11_fills_43 rfl rfl ?_
          refine ev_ishr 45 rfl dX11_fills_44 ?_
          refine ev_iconst 46 rfl dX11_fills_45 (by decide) ?_
          refine ev_iand 47 rfl dX11_fills_46 ?_
          refine ev_if_ne (tgt := 53) 50 rfl dX11_fills_47 (by decide) (fun cd => ?_) (fun cd => ?_)
          · have H := H.1 cd
            refine ev_aload_n 54 rfl dX11_fills_53 rfl rfl ?_
            refine ev_getR (ki := 97) (v := 133) 57 rfl dX11_fills_54 lf_11_204 (s_78 hst) (by decide) rfl (p_78_97 hst) ?_
            refine ev_iload_n 58 rfl dX11_fills_57 rfl rfl ?_
            refine ev_iconst 59 rfl dX11_fills_58 (by decide) ?_
            obtain ⟨b5, H⟩ := H
            refine ev_zastore 60 rfl dX11_fills_59 (s_133 hst) b5.1 b5.2 (by decide) ?_
            obtain ⟨h6, eh6⟩ : ∃ z : qM, z = qup h 133 v2 1 := ⟨_, rfl⟩
            rw [← eh6]
            have H := H h6 eh6
            refine ev_aload_n 61 rfl dX11_fills_60 rfl rfl ?_
            refine ev_getR (ki := 94) (v := 130) 64 rfl dX11_fills_61 lf_11_195 (s_78 hst) (by decide) rfl (p_78_94 hst) ?_
            refine ev_iload_n 65 rfl dX11_fills_64 rfl rfl ?_
            obtain ⟨b7, H⟩ := H
            refine ev_iaload 66 rfl dX11_fills_65 (s_130 hst) b7.1 b7.2 ?_
            refine ev_if_lt (tgt := 85) 69 rfl dX11_fills_66 (by decide) (fun cd => ?_) (fun cd => ?_)
            · have H := H.1 cd
              refine ev_aload_n 86 rfl dX11_fills_85 rfl rfl ?_
              refine ev_getR (ki := 94) (v := 130) 89 rfl dX11_fills_86 lf_11_195 (s_78 hst) (by decide) rfl (p_78_94 hst) ?_
              refine ev_iload_n 90 rfl dX11_fills_89 rfl rfl ?_
              refine ev_iload_n 91 rfl dX11_fills_90 rfl rfl ?_
              obtain ⟨b8, H⟩ := H
              refine ev_iastore 92 rfl dX11_fills_91 (s_130 hst) b8.1 b8.2 ?_
              obtain ⟨h9, eh9⟩ : ∃ z : qM, z = qup h6 130 v2 v1 := ⟨_, rfl⟩
              rw [← eh9]
              have H := H h9 eh9
              refine ev_iconst 93 rfl dX11_fills_92 (by decide) ?_
              exact ev_retZ dX11_fills_93 rfl (by decide) H
            · have H := H.2 cd
              refine ev_aload_n 70 rfl dX11_fills_69 rfl rfl ?_
              refine ev_aload_n 71 rfl dX11_fills_70 rfl rfl ?_
              refine ev_getR (ki := 94) (v := 130) 74 rfl dX11_fills_71 lf_11_195 (s_78 hst) (by decide) rfl (p_78_94 hst) ?_
              refine ev_iload_n 75 rfl dX11_fills_74 rfl rfl ?_
              obtain ⟨b10, H⟩ := H
              refine ev_iaload 76 rfl dX11_fills_75 (s_130 hst) b10.1 b10.2 ?_
              refine ev_cVI (As := [(0, (h6 130 v2))]) (rest := []) 79 rfl dX11_fills_76 lm_11_521 mm_X11_fills (s_78 hst) rfl rfl (Nat.le_of_ble_eq_true rfl) (Nat.le_of_ble_eq_true rfl) (Nat.le_refl _) H ?_
              intro r12 h11 H
              refine ev_if_ne (tgt := 85) 82 rfl dX11_fills_79 (by decide) (fun cd => ?_) (fun cd => ?_)
              · have H := H.1 cd
                refine ev_aload_n 86 rfl dX11_fills_85 rfl rfl ?_
                refine ev_getR (ki := 94) (v := 130) 89 rfl dX11_fills_86 lf_11_195 (s_78 hst) (by decide) rfl (p_78_94 hst) ?_
                refine ev_iload_n 90 rfl dX11_fills_89 rfl rfl ?_
                refine ev_iload_n 91 rfl dX11_fills_90 rfl rfl ?_
                obtain ⟨b13, H⟩ := H
                refine ev_iastore 92 rfl dX11_fills_91 (s_130 hst) b13.1 b13.2 ?_
                obtain ⟨h14, eh14⟩ : ∃ z : qM, z = qup h11 130 v2 v1 := ⟨_, rfl⟩
                rw [← eh14]
                have H := H h14 eh14
                refine ev_iconst 93 rfl dX11_fills_92 (by decide) ?_
                exact ev_retZ dX11_fills_93 rfl (by decide) H
              · have H := H.2 cd
                refine ev_goto (tgt := 94) dX11_fills_82 (by decide) ?_
                obtain ⟨sd, H⟩ := H
                refine ev_iinc (L1 := [(2, 78), (0, v1), (0, (v2 + 1))]) 97 rfl dX11_fills_94 rfl sd (Nat.le_of_ble_eq_true rfl) rfl ?_
                refine ev_goto (tgt := 2) dX11_fills_97 (by decide) ?_
                exact H
          · have H := H.2 cd
            refine ev_goto (tgt := 94) dX11_fills_50 (by decide) ?_
            obtain ⟨sd, H⟩ := H
            refine ev_iinc (L1 := [(2, 78), (0, v1), (0, (v2 + 1))]) 97 rfl dX11_fills_94 rfl sd (Nat.le_of_ble_eq_true rfl) rfl ?_
            refine ev_goto (tgt := 2) dX11_fills_97 (by decide) ?_
            exact H

set_option maxRecDepth 20000 in
theorem b_X11_mostFrom {X : qX} {d : Nat} {sh : qS} {pt h : qM} {K : Int → qM → Prop} {v1 : Int} (hst : St sh pt)
    (H : EvI X (d + 1) mX11_mostFrom 2 [(2, 78), (0, v1), (0, 0), (8, -1), (8, -1)] [] sh pt h K) :
    RunI X (d + 1) mX11_mostFrom [(2, 78), (0, v1)] sh pt h K := by
  show Ev X (d + 1) 0 0 mX11_mostFrom 0 [(2, 78), (0, v1), (8, -1), (8, -1), (8, -1)] [] (sh, pt, h) (qRI sh pt K)
  refine ev_iconst 1 rfl dX11_mostFrom_0 (by decide) ?_
  refine ev_istore_n (L1 := [(2, 78), (0, v1), (0, 0), (8, -1), (8, -1)]) 2 rfl dX11_mostFrom_1 rfl (Nat.le_of_ble_eq_true rfl) rfl ?_
  exact H

set_option maxRecDepth 20000 in
theorem b_X11_mostFrom_2 {X : qX} {d : Nat} {sh : qS} {pt h : qM} {K : Int → qM → Prop} {v1 v2 : Int} (hst : St sh pt)
    (H : (((h 78 85) ≤ v2 → EvI X (d + 1) mX11_mostFrom 27 [(2, 78), (8, -1), (0, 0), (0, v1), (8, -1)] [] sh pt h K) ∧ (v2 < (h 78 85) → (0 ≤ v2 ∧ v2 < 16) ∧ ∀ h2 : qM, h2 = qup h 130 v2 (-1) → (qI (v2 + 1)) ∧ EvI X (d + 1) mX11_mostFrom 2 [(2, 78), (0, v1), (0, (v2 + 1)), (8, -1), (8, -1)] [] sh pt h2 K))) :
    EvI X (d + 1) mX11_mostFrom 2 [(2, 78), (0, v1), (0, v2), (8, -1), (8, -1)] [] sh pt h K := by
  show Ev X (d + 1) 0 0 mX11_mostFrom 2 [(2, 78), (0, v1), (0, v2), (8, -1), (8, -1)] [] (sh, pt, h) (qRI sh pt K)
  refine ev_iload_n 3 rfl dX11_mostFrom_2 rfl rfl ?_
  refine ev_aload_n 4 rfl dX11_mostFrom_3 rfl rfl ?_
  refine ev_getI (ki := 85) 7 rfl dX11_mostFrom_4 lf_11_504 (Or.inl rfl) (s_78 hst) (by decide) rfl ?_
  refine ev_icmp_ge (tgt := 23) 10 rfl dX11_mostFrom_7 (by decide) (fun cd => ?_) (fun cd => ?_)
  · have H := H.1 cd
    refine ev_iconst 24 rfl dX11_mostFrom_23 (by decide) ?_
    refine ev_istore_n (L1 := [(2, 78), (0, v1), (0, 0), (8, -1), (8, -1)]) 25 rfl dX11_mostFrom_24 rfl (Nat.le_of_ble_eq_true rfl) rfl ?_
    refine ev_iload_n 26 rfl dX11_mostFrom_25 rfl rfl ?_
    refine ev_istore_n (L1 := [(2, 78), (0, v1), (0, 0), (0, v1), (8, -1)]) 27 rfl dX11_mostFrom_26 rfl (Nat.le_of_ble_eq_true rfl) rfl ?_
    refine Ev.drop [1] rfl ?_
    exact H
  · have H := H.2 cd
    refine ev_aload_n 11 rfl dX11_mostFrom_10 rfl rfl ?_
    refine ev_getR (ki := 94) (v := 130) 14 rfl dX11_mostFrom_11 lf_11_195 (s_78 hst) (by decide) rfl (p_78_94 hst) ?_
    refine ev_iload_n 15 rfl dX11_mostFrom_14 rfl rfl ?_
    refine ev_iconst 16 rfl dX11_mostFrom_15 (by decide) ?_
    obtain ⟨b1, H⟩ := H
    refine ev_iastore 17 rfl dX11_mostFrom_16 (s_130 hst) b1.1 b1.2 ?_
    obtain ⟨h2, eh2⟩ : ∃ z : qM, z = qup h 130 v2 (-1) := ⟨_, rfl⟩
    rw [← eh2]
    have H := H h2 eh2
    obtain ⟨sd, H⟩ := H
    refine ev_iinc (L1 := [(2, 78), (0, v1), (0, (v2 + 1)), (8, -1), (8, -1)]) 20 rfl dX11_mostFrom_17 rfl sd (Nat.le_of_ble_eq_true rfl) rfl ?_
    refine ev_goto (tgt := 2) dX11_mostFrom_20 (by decide) ?_
    exact H

set_option maxRecDepth 20000 in
theorem b_X11_mostFrom_27 {X : qX} {d : Nat} {sh : qS} {pt h : qM} {K : Int → qM → Prop} {v2 v3 : Int} (hst : St sh pt)
    (H : (((h 78 7) ≤ v3 → K v2 h) ∧ (v3 < (h 78 7) → EvI X (d + 1) mX11_mostFrom 38 [(2, 78), (8, -1), (0, v2), (0, v3), (0, 0)] [] sh pt h K))) :
    EvI X (d + 1) mX11_mostFrom 27 [(2, 78), (8, -1), (0, v2), (0, v3), (8, -1)] [] sh pt h K := by
  show Ev X (d + 1) 0 0 mX11_mostFrom 27 [(2, 78), (8, -1), (0, v2), (0, v3), (8, -1)] [] (sh, pt, h) (qRI sh pt K)
  refine ev_iload_n 28 rfl dX11_mostFrom_27 rfl rfl ?_
  refine ev_aload_n 29 rfl dX11_mostFrom_28 rfl rfl ?_
  refine ev_getI (ki := 7) 32 rfl dX11_mostFrom_29 lf_11_245 (Or.inl rfl) (s_78 hst) (by decide) rfl ?_
  refine ev_icmp_ge (tgt := 83) 35 rfl dX11_mostFrom_32 (by decide) (fun cd => ?_) (fun cd => ?_)
  · have H := H.1 cd
    refine ev_iload_n 84 rfl dX11_mostFrom_83 rfl rfl ?_
    exact ev_retI dX11_mostFrom_84 rfl H
  · have H := H.2 cd
    refine ev_iconst 36 rfl dX11_mostFrom_35 (by decide) ?_
    refine ev_istore (L1 := [(2, 78), (8, -1), (0, v2), (0, v3), (0, 0)]) 38 rfl dX11_mostFrom_36 (Nat.le_of_ble_eq_true rfl) rfl ?_
    exact H

set_option maxRecDepth 20000 in
theorem b_X11_mostFrom_38 {X : qX} {d : Nat} {sh : qS} {pt h : qM} {K : Int → qM → Prop} {v2 v3 v4 : Int} (hst : St sh pt)
    (H : (((h 78 85) ≤ v4 → RunI X d mX11_fills [(2, 78), (0, v3)] sh pt h (fun r2 h1 => ((r2 = 0 → (qI (v2 + 0)) ∧ (qI (v3 + 1)) ∧ EvI X (d + 1) mX11_mostFrom 27 [(2, 78), (8, -1), (0, (v2 + 0)), (0, (v3 + 1)), (8, -1)] [] sh pt h1 K) ∧ (¬ r2 = 0 → (qI (v2 + 1)) ∧ (qI (v3 + 1)) ∧ EvI X (d + 1) mX11_mostFrom 27 [(2, 78), (8, -1), (0, (v2 + 1)), (0, (v3 + 1)), (8, -1)] [] sh pt h1 K)))) ∧ (v4 < (h 78 85) → (0 ≤ v4 ∧ v4 < 16) ∧ ∀ h4 : qM, h4 = qup h 133 v4 0 → (qI (v4 + 1)) ∧ EvI X (d + 1) mX11_mostFrom 38 [(2, 78), (8, -1), (0, v2), (0, v3), (0, (v4 + 1))] [] sh pt h4 K))) :
    EvI X (d + 1) mX11_mostFrom 38 [(2, 78), (8, -1), (0, v2), (0, v3), (0, v4)] [] sh pt h K := by
  show Ev X (d + 1) 0 0 mX11_mostFrom 38 [(2, 78), (8, -1), (0, v2), (0, v3), (0, v4)] [] (sh, pt, h) (qRI sh pt K)
  refine ev_iload 40 rfl dX11_mostFrom_38 rfl ?_
  refine ev_aload_n 41 rfl dX11_mostFrom_40 rfl rfl ?_
  refine ev_getI (ki := 85) 44 rfl dX11_mostFrom_41 lf_11_504 (Or.inl rfl) (s_78 hst) (by decide) rfl ?_
  refine ev_icmp_ge (tgt := 61) 47 rfl dX11_mostFrom_44 (by decide) (fun cd => ?_) (fun cd => ?_)
  · have H := H.1 cd
    refine ev_iload_n 62 rfl dX11_mostFrom_61 rfl rfl ?_
    refine ev_aload_n 63 rfl dX11_mostFrom_62 rfl rfl ?_
    refine ev_iload_n 64 rfl dX11_mostFrom_63 rfl rfl ?_
    refine ev_cVI (As := [(0, v3)]) (rest := [(0, v2)]) 67 rfl dX11_mostFrom_64 lm_11_521 mm_X11_fills (s_78 hst) rfl rfl (Nat.le_of_ble_eq_true rfl) (Nat.le_of_ble_eq_true rfl) (Nat.le_refl _) H ?_
    intro r2 h1 H
    refine ev_if_eq (tgt := 74) 70 rfl dX11_mostFrom_67 (by decide) (fun cd => ?_) (fun cd => ?_)
    · have H := H.1 cd
      refine ev_iconst 75 rfl dX11_mostFrom_74 (by decide) ?_
      obtain ⟨sd, H⟩ := H
      refine ev_iadd 76 rfl dX11_mostFrom_75 sd ?_
      refine ev_istore_n (L1 := [(2, 78), (8, -1), (0, (v2 + 0)), (0, v3), (0, v4)]) 77 rfl dX11_mostFrom_76 rfl (Nat.le_of_ble_eq_true rfl) rfl ?_
      obtain ⟨sd, H⟩ := H
      refine ev_iinc (L1 := [(2, 78), (8, -1), (0, (v2 + 0)), (0, (v3 + 1)), (0, v4)]) 80 rfl dX11_mostFrom_77 rfl sd (Nat.le_of_ble_eq_true rfl) rfl ?_
      refine ev_goto (tgt := 27) dX11_mostFrom_80 (by decide) ?_
      refine Ev.drop [4] rfl ?_
      exact H
    · have H := H.2 cd
      refine ev_iconst 71 rfl dX11_mostFrom_70 (by decide) ?_
      refine ev_goto (tgt := 75) dX11_mostFrom_71 (by decide) ?_
      obtain ⟨sd, H⟩ := H
      refine ev_iadd 76 rfl dX11_mostFrom_75 sd ?_
      refine ev_istore_n (L1 := [(2, 78), (8, -1), (0, (v2 + 1)), (0, v3), (0, v4)]) 77 rfl dX11_mostFrom_76 rfl (Nat.le_of_ble_eq_true rfl) rfl ?_
      obtain ⟨sd, H⟩ := H
      refine ev_iinc (L1 := [(2, 78), (8, -1), (0, (v2 + 1)), (0, (v3 + 1)), (0, v4)]) 80 rfl dX11_mostFrom_77 rfl sd (Nat.le_of_ble_eq_true rfl) rfl ?_
      refine ev_goto (tgt := 27) dX11_mostFrom_80 (by decide) ?_
      refine Ev.drop [4] rfl ?_
      exact H
  · have H := H.2 cd
    refine ev_aload_n 48 rfl dX11_mostFrom_47 rfl rfl ?_
    refine ev_getR (ki := 97) (v := 133) 51 rfl dX11_mostFrom_48 lf_11_204 (s_78 hst) (by decide) rfl (p_78_97 hst) ?_
    refine ev_iload 53 rfl dX11_mostFrom_51 rfl ?_
    refine ev_iconst 54 rfl dX11_mostFrom_53 (by decide) ?_
    obtain ⟨b3, H⟩ := H
    refine ev_zastore 55 rfl dX11_mostFrom_54 (s_133 hst) b3.1 b3.2 (by decide) ?_
    obtain ⟨h4, eh4⟩ : ∃ z : qM, z = qup h 133 v4 0 := ⟨_, rfl⟩
    rw [← eh4]
    have H := H h4 eh4
    obtain ⟨sd, H⟩ := H
    refine ev_iinc (L1 := [(2, 78), (8, -1), (0, v2), (0, v3), (0, (v4 + 1))]) 58 rfl dX11_mostFrom_55 rfl sd (Nat.le_of_ble_eq_true rfl) rfl ?_
    refine ev_goto (tgt := 38) dX11_mostFrom_58 (by decide) ?_
    exact H

set_option maxRecDepth 20000 in
theorem b_X11_fillAll {X : qX} {d : Nat} {sh : qS} {pt h : qM} {K : Int → qM → Prop} {v1 v2 : Int} (hst : St sh pt)
    (H : EvI X (d + 1) mX11_fillAll 2 [(2, 78), (0, v1), (0, v2), (0, 0), (8, -1), (8, -1), (8, -1)] [] sh pt h K) :
    RunI X (d + 1) mX11_fillAll [(2, 78), (0, v1), (0, v2)] sh pt h K := by
  show Ev X (d + 1) 0 0 mX11_fillAll 0 [(2, 78), (0, v1), (0, v2), (8, -1), (8, -1), (8, -1), (8, -1)] [] (sh, pt, h) (qRI sh pt K)
  refine ev_iconst 1 rfl dX11_fillAll_0 (by decide) ?_
  refine ev_istore_n (L1 := [(2, 78), (0, v1), (0, v2), (0, 0), (8, -1), (8, -1), (8, -1)]) 2 rfl dX11_fillAll_1 rfl (Nat.le_of_ble_eq_true rfl) rfl ?_
  exact H

set_option maxRecDepth 20000 in
theorem b_X11_fillAll_2 {X : qX} {d : Nat} {sh : qS} {pt h : qM} {K : Int → qM → Prop} {v1 v2 v3 : Int} (hst : St sh pt)
    (H : (((h 78 85) ≤ v3 → RunI X d mX11_mostFrom [(2, 78), (0, 0)] sh pt h (fun r2 h1 => EvI X (d + 1) mX11_fillAll 113 [(2, 78), (8, -1), (8, -1), (0, r2), (0, r2), (0, 0), (8, -1)] [] sh pt h1 K)) ∧ (v3 < (h 78 85) → (0 ≤ v3 ∧ v3 < 16) ∧ ∀ h4 : qM, h4 = qup h 131 v3 1 → (0 ≤ v3 ∧ v3 < 16) ∧ ∀ h6 : qM, h6 = qup h4 132 v3 0 → EvI X (d + 1) mX11_fillAll 27 [(2, 78), (0, v1), (0, v2), (0, v3), (0, 0), (8, -1), (8, -1)] [] sh pt h6 K))) :
    EvI X (d + 1) mX11_fillAll 2 [(2, 78), (0, v1), (0, v2), (0, v3), (8, -1), (8, -1), (8, -1)] [] sh pt h K := by
  show Ev X (d + 1) 0 0 mX11_fillAll 2 [(2, 78), (0, v1), (0, v2), (0, v3), (8, -1), (8, -1), (8, -1)] [] (sh, pt, h) (qRI sh pt K)
  refine ev_iload_n 3 rfl dX11_fillAll_2 rfl rfl ?_
  refine ev_aload_n 4 rfl dX11_fillAll_3 rfl rfl ?_
  refine ev_getI (ki := 85) 7 rfl dX11_fillAll_4 lf_11_504 (Or.inl rfl) (s_78 hst) (by decide) rfl ?_
  refine ev_icmp_ge (tgt := 101) 10 rfl dX11_fillAll_7 (by decide) (fun cd => ?_) (fun cd => ?_)
  · have H := H.1 cd
    refine ev_aload_n 102 rfl dX11_fillAll_101 rfl rfl ?_
    refine ev_iconst 103 rfl dX11_fillAll_102 (by decide) ?_
    refine ev_cVI (As := [(0, 0)]) (rest := []) 106 rfl dX11_fillAll_103 lm_11_524 mm_X11_mostFrom (s_78 hst) rfl rfl (Nat.le_of_ble_eq_true rfl) (Nat.le_of_ble_eq_true rfl) (Nat.le_refl _) H ?_
    intro r2 h1 H
    refine ev_istore_n (L1 := [(2, 78), (0, v1), (0, v2), (0, r2), (8, -1), (8, -1), (8, -1)]) 107 rfl dX11_fillAll_106 rfl (Nat.le_of_ble_eq_true rfl) rfl ?_
    refine ev_iload_n 108 rfl dX11_fillAll_107 rfl rfl ?_
    refine ev_istore (L1 := [(2, 78), (0, v1), (0, v2), (0, r2), (0, r2), (8, -1), (8, -1)]) 110 rfl dX11_fillAll_108 (Nat.le_of_ble_eq_true rfl) rfl ?_
    refine ev_iconst 111 rfl dX11_fillAll_110 (by decide) ?_
    refine ev_istore (L1 := [(2, 78), (0, v1), (0, v2), (0, r2), (0, r2), (0, 0), (8, -1)]) 113 rfl dX11_fillAll_111 (Nat.le_of_ble_eq_true rfl) rfl ?_
    refine Ev.drop [1, 2] rfl ?_
    exact H
  · have H := H.2 cd
    refine ev_aload_n 11 rfl dX11_fillAll_10 rfl rfl ?_
    refine ev_getR (ki := 95) (v := 131) 14 rfl dX11_fillAll_11 lf_11_198 (s_78 hst) (by decide) rfl (p_78_95 hst) ?_
    refine ev_iload_n 15 rfl dX11_fillAll_14 rfl rfl ?_
    refine ev_iconst 16 rfl dX11_fillAll_15 (by decide) ?_
    obtain ⟨b3, H⟩ := H
    refine ev_zastore 17 rfl dX11_fillAll_16 (s_131 hst) b3.1 b3.2 (by decide) ?_
    obtain ⟨h4, eh4⟩ : ∃ z : qM, z = qup h 131 v3 1 := ⟨_, rfl⟩
    rw [← eh4]
    have H := H h4 eh4
    refine ev_aload_n 18 rfl dX11_fillAll_17 rfl rfl ?_
    refine ev_getR (ki := 96) (v := 132) 21 rfl dX11_fillAll_18 lf_11_201 (s_78 hst) (by decide) rfl (p_78_96 hst) ?_
    refine ev_iload_n 22 rfl dX11_fillAll_21 rfl rfl ?_
    refine ev_iconst 23 rfl dX11_fillAll_22 (by decide) ?_
    obtain ⟨b5, H⟩ := H
    refine ev_zastore 24 rfl dX11_fillAll_23 (s_132 hst) b5.1 b5.2 (by decide) ?_
    obtain ⟨h6, eh6⟩ : ∃ z : qM, z = qup h4 132 v3 0 := ⟨_, rfl⟩
    rw [← eh6]
    have H := H h6 eh6
    refine ev_iconst 25 rfl dX11_fillAll_24 (by decide) ?_
    refine ev_istore (L1 := [(2, 78), (0, v1), (0, v2), (0, v3), (0, 0), (8, -1), (8, -1)]) 27 rfl dX11_fillAll_25 (Nat.le_of_ble_eq_true rfl) rfl ?_
    exact H

set_option maxRecDepth 20000 in
theorem b_X11_fillAll_113 {X : qX} {d : Nat} {sh : qS} {pt h : qM} {K : Int → qM → Prop} {v3 v4 v5 : Int} (hst : St sh pt)
    (H : (((h 78 7) ≤ v5 → K v3 h) ∧ (v5 < (h 78 7) → (0 ≤ v5 ∧ v5 < 20) ∧ ∀ h2 : qM, h2 = qup h 129 v5 (-1) → EvI X (d + 1) mX11_fillAll 133 [(2, 78), (8, -1), (8, -1), (0, v3), (0, v4), (0, v5), (0, 0)] [] sh pt h2 K))) :
    EvI X (d + 1) mX11_fillAll 113 [(2, 78), (8, -1), (8, -1), (0, v3), (0, v4), (0, v5), (8, -1)] [] sh pt h K := by
  show Ev X (d + 1) 0 0 mX11_fillAll 113 [(2, 78), (8, -1), (8, -1), (0, v3), (0, v4), (0, v5), (8, -1)] [] (sh, pt, h) (qRI sh pt K)
  refine ev_iload 115 rfl dX11_fillAll_113 rfl ?_
  refine ev_aload_n 116 rfl dX11_fillAll_115 rfl rfl ?_
  refine ev_getI (ki := 7) 119 rfl dX11_fillAll_116 lf_11_245 (Or.inl rfl) (s_78 hst) (by decide) rfl ?_
  refine ev_icmp_ge (tgt := 265) 122 rfl dX11_fillAll_119 (by decide) (fun cd => ?_) (fun cd => ?_)
  · have H := H.1 cd
    refine ev_iload_n 266 rfl dX11_fillAll_265 rfl rfl ?_
    exact ev_retI dX11_fillAll_266 rfl H
  · have H := H.2 cd
    refine ev_aload_n 123 rfl dX11_fillAll_122 rfl rfl ?_
    refine ev_getR (ki := 93) (v := 129) 126 rfl dX11_fillAll_123 lf_11_192 (s_78 hst) (by decide) rfl (p_78_93 hst) ?_
    refine ev_iload 128 rfl dX11_fillAll_126 rfl ?_
    refine ev_iconst 129 rfl dX11_fillAll_128 (by decide) ?_
    obtain ⟨b1, H⟩ := H
    refine ev_iastore 130 rfl dX11_fillAll_129 (s_129 hst) b1.1 b1.2 ?_
    obtain ⟨h2, eh2⟩ : ∃ z : qM, z = qup h 129 v5 (-1) := ⟨_, rfl⟩
    rw [← eh2]
    have H := H h2 eh2
    refine ev_iconst 131 rfl dX11_fillAll_130 (by decide) ?_
    refine ev_istore (L1 := [(2, 78), (8, -1), (8, -1), (0, v3), (0, v4), (0, v5), (0, 0)]) 133 rfl dX11_fillAll_131 (Nat.le_of_ble_eq_true rfl) rfl ?_
    exact H

set_option maxRecDepth 20000 in
theorem b_X11_fillAll_27 {X : qX} {d : Nat} {sh : qS} {pt h : qM} {K : Int → qM → Prop} {v1 v2 v3 v4 : Int} (hst : St sh pt)
    (H : (((h 78 86) ≤ v4 → (qI (v3 + 1)) ∧ EvI X (d + 1) mX11_fillAll 2 [(2, 78), (0, v1), (0, v2), (0, (v3 + 1)), (8, -1), (8, -1), (8, -1)] [] sh pt h K) ∧ (v4 < (h 78 86) → (0 ≤ v4 ∧ v4 < 60) ∧ ((¬ (h 125 v4) = v3 → (qI (v4 + 1)) ∧ EvI X (d + 1) mX11_fillAll 27 [(2, 78), (0, v1), (0, v2), (0, v3), (0, (v4 + 1)), (8, -1), (8, -1)] [] sh pt h K) ∧ ((h 125 v4) = v3 → (0 ≤ v4 ∧ v4 < 60) ∧ ((v2 < (h 128 v4) → (qI (v4 + 1)) ∧ EvI X (d + 1) mX11_fillAll 27 [(2, 78), (0, v1), (0, v2), (0, v3), (0, (v4 + 1)), (8, -1), (8, -1)] [] sh pt h K) ∧ ((h 128 v4) ≤ v2 → (0 ≤ v4 ∧ v4 < 60) ∧ (0 ≤ v4 ∧ v4 < 60) ∧ RunI X d mX11_isIn [(1, v1), (1, (h 126 v4)), (1, (h 127 v4))] sh pt h (fun r6 h5 => ((r6 = 0 → (qI (v4 + 1)) ∧ EvI X (d + 1) mX11_fillAll 27 [(2, 78), (0, v1), (0, v2), (0, v3), (0, (v4 + 1)), (8, -1), (8, -1)] [] sh pt h5 K) ∧ (¬ r6 = 0 → (0 ≤ v3 ∧ v3 < 16) ∧ ∀ h8 : qM, h8 = qup h5 131 v3 0 → (qI (v4 + 1)) ∧ EvI X (d + 1) mX11_fillAll 27 [(2, 78), (0, v1), (0, v2), (0, v3), (0, (v4 + 1)), (8, -1), (8, -1)] [] sh pt h8 K)))))))))) :
    EvI X (d + 1) mX11_fillAll 27 [(2, 78), (0, v1), (0, v2), (0, v3), (0, v4), (8, -1), (8, -1)] [] sh pt h K := by
  show Ev X (d + 1) 0 0 mX11_fillAll 27 [(2, 78), (0, v1), (0, v2), (0, v3), (0, v4), (8, -1), (8, -1)] [] (sh, pt, h) (qRI sh pt K)
  refine ev_iload 29 rfl dX11_fillAll_27 rfl ?_
  refine ev_aload_n 30 rfl dX11_fillAll_29 rfl rfl ?_
  refine ev_getI (ki := 86) 33 rfl dX11_fillAll_30 lf_11_515 (Or.inl rfl) (s_78 hst) (by decide) rfl ?_
  refine ev_icmp_ge (tgt := 95) 36 rfl dX11_fillAll_33 (by decide) (fun cd => ?_) (fun cd => ?_)
  · have H := H.1 cd
    obtain ⟨sd, H⟩ := H
    refine ev_iinc (L1 := [(2, 78), (0, v1), (0, v2), (0, (v3 + 1)), (0, v4), (8, -1), (8, -1)]) 98 rfl dX11_fillAll_95 rfl sd (Nat.le_of_ble_eq_true rfl) rfl ?_
    refine ev_goto (tgt := 2) dX11_fillAll_98 (by decide) ?_
    refine Ev.drop [4] rfl ?_
    exact H
  · have H := H.2 cd
    refine ev_aload_n 37 rfl dX11_fillAll_36 rfl rfl ?_
    refine ev_getR (ki := 89) (v := 125) 40 rfl dX11_fillAll_37 lf_11_180 (s_78 hst) (by decide) rfl (p_78_89 hst) ?_
    refine ev_iload 42 rfl dX11_fillAll_40 rfl ?_
    obtain ⟨b1, H⟩ := H
    refine ev_iaload 43 rfl dX11_fillAll_42 (s_125 hst) b1.1 b1.2 ?_
    refine ev_iload_n 44 rfl dX11_fillAll_43 rfl rfl ?_
    refine ev_icmp_ne (tgt := 89) 47 rfl dX11_fillAll_44 (by decide) (fun cd => ?_) (fun cd => ?_)
    · have H := H.1 cd
      obtain ⟨sd, H⟩ := H
      refine ev_iinc (L1 := [(2, 78), (0, v1), (0, v2), (0, v3), (0, (v4 + 1)), (8, -1), (8, -1)]) 92 rfl dX11_fillAll_89 rfl sd (Nat.le_of_ble_eq_true rfl) rfl ?_
      refine ev_goto (tgt := 27) dX11_fillAll_92 (by decide) ?_
      exact H
    · have H := H.2 cd
      refine ev_aload_n 48 rfl dX11_fillAll_47 rfl rfl ?_
      refine ev_getR (ki := 92) (v := 128) 51 rfl dX11_fillAll_48 lf_11_189 (s_78 hst) (by decide) rfl (p_78_92 hst) ?_
      refine ev_iload 53 rfl dX11_fillAll_51 rfl ?_
      obtain ⟨b2, H⟩ := H
      refine ev_iaload 54 rfl dX11_fillAll_53 (s_128 hst) b2.1 b2.2 ?_
      refine ev_iload_n 55 rfl dX11_fillAll_54 rfl rfl ?_
      refine ev_icmp_gt (tgt := 89) 58 rfl dX11_fillAll_55 (by decide) (fun cd => ?_) (fun cd => ?_)
      · have H := H.1 cd
        obtain ⟨sd, H⟩ := H
        refine ev_iinc (L1 := [(2, 78), (0, v1), (0, v2), (0, v3), (0, (v4 + 1)), (8, -1), (8, -1)]) 92 rfl dX11_fillAll_89 rfl sd (Nat.le_of_ble_eq_true rfl) rfl ?_
        refine ev_goto (tgt := 27) dX11_fillAll_92 (by decide) ?_
        exact H
      · have H := H.2 cd
        refine ev_iload_n 59 rfl dX11_fillAll_58 rfl rfl ?_
        refine ev_i2l 60 rfl dX11_fillAll_59 ?_
        refine ev_aload_n 61 rfl dX11_fillAll_60 rfl rfl ?_
        refine ev_getR (ki := 90) (v := 126) 64 rfl dX11_fillAll_61 lf_11_183 (s_78 hst) (by decide) rfl (p_78_90 hst) ?_
        refine ev_iload 66 rfl dX11_fillAll_64 rfl ?_
        obtain ⟨b3, H⟩ := H
        refine ev_iaload 67 rfl dX11_fillAll_66 (s_126 hst) b3.1 b3.2 ?_
        refine ev_i2l 68 rfl dX11_fillAll_67 ?_
        refine ev_aload_n 69 rfl dX11_fillAll_68 rfl rfl ?_
        refine ev_getR (ki := 91) (v := 127) 72 rfl dX11_fillAll_69 lf_11_186 (s_78 hst) (by decide) rfl (p_78_91 hst) ?_
        refine ev_iload 74 rfl dX11_fillAll_72 rfl ?_
        obtain ⟨b4, H⟩ := H
        refine ev_iaload 75 rfl dX11_fillAll_74 (s_127 hst) b4.1 b4.2 ?_
        refine ev_i2l 76 rfl dX11_fillAll_75 ?_
        refine ev_cSI (As := [(1, v1), (1, (h 126 v4)), (1, (h 127 v4))]) (rest := []) 79 rfl dX11_fillAll_76 lm_11_221 mm_X11_isIn rfl rfl (Nat.le_of_ble_eq_true rfl) (Nat.le_of_ble_eq_true rfl) (Nat.le_refl _) H ?_
        intro r6 h5 H
        refine ev_if_eq (tgt := 89) 82 rfl dX11_fillAll_79 (by decide) (fun cd => ?_) (fun cd => ?_)
        · have H := H.1 cd
          obtain ⟨sd, H⟩ := H
          refine ev_iinc (L1 := [(2, 78), (0, v1), (0, v2), (0, v3), (0, (v4 + 1)), (8, -1), (8, -1)]) 92 rfl dX11_fillAll_89 rfl sd (Nat.le_of_ble_eq_true rfl) rfl ?_
          refine ev_goto (tgt := 27) dX11_fillAll_92 (by decide) ?_
          exact H
        · have H := H.2 cd
          refine ev_aload_n 83 rfl dX11_fillAll_82 rfl rfl ?_
          refine ev_getR (ki := 95) (v := 131) 86 rfl dX11_fillAll_83 lf_11_198 (s_78 hst) (by decide) rfl (p_78_95 hst) ?_
          refine ev_iload_n 87 rfl dX11_fillAll_86 rfl rfl ?_
          refine ev_iconst 88 rfl dX11_fillAll_87 (by decide) ?_
          obtain ⟨b7, H⟩ := H
          refine ev_zastore 89 rfl dX11_fillAll_88 (s_131 hst) b7.1 b7.2 (by decide) ?_
          obtain ⟨h8, eh8⟩ : ∃ z : qM, z = qup h5 131 v3 0 := ⟨_, rfl⟩
          rw [← eh8]
          have H := H h8 eh8
          obtain ⟨sd, H⟩ := H
          refine ev_iinc (L1 := [(2, 78), (0, v1), (0, v2), (0, v3), (0, (v4 + 1)), (8, -1), (8, -1)]) 92 rfl dX11_fillAll_89 rfl sd (Nat.le_of_ble_eq_true rfl) rfl ?_
          refine ev_goto (tgt := 27) dX11_fillAll_92 (by decide) ?_
          exact H

set_option maxRecDepth 20000 in
theorem b_X11_fillAll_133 {X : qX} {d : Nat} {sh : qS} {pt h : qM} {K : Int → qM → Prop} {v3 v4 v5 v6 : Int} (hst : St sh pt)
    (H : (((h 78 85) ≤ v6 → EvI X (d + 1) mX11_fillAll 239 [(2, 78), (8, -1), (8, -1), (0, v3), (0, v4), (0, v5), (8, -1)] [] sh pt h K) ∧ (v6 < (h 78 85) → (0 ≤ v5 ∧ v5 < 20) ∧ ((0 ≤ (h 129 v5) → EvI X (d + 1) mX11_fillAll 239 [(2, 78), (8, -1), (8, -1), (0, v3), (0, v4), (0, v5), (8, -1)] [] sh pt h K) ∧ ((h 129 v5) < 0 → (0 ≤ v6 ∧ v6 < 16) ∧ (((h 131 v6) = 0 → (qI (v6 + 1)) ∧ EvI X (d + 1) mX11_fillAll 133 [(2, 78), (8, -1), (8, -1), (0, v3), (0, v4), (0, v5), (0, (v6 + 1))] [] sh pt h K) ∧ (¬ (h 131 v6) = 0 → (0 ≤ v6 ∧ v6 < 16) ∧ ((¬ (h 132 v6) = 0 → (qI (v6 + 1)) ∧ EvI X (d + 1) mX11_fillAll 133 [(2, 78), (8, -1), (8, -1), (0, v3), (0, v4), (0, v5), (0, (v6 + 1))] [] sh pt h K) ∧ ((h 132 v6) = 0 → (0 ≤ v6 ∧ v6 < 16) ∧ ((¬ (qiand (qishr (h 124 v6) v5) 1) = 0 → (0 ≤ v6 ∧ v6 < 16) ∧ ∀ h6 : qM, h6 = qup h 132 v6 1 → (qI (v5 + 1)) ∧ RunI X d mX11_mostFrom [(2, 78), (0, (v5 + 1))] sh pt h6 (fun r8 h7 => (qI (v4 - 1)) ∧ ((¬ r8 = (v4 - 1) → (0 ≤ v6 ∧ v6 < 16) ∧ ∀ h10 : qM, h10 = qup h7 132 v6 0 → (qI (v6 + 1)) ∧ EvI X (d + 1) mX11_fillAll 133 [(2, 78), (8, -1), (8, -1), (0, v3), (0, v4), (0, v5), (0, (v6 + 1))] [] sh pt h10 K) ∧ (r8 = (v4 - 1) → (0 ≤ v5 ∧ v5 < 20) ∧ ∀ h12 : qM, h12 = qup h7 129 v5 v6 → (qI (v6 + 1)) ∧ EvI X (d + 1) mX11_fillAll 133 [(2, 78), (8, -1), (8, -1), (0, v3), (0, v4), (0, v5), (0, (v6 + 1))] [] sh pt h12 K)))) ∧ ((qiand (qishr (h 124 v6) v5) 1) = 0 → (qI (v6 + 1)) ∧ EvI X (d + 1) mX11_fillAll 133 [(2, 78), (8, -1), (8, -1), (0, v3), (0, v4), (0, v5), (0, (v6 + 1))] [] sh pt h K))))))))))) :
    EvI X (d + 1) mX11_fillAll 133 [(2, 78), (8, -1), (8, -1), (0, v3), (0, v4), (0, v5), (0, v6)] [] sh pt h K := by
  show Ev X (d + 1) 0 0 mX11_fillAll 133 [(2, 78), (8, -1), (8, -1), (0, v3), (0, v4), (0, v5), (0, v6)] [] (sh, pt, h) (qRI sh pt K)
  refine ev_iload 135 rfl dX11_fillAll_133 rfl ?_
  refine ev_aload_n 136 rfl dX11_fillAll_135 rfl rfl ?_
  refine ev_getI (ki := 85) 139 rfl dX11_fillAll_136 lf_11_504 (Or.inl rfl) (s_78 hst) (by decide) rfl ?_
  refine ev_icmp_ge (tgt := 239) 142 rfl dX11_fillAll_139 (by decide) (fun cd => ?_) (fun cd => ?_)
  · have H := H.1 cd
    refine Ev.drop [6] rfl ?_
    exact H
  · have H := H.2 cd
    refine ev_aload_n 143 rfl dX11_fillAll_142 rfl rfl ?_
    refine ev_getR (ki := 93) (v := 129) 146 rfl dX11_fillAll_143 lf_11_192 (s_78 hst) (by decide) rfl (p_78_93 hst) ?_
    refine ev_iload 148 rfl dX11_fillAll_146 rfl ?_
    obtain ⟨b1, H⟩ := H
    refine ev_iaload 149 rfl dX11_fillAll_148 (s_129 hst) b1.1 b1.2 ?_
    refine ev_if_ge (tgt := 239) 152 rfl dX11_fillAll_149 (by decide) (fun cd => ?_) (fun cd => ?_)
    · have H := H.1 cd
      refine Ev.drop [6] rfl ?_
      exact H
    · have H := H.2 cd
      refine ev_aload_n 153 rfl dX11_fillAll_152 rfl rfl ?_
      refine ev_getR (ki := 95) (v := 131) 156 rfl dX11_fillAll_153 lf_11_198 (s_78 hst) (by decide) rfl (p_78_95 hst) ?_
      refine ev_iload 158 rfl dX11_fillAll_156 rfl ?_
      obtain ⟨b2, H⟩ := H
      refine ev_zaload 159 rfl dX11_fillAll_158 (s_131 hst) b2.1 b2.2 ?_
      refine ev_if_eq (tgt := 233) 162 rfl dX11_fillAll_159 (by decide) (fun cd => ?_) (fun cd => ?_)
      · have H := H.1 cd
        obtain ⟨sd, H⟩ := H
        refine ev_iinc (L1 := [(2, 78), (8, -1), (8, -1), (0, v3), (0, v4), (0, v5), (0, (v6 + 1))]) 236 rfl dX11_fillAll_233 rfl sd (Nat.le_of_ble_eq_true rfl) rfl ?_
        refine ev_goto (tgt := 133) dX11_fillAll_236 (by decide) ?_
        exact H
      · have H := H.2 cd
        refine ev_aload_n 163 rfl dX11_fillAll_162 rfl rfl ?_
        refine ev_getR (ki := 96) (v := 132) 166 rfl dX11_fillAll_163 lf_11_201 (s_78 hst) (by decide) rfl (p_78_96 hst) ?_
        refine ev_iload 168 rfl dX11_fillAll_166 rfl ?_
        obtain ⟨b3, H⟩ := H
        refine ev_zaload 169 rfl dX11_fillAll_168 (s_132 hst) b3.1 b3.2 ?_
        refine ev_if_ne (tgt := 233) 172 rfl dX11_fillAll_169 (by decide) (fun cd => ?_) (fun cd => ?_)
        · have H := H.1 cd
          obtain ⟨sd, H⟩ := H
          refine ev_iinc (L1 := [(2, 78), (8, -1), (8, -1), (0, v3), (0, v4), (0, v5), (0, (v6 + 1))]) 236 rfl dX11_fillAll_233 rfl sd (Nat.le_of_ble_eq_true rfl) rfl ?_
          refine ev_goto (tgt := 133) dX11_fillAll_236 (by decide) ?_
          exact H
        · have H := H.2 cd
          refine ev_aload_n 173 rfl dX11_fillAll_172 rfl rfl ?_
          refine ev_getR (ki := 88) (v := 124) 176 rfl dX11_fillAll_173 lf_11_177 (s_78 hst) (by decide) rfl (p_78_88 hst) ?_
          refine ev_iload 178 rfl dX11_fillAll_176 rfl ?_
          obtain ⟨b4, H⟩ := H
          refine ev_iaload 179 rfl dX11_fillAll_178 (s_124 hst) b4.1 b4.2 ?_
          refine ev_iload 181 rfl dX11_fillAll_179 rfl ?_
          refine ev_ishr 182 rfl dX11_fillAll_181 ?_
          refine ev_iconst 183 rfl dX11_fillAll_182 (by decide) ?_
          refine ev_iand 184 rfl dX11_fillAll_183 ?_
          refine ev_if_ne (tgt := 190) 187 rfl dX11_fillAll_184 (by decide) (fun cd => ?_) (fun cd => ?_)
          · have H := H.1 cd
            refine ev_aload_n 191 rfl dX11_fillAll_190 rfl rfl ?_
            refine ev_getR (ki := 96) (v := 132) 194 rfl dX11_fillAll_191 lf_11_201 (s_78 hst) (by decide) rfl (p_78_96 hst) ?_
            refine ev_iload 196 rfl dX11_fillAll_194 rfl ?_
            refine ev_iconst 197 rfl dX11_fillAll_196 (by decide) ?_
            obtain ⟨b5, H⟩ := H
            refine ev_zastore 198 rfl dX11_fillAll_197 (s_132 hst) b5.1 b5.2 (by decide) ?_
            obtain ⟨h6, eh6⟩ : ∃ z : qM, z = qup h 132 v6 1 := ⟨_, rfl⟩
            rw [← eh6]
            have H := H h6 eh6
            refine ev_aload_n 199 rfl dX11_fillAll_198 rfl rfl ?_
            refine ev_iload 201 rfl dX11_fillAll_199 rfl ?_
            refine ev_iconst 202 rfl dX11_fillAll_201 (by decide) ?_
            obtain ⟨sd, H⟩ := H
            refine ev_iadd 203 rfl dX11_fillAll_202 sd ?_
            refine ev_cVI (As := [(0, (v5 + 1))]) (rest := []) 206 rfl dX11_fillAll_203 lm_11_524 mm_X11_mostFrom (s_78 hst) rfl rfl (Nat.le_of_ble_eq_true rfl) (Nat.le_of_ble_eq_true rfl) (Nat.le_refl _) H ?_
            intro r8 h7 H
            refine ev_iload 208 rfl dX11_fillAll_206 rfl ?_
            refine ev_iconst 209 rfl dX11_fillAll_208 (by decide) ?_
            obtain ⟨sd, H⟩ := H
            refine ev_isub 210 rfl dX11_fillAll_209 sd ?_
            refine ev_icmp_ne (tgt := 225) 213 rfl dX11_fillAll_210 (by decide) (fun cd => ?_) (fun cd => ?_)
            · have H := H.1 cd
              refine ev_aload_n 226 rfl dX11_fillAll_225 rfl rfl ?_
              refine ev_getR (ki := 96) (v := 132) 229 rfl dX11_fillAll_226 lf_11_201 (s_78 hst) (by decide) rfl (p_78_96 hst) ?_
              refine ev_iload 231 rfl dX11_fillAll_229 rfl ?_
              refine ev_iconst 232 rfl dX11_fillAll_231 (by decide) ?_
              obtain ⟨b9, H⟩ := H
              refine ev_zastore 233 rfl dX11_fillAll_232 (s_132 hst) b9.1 b9.2 (by decide) ?_
              obtain ⟨h10, eh10⟩ : ∃ z : qM, z = qup h7 132 v6 0 := ⟨_, rfl⟩
              rw [← eh10]
              have H := H h10 eh10
              obtain ⟨sd, H⟩ := H
              refine ev_iinc (L1 := [(2, 78), (8, -1), (8, -1), (0, v3), (0, v4), (0, v5), (0, (v6 + 1))]) 236 rfl dX11_fillAll_233 rfl sd (Nat.le_of_ble_eq_true rfl) rfl ?_
              refine ev_goto (tgt := 133) dX11_fillAll_236 (by decide) ?_
              exact H
            · have H := H.2 cd
              refine ev_aload_n 214 rfl dX11_fillAll_213 rfl rfl ?_
              refine ev_getR (ki := 93) (v := 129) 217 rfl dX11_fillAll_214 lf_11_192 (s_78 hst) (by decide) rfl (p_78_93 hst) ?_
              refine ev_iload 219 rfl dX11_fillAll_217 rfl ?_
              refine ev_iload 221 rfl dX11_fillAll_219 rfl ?_
              obtain ⟨b11, H⟩ := H
              refine ev_iastore 222 rfl dX11_fillAll_221 (s_129 hst) b11.1 b11.2 ?_
              obtain ⟨h12, eh12⟩ : ∃ z : qM, z = qup h7 129 v5 v6 := ⟨_, rfl⟩
              rw [← eh12]
              have H := H h12 eh12
              refine ev_goto (tgt := 233) dX11_fillAll_222 (by decide) ?_
              obtain ⟨sd, H⟩ := H
              refine ev_iinc (L1 := [(2, 78), (8, -1), (8, -1), (0, v3), (0, v4), (0, v5), (0, (v6 + 1))]) 236 rfl dX11_fillAll_233 rfl sd (Nat.le_of_ble_eq_true rfl) rfl ?_
              refine ev_goto (tgt := 133) dX11_fillAll_236 (by decide) ?_
              exact H
          · have H := H.2 cd
            refine ev_goto (tgt := 233) dX11_fillAll_187 (by decide) ?_
            obtain ⟨sd, H⟩ := H
            refine ev_iinc (L1 := [(2, 78), (8, -1), (8, -1), (0, v3), (0, v4), (0, v5), (0, (v6 + 1))]) 236 rfl dX11_fillAll_233 rfl sd (Nat.le_of_ble_eq_true rfl) rfl ?_
            refine ev_goto (tgt := 133) dX11_fillAll_236 (by decide) ?_
            exact H

set_option maxRecDepth 20000 in
theorem b_X11_fillAll_239 {X : qX} {d : Nat} {sh : qS} {pt h : qM} {K : Int → qM → Prop} {v3 v4 v5 : Int} (hst : St sh pt)
    (H : (0 ≤ v5 ∧ v5 < 20) ∧ (((h 129 v5) < 0 → (qI (v4 - 0)) ∧ (qI (v5 + 1)) ∧ EvI X (d + 1) mX11_fillAll 113 [(2, 78), (8, -1), (8, -1), (0, v3), (0, (v4 - 0)), (0, (v5 + 1)), (8, -1)] [] sh pt h K) ∧ (0 ≤ (h 129 v5) → (qI (v4 - 1)) ∧ (qI (v5 + 1)) ∧ EvI X (d + 1) mX11_fillAll 113 [(2, 78), (8, -1), (8, -1), (0, v3), (0, (v4 - 1)), (0, (v5 + 1)), (8, -1)] [] sh pt h K))) :
    EvI X (d + 1) mX11_fillAll 239 [(2, 78), (8, -1), (8, -1), (0, v3), (0, v4), (0, v5), (8, -1)] [] sh pt h K := by
  show Ev X (d + 1) 0 0 mX11_fillAll 239 [(2, 78), (8, -1), (8, -1), (0, v3), (0, v4), (0, v5), (8, -1)] [] (sh, pt, h) (qRI sh pt K)
  refine ev_iload 241 rfl dX11_fillAll_239 rfl ?_
  refine ev_aload_n 242 rfl dX11_fillAll_241 rfl rfl ?_
  refine ev_getR (ki := 93) (v := 129) 245 rfl dX11_fillAll_242 lf_11_192 (s_78 hst) (by decide) rfl (p_78_93 hst) ?_
  refine ev_iload 247 rfl dX11_fillAll_245 rfl ?_
  obtain ⟨b1, H⟩ := H
  refine ev_iaload 248 rfl dX11_fillAll_247 (s_129 hst) b1.1 b1.2 ?_
  refine ev_if_lt (tgt := 255) 251 rfl dX11_fillAll_248 (by decide) (fun cd => ?_) (fun cd => ?_)
  · have H := H.1 cd
    refine ev_iconst 256 rfl dX11_fillAll_255 (by decide) ?_
    obtain ⟨sd, H⟩ := H
    refine ev_isub 257 rfl dX11_fillAll_256 sd ?_
    refine ev_istore (L1 := [(2, 78), (8, -1), (8, -1), (0, v3), (0, (v4 - 0)), (0, v5), (8, -1)]) 259 rfl dX11_fillAll_257 (Nat.le_of_ble_eq_true rfl) rfl ?_
    obtain ⟨sd, H⟩ := H
    refine ev_iinc (L1 := [(2, 78), (8, -1), (8, -1), (0, v3), (0, (v4 - 0)), (0, (v5 + 1)), (8, -1)]) 262 rfl dX11_fillAll_259 rfl sd (Nat.le_of_ble_eq_true rfl) rfl ?_
    refine ev_goto (tgt := 113) dX11_fillAll_262 (by decide) ?_
    exact H
  · have H := H.2 cd
    refine ev_iconst 252 rfl dX11_fillAll_251 (by decide) ?_
    refine ev_goto (tgt := 256) dX11_fillAll_252 (by decide) ?_
    obtain ⟨sd, H⟩ := H
    refine ev_isub 257 rfl dX11_fillAll_256 sd ?_
    refine ev_istore (L1 := [(2, 78), (8, -1), (8, -1), (0, v3), (0, (v4 - 1)), (0, v5), (8, -1)]) 259 rfl dX11_fillAll_257 (Nat.le_of_ble_eq_true rfl) rfl ?_
    obtain ⟨sd, H⟩ := H
    refine ev_iinc (L1 := [(2, 78), (8, -1), (8, -1), (0, v3), (0, (v4 - 1)), (0, (v5 + 1)), (8, -1)]) 262 rfl dX11_fillAll_259 rfl sd (Nat.le_of_ble_eq_true rfl) rfl ?_
    refine ev_goto (tgt := 113) dX11_fillAll_262 (by decide) ?_
    exact H

set_option maxRecDepth 20000 in
theorem b_X11_filled {X : qX} {d : Nat} {sh : qS} {pt h : qM} {K : Int → qM → Prop} {v1 v2 : Int} (hst : St sh pt)
    (H : ∀ h1 : qM, h1 = qup h 78 1 0 → ∀ h2 : qM, h2 = qup h1 78 0 0 → RunI X d mX11_isDay [(0, v1)] sh pt h2 (fun r4 h3 => ((r4 = 0 → RunI X d mX11_refuse [(2, 78), (0, 5)] sh pt h3 (fun r6 h5 => K r6 h5)) ∧ (¬ r4 = 0 → RunI X d mX11_isDay [(0, v2)] sh pt h3 (fun r8 h7 => ((r8 = 0 → RunI X d mX11_refuse [(2, 78), (0, 5)] sh pt h7 (fun r10 h9 => K r10 h9)) ∧ (¬ r8 = 0 → RunI X d mX11_fillAll [(2, 78), (0, v1), (0, v2)] sh pt h7 (fun r12 h11 => K r12 h11)))))))) :
    RunI X (d + 1) mX11_filled [(2, 78), (0, v1), (0, v2)] sh pt h K := by
  show Ev X (d + 1) 0 0 mX11_filled 0 [(2, 78), (0, v1), (0, v2)] [] (sh, pt, h) (qRI sh pt K)
  refine ev_aload_n 1 rfl dX11_filled_0 rfl rfl ?_
  refine ev_iconst 2 rfl dX11_filled_1 (by decide) ?_
  refine ev_putI (ki := 1) 5 rfl dX11_filled_2 lf_11_213 (Or.inl rfl) (s_78 hst) (by decide) rfl ?_
  obtain ⟨h1, eh1⟩ : ∃ z : qM, z = qup h 78 1 0 := ⟨_, rfl⟩
  rw [← eh1]
  have H := H h1 eh1
  refine ev_aload_n 6 rfl dX11_filled_5 rfl rfl ?_
  refine ev_iconst 7 rfl dX11_filled_6 (by decide) ?_
  refine ev_putI (ki := 0) 10 rfl dX11_filled_7 lf_11_216 (Or.inl rfl) (s_78 hst) (by decide) rfl ?_
  obtain ⟨h2, eh2⟩ : ∃ z : qM, z = qup h1 78 0 0 := ⟨_, rfl⟩
  rw [← eh2]
  have H := H h2 eh2
  refine ev_iload_n 11 rfl dX11_filled_10 rfl rfl ?_
  refine ev_cSI (As := [(0, v1)]) (rest := []) 14 rfl dX11_filled_11 lm_11_512 mm_X11_isDay rfl rfl (Nat.le_of_ble_eq_true rfl) (Nat.le_of_ble_eq_true rfl) (Nat.le_refl _) H ?_
  intro r4 h3 H
  refine ev_if_eq (tgt := 33) 17 rfl dX11_filled_14 (by decide) (fun cd => ?_) (fun cd => ?_)
  · have H := H.1 cd
    refine ev_aload_n 34 rfl dX11_filled_33 rfl rfl ?_
    refine ev_iconst 35 rfl dX11_filled_34 (by decide) ?_
    refine ev_cVI (As := [(0, 5)]) (rest := []) 38 rfl dX11_filled_35 lm_11_254 mm_X11_refuse (s_78 hst) rfl rfl (Nat.le_of_ble_eq_true rfl) (Nat.le_of_ble_eq_true rfl) (Nat.le_refl _) H ?_
    intro r6 h5 H
    exact ev_retI dX11_filled_38 rfl H
  · have H := H.2 cd
    refine ev_iload_n 18 rfl dX11_filled_17 rfl rfl ?_
    refine ev_cSI (As := [(0, v2)]) (rest := []) 21 rfl dX11_filled_18 lm_11_512 mm_X11_isDay rfl rfl (Nat.le_of_ble_eq_true rfl) (Nat.le_of_ble_eq_true rfl) (Nat.le_refl _) H ?_
    intro r8 h7 H
    refine ev_if_eq (tgt := 33) 24 rfl dX11_filled_21 (by decide) (fun cd => ?_) (fun cd => ?_)
    · have H := H.1 cd
      refine ev_aload_n 34 rfl dX11_filled_33 rfl rfl ?_
      refine ev_iconst 35 rfl dX11_filled_34 (by decide) ?_
      refine ev_cVI (As := [(0, 5)]) (rest := []) 38 rfl dX11_filled_35 lm_11_254 mm_X11_refuse (s_78 hst) rfl rfl (Nat.le_of_ble_eq_true rfl) (Nat.le_of_ble_eq_true rfl) (Nat.le_refl _) H ?_
      intro r10 h9 H
      exact ev_retI dX11_filled_38 rfl H
    · have H := H.2 cd
      refine ev_aload_n 25 rfl dX11_filled_24 rfl rfl ?_
      refine ev_iload_n 26 rfl dX11_filled_25 rfl rfl ?_
      refine ev_iload_n 27 rfl dX11_filled_26 rfl rfl ?_
      refine ev_cVI (As := [(0, v1), (0, v2)]) (rest := []) 30 rfl dX11_filled_27 lm_11_527 mm_X11_fillAll (s_78 hst) rfl rfl (Nat.le_of_ble_eq_true rfl) (Nat.le_of_ble_eq_true rfl) (Nat.le_refl _) H ?_
      intro r12 h11 H
      refine ev_goto (tgt := 38) dX11_filled_30 (by decide) ?_
      exact ev_retI dX11_filled_38 rfl H

set_option maxRecDepth 20000 in
theorem b_X11_who {X : qX} {d : Nat} {sh : qS} {pt h : qM} {K : Int → qM → Prop} {v1 v2 v3 : Int} (hst : St sh pt)
    (H : ∀ h1 : qM, h1 = qup h 78 1 0 → ∀ h2 : qM, h2 = qup h1 78 0 0 → RunI X d mX11_isMarcher [(2, 78), (0, v1)] sh pt h2 (fun r4 h3 => ((¬ r4 = 0 → RunI X d mX11_isDay [(0, v2)] sh pt h3 (fun r6 h5 => ((r6 = 0 → RunI X d mX11_refuse [(2, 78), (0, 5)] sh pt h5 (fun r8 h7 => K r8 h7)) ∧ (¬ r6 = 0 → RunI X d mX11_isDay [(0, v3)] sh pt h5 (fun r10 h9 => ((¬ r10 = 0 → RunI X d mX11_fillAll [(2, 78), (0, v2), (0, v3)] sh pt h9 (fun r12 h11 => (0 ≤ v1 ∧ v1 < 20) ∧ ((0 ≤ (h11 129 v1) → (0 ≤ v1 ∧ v1 < 20) ∧ K (h11 129 v1) h11) ∧ ((h11 129 v1) < 0 → RunI X d mX11_refuse [(2, 78), (0, 8)] sh pt h11 (fun r16 h15 => K r16 h15))))) ∧ (r10 = 0 → RunI X d mX11_refuse [(2, 78), (0, 5)] sh pt h9 (fun r18 h17 => K r18 h17)))))))) ∧ (r4 = 0 → RunI X d mX11_refuse [(2, 78), (0, 2)] sh pt h3 (fun r20 h19 => K r20 h19))))) :
    RunI X (d + 1) mX11_who [(2, 78), (0, v1), (0, v2), (0, v3)] sh pt h K := by
  show Ev X (d + 1) 0 0 mX11_who 0 [(2, 78), (0, v1), (0, v2), (0, v3)] [] (sh, pt, h) (qRI sh pt K)
  refine ev_aload_n 1 rfl dX11_who_0 rfl rfl ?_
  refine ev_iconst 2 rfl dX11_who_1 (by decide) ?_
  refine ev_putI (ki := 1) 5 rfl dX11_who_2 lf_11_213 (Or.inl rfl) (s_78 hst) (by decide) rfl ?_
  obtain ⟨h1, eh1⟩ : ∃ z : qM, z = qup h 78 1 0 := ⟨_, rfl⟩
  rw [← eh1]
  have H := H h1 eh1
  refine ev_aload_n 6 rfl dX11_who_5 rfl rfl ?_
  refine ev_iconst 7 rfl dX11_who_6 (by decide) ?_
  refine ev_putI (ki := 0) 10 rfl dX11_who_7 lf_11_216 (Or.inl rfl) (s_78 hst) (by decide) rfl ?_
  obtain ⟨h2, eh2⟩ : ∃ z : qM, z = qup h1 78 0 0 := ⟨_, rfl⟩
  rw [← eh2]
  have H := H h2 eh2
  refine ev_aload_n 11 rfl dX11_who_10 rfl rfl ?_
  refine ev_iload_n 12 rfl dX11_who_11 rfl rfl ?_
  refine ev_cVI (As := [(0, v1)]) (rest := []) 15 rfl dX11_who_12 lm_11_498 mm_X11_isMarcher (s_78 hst) rfl rfl (Nat.le_of_ble_eq_true rfl) (Nat.le_of_ble_eq_true rfl) (Nat.le_refl _) H ?_
  intro r4 h3 H
  refine ev_if_ne (tgt := 24) 18 rfl dX11_who_15 (by decide) (fun cd => ?_) (fun cd => ?_)
  · have H := H.1 cd
    refine ev_iload_n 25 rfl dX11_who_24 rfl rfl ?_
    refine ev_cSI (As := [(0, v2)]) (rest := []) 28 rfl dX11_who_25 lm_11_512 mm_X11_isDay rfl rfl (Nat.le_of_ble_eq_true rfl) (Nat.le_of_ble_eq_true rfl) (Nat.le_refl _) H ?_
    intro r6 h5 H
    refine ev_if_eq (tgt := 38) 31 rfl dX11_who_28 (by decide) (fun cd => ?_) (fun cd => ?_)
    · have H := H.1 cd
      refine ev_aload_n 39 rfl dX11_who_38 rfl rfl ?_
      refine ev_iconst 40 rfl dX11_who_39 (by decide) ?_
      refine ev_cVI (As := [(0, 5)]) (rest := []) 43 rfl dX11_who_40 lm_11_254 mm_X11_refuse (s_78 hst) rfl rfl (Nat.le_of_ble_eq_true rfl) (Nat.le_of_ble_eq_true rfl) (Nat.le_refl _) H ?_
      intro r8 h7 H
      exact ev_retI dX11_who_43 rfl H
    · have H := H.2 cd
      refine ev_iload_n 32 rfl dX11_who_31 rfl rfl ?_
      refine ev_cSI (As := [(0, v3)]) (rest := []) 35 rfl dX11_who_32 lm_11_512 mm_X11_isDay rfl rfl (Nat.le_of_ble_eq_true rfl) (Nat.le_of_ble_eq_true rfl) (Nat.le_refl _) H ?_
      intro r10 h9 H
      refine ev_if_ne (tgt := 44) 38 rfl dX11_who_35 (by decide) (fun cd => ?_) (fun cd => ?_)
      · have H := H.1 cd
        refine ev_aload_n 45 rfl dX11_who_44 rfl rfl ?_
        refine ev_iload_n 46 rfl dX11_who_45 rfl rfl ?_
        refine ev_iload_n 47 rfl dX11_who_46 rfl rfl ?_
        refine ev_cVI (As := [(0, v2), (0, v3)]) (rest := []) 50 rfl dX11_who_47 lm_11_527 mm_X11_fillAll (s_78 hst) rfl rfl (Nat.le_of_ble_eq_true rfl) (Nat.le_of_ble_eq_true rfl) (Nat.le_refl _) H ?_
        intro r12 h11 H
        refine ev_pop 51 rfl dX11_who_50 q01 ?_
        refine ev_aload_n 52 rfl dX11_who_51 rfl rfl ?_
        refine ev_getR (ki := 93) (v := 129) 55 rfl dX11_who_52 lf_11_192 (s_78 hst) (by decide) rfl (p_78_93 hst) ?_
        refine ev_iload_n 56 rfl dX11_who_55 rfl rfl ?_
        obtain ⟨b13, H⟩ := H
        refine ev_iaload 57 rfl dX11_who_56 (s_129 hst) b13.1 b13.2 ?_
        refine ev_if_ge (tgt := 69) 60 rfl dX11_who_57 (by decide) (fun cd => ?_) (fun cd => ?_)
        · have H := H.1 cd
          refine ev_aload_n 70 rfl dX11_who_69 rfl rfl ?_
          refine ev_getR (ki := 93) (v := 129) 73 rfl dX11_who_70 lf_11_192 (s_78 hst) (by decide) rfl (p_78_93 hst) ?_
          refine ev_iload_n 74 rfl dX11_who_73 rfl rfl ?_
          obtain ⟨b14, H⟩ := H
          refine ev_iaload 75 rfl dX11_who_74 (s_129 hst) b14.1 b14.2 ?_
          exact ev_retI dX11_who_75 rfl H
        · have H := H.2 cd
          refine ev_aload_n 61 rfl dX11_who_60 rfl rfl ?_
          refine ev_bipush 63 rfl dX11_who_61 (by decide) (by decide) ?_
          refine ev_cVI (As := [(0, 8)]) (rest := []) 66 rfl dX11_who_63 lm_11_254 mm_X11_refuse (s_78 hst) rfl rfl (Nat.le_of_ble_eq_true rfl) (Nat.le_of_ble_eq_true rfl) (Nat.le_refl _) H ?_
          intro r16 h15 H
          refine ev_goto (tgt := 75) dX11_who_66 (by decide) ?_
          exact ev_retI dX11_who_75 rfl H
      · have H := H.2 cd
        refine ev_aload_n 39 rfl dX11_who_38 rfl rfl ?_
        refine ev_iconst 40 rfl dX11_who_39 (by decide) ?_
        refine ev_cVI (As := [(0, 5)]) (rest := []) 43 rfl dX11_who_40 lm_11_254 mm_X11_refuse (s_78 hst) rfl rfl (Nat.le_of_ble_eq_true rfl) (Nat.le_of_ble_eq_true rfl) (Nat.le_refl _) H ?_
        intro r18 h17 H
        exact ev_retI dX11_who_43 rfl H
  · have H := H.2 cd
    refine ev_aload_n 19 rfl dX11_who_18 rfl rfl ?_
    refine ev_iconst 20 rfl dX11_who_19 (by decide) ?_
    refine ev_cVI (As := [(0, 2)]) (rest := []) 23 rfl dX11_who_20 lm_11_254 mm_X11_refuse (s_78 hst) rfl rfl (Nat.le_of_ble_eq_true rfl) (Nat.le_of_ble_eq_true rfl) (Nat.le_refl _) H ?_
    intro r20 h19 H
    exact ev_retI dX11_who_23 rfl H

set_option maxRecDepth 20000 in
theorem b_X11_mark {X : qX} {d : Nat} {sh : qS} {pt h : qM} {K : Int → qM → Prop} {v1 v2 v3 v4 : Int} (hst : St sh pt)
    (H : ∀ h1 : qM, h1 = qup h 78 1 0 → ∀ h2 : qM, h2 = qup h1 78 0 0 → RunI X d mX11_isIn [(1, v1), (1, 0), (1, 5)] sh pt h2 (fun r4 h3 => ((r4 = 0 → RunI X d mX11_no [(2, 78), (0, 2)] sh pt h3 (fun r6 h5 => (0 ≤ r6 ∧ r6 ≤ 1) ∧ K r6 h5)) ∧ (¬ r4 = 0 → RunI X d mX11_isIn [(1, v2), (1, 0), (1, 8)] sh pt h3 (fun r8 h7 => ((r8 = 0 → RunI X d mX11_no [(2, 78), (0, 2)] sh pt h7 (fun r10 h9 => (0 ≤ r10 ∧ r10 ≤ 1) ∧ K r10 h9)) ∧ (¬ r8 = 0 → RunI X d mX11_isIn [(1, v3), (1, 0), (1, 2)] sh pt h7 (fun r12 h11 => ((¬ r12 = 0 → RunI X d mX11_isIn [(1, v4), (1, (-1)), (1, 100)] sh pt h11 (fun r14 h13 => ((¬ r14 = 0 → (qI (27 * v1)) ∧ (qI (3 * v2)) ∧ (qI ((27 * v1) + (3 * v2))) ∧ (qI (((27 * v1) + (3 * v2)) + v3)) ∧ (0 ≤ (((27 * v1) + (3 * v2)) + v3) ∧ (((27 * v1) + (3 * v2)) + v3) < 162) ∧ ∀ h16 : qM, h16 = qup h13 134 (((27 * v1) + (3 * v2)) + v3) v4 → K 1 h16) ∧ (r14 = 0 → RunI X d mX11_no [(2, 78), (0, 5)] sh pt h13 (fun r18 h17 => (0 ≤ r18 ∧ r18 ≤ 1) ∧ K r18 h17))))) ∧ (r12 = 0 → RunI X d mX11_no [(2, 78), (0, 2)] sh pt h11 (fun r20 h19 => (0 ≤ r20 ∧ r20 ≤ 1) ∧ K r20 h19))))))))))) :
    RunI X (d + 1) mX11_mark [(2, 78), (0, v1), (0, v2), (0, v3), (0, v4)] sh pt h K := by
  show Ev X (d + 1) 0 0 mX11_mark 0 [(2, 78), (0, v1), (0, v2), (0, v3), (0, v4)] [] (sh, pt, h) (qRI sh pt K)
  refine ev_aload_n 1 rfl dX11_mark_0 rfl rfl ?_
  refine ev_iconst 2 rfl dX11_mark_1 (by decide) ?_
  refine ev_putI (ki := 1) 5 rfl dX11_mark_2 lf_11_213 (Or.inl rfl) (s_78 hst) (by decide) rfl ?_
  obtain ⟨h1, eh1⟩ : ∃ z : qM, z = qup h 78 1 0 := ⟨_, rfl⟩
  rw [← eh1]
  have H := H h1 eh1
  refine ev_aload_n 6 rfl dX11_mark_5 rfl rfl ?_
  refine ev_iconst 7 rfl dX11_mark_6 (by decide) ?_
  refine ev_putI (ki := 0) 10 rfl dX11_mark_7 lf_11_216 (Or.inl rfl) (s_78 hst) (by decide) rfl ?_
  obtain ⟨h2, eh2⟩ : ∃ z : qM, z = qup h1 78 0 0 := ⟨_, rfl⟩
  rw [← eh2]
  have H := H h2 eh2
  refine ev_iload_n 11 rfl dX11_mark_10 rfl rfl ?_
  refine ev_i2l 12 rfl dX11_mark_11 ?_
  refine ev_lconst (v := 0) 13 rfl dX11_mark_12 (by decide) (by decide) ?_
  refine ev_ldc2 16 rfl dX11_mark_13 kl_11_530 (by decide) ?_
  refine ev_cSI (As := [(1, v1), (1, 0), (1, 5)]) (rest := []) 19 rfl dX11_mark_16 lm_11_221 mm_X11_isIn rfl rfl (Nat.le_of_ble_eq_true rfl) (Nat.le_of_ble_eq_true rfl) (Nat.le_refl _) H ?_
  intro r4 h3 H
  refine ev_if_eq (tgt := 46) 22 rfl dX11_mark_19 (by decide) (fun cd => ?_) (fun cd => ?_)
  · have H := H.1 cd
    refine ev_aload_n 47 rfl dX11_mark_46 rfl rfl ?_
    refine ev_iconst 48 rfl dX11_mark_47 (by decide) ?_
    refine ev_cVI (As := [(0, 2)]) (rest := []) 51 rfl dX11_mark_48 lm_11_227 mm_X11_no (s_78 hst) rfl rfl (Nat.le_of_ble_eq_true rfl) (Nat.le_of_ble_eq_true rfl) (Nat.le_refl _) H ?_
    intro r6 h5 H
    obtain ⟨sd, H⟩ := H
    exact ev_retZ dX11_mark_51 rfl sd H
  · have H := H.2 cd
    refine ev_iload_n 23 rfl dX11_mark_22 rfl rfl ?_
    refine ev_i2l 24 rfl dX11_mark_23 ?_
    refine ev_lconst (v := 0) 25 rfl dX11_mark_24 (by decide) (by decide) ?_
    refine ev_ldc2 28 rfl dX11_mark_25 kl_11_532 (by decide) ?_
    refine ev_cSI (As := [(1, v2), (1, 0), (1, 8)]) (rest := []) 31 rfl dX11_mark_28 lm_11_221 mm_X11_isIn rfl rfl (Nat.le_of_ble_eq_true rfl) (Nat.le_of_ble_eq_true rfl) (Nat.le_refl _) H ?_
    intro r8 h7 H
    refine ev_if_eq (tgt := 46) 34 rfl dX11_mark_31 (by decide) (fun cd => ?_) (fun cd => ?_)
    · have H := H.1 cd
      refine ev_aload_n 47 rfl dX11_mark_46 rfl rfl ?_
      refine ev_iconst 48 rfl dX11_mark_47 (by decide) ?_
      refine ev_cVI (As := [(0, 2)]) (rest := []) 51 rfl dX11_mark_48 lm_11_227 mm_X11_no (s_78 hst) rfl rfl (Nat.le_of_ble_eq_true rfl) (Nat.le_of_ble_eq_true rfl) (Nat.le_refl _) H ?_
      intro r10 h9 H
      obtain ⟨sd, H⟩ := H
      exact ev_retZ dX11_mark_51 rfl sd H
    · have H := H.2 cd
      refine ev_iload_n 35 rfl dX11_mark_34 rfl rfl ?_
      refine ev_i2l 36 rfl dX11_mark_35 ?_
      refine ev_lconst (v := 0) 37 rfl dX11_mark_36 (by decide) (by decide) ?_
      refine ev_ldc2 40 rfl dX11_mark_37 kl_11_456 (by decide) ?_
      refine ev_cSI (As := [(1, v3), (1, 0), (1, 2)]) (rest := []) 43 rfl dX11_mark_40 lm_11_221 mm_X11_isIn rfl rfl (Nat.le_of_ble_eq_true rfl) (Nat.le_of_ble_eq_true rfl) (Nat.le_refl _) H ?_
      intro r12 h11 H
      refine ev_if_ne (tgt := 52) 46 rfl dX11_mark_43 (by decide) (fun cd => ?_) (fun cd => ?_)
      · have H := H.1 cd
        refine ev_iload 54 rfl dX11_mark_52 rfl ?_
        refine ev_i2l 55 rfl dX11_mark_54 ?_
        refine ev_ldc2 58 rfl dX11_mark_55 kl_11_243 (by decide) ?_
        refine ev_ldc2 61 rfl dX11_mark_58 kl_11_534 (by decide) ?_
        refine ev_cSI (As := [(1, v4), (1, (-1)), (1, 100)]) (rest := []) 64 rfl dX11_mark_61 lm_11_221 mm_X11_isIn rfl rfl (Nat.le_of_ble_eq_true rfl) (Nat.le_of_ble_eq_true rfl) (Nat.le_refl _) H ?_
        intro r14 h13 H
        refine ev_if_ne (tgt := 73) 67 rfl dX11_mark_64 (by decide) (fun cd => ?_) (fun cd => ?_)
        · have H := H.1 cd
          refine ev_aload_n 74 rfl dX11_mark_73 rfl rfl ?_
          refine ev_getR (ki := 98) (v := 134) 77 rfl dX11_mark_74 lf_11_207 (s_78 hst) (by decide) rfl (p_78_98 hst) ?_
          refine ev_bipush 79 rfl dX11_mark_77 (by decide) (by decide) ?_
          refine ev_iload_n 80 rfl dX11_mark_79 rfl rfl ?_
          obtain ⟨sd, H⟩ := H
          refine ev_imul 81 rfl dX11_mark_80 sd ?_
          refine ev_iconst 82 rfl dX11_mark_81 (by decide) ?_
          refine ev_iload_n 83 rfl dX11_mark_82 rfl rfl ?_
          obtain ⟨sd, H⟩ := H
          refine ev_imul 84 rfl dX11_mark_83 sd ?_
          obtain ⟨sd, H⟩ := H
          refine ev_iadd 85 rfl dX11_mark_84 sd ?_
          refine ev_iload_n 86 rfl dX11_mark_85 rfl rfl ?_
          obtain ⟨sd, H⟩ := H
          refine ev_iadd 87 rfl dX11_mark_86 sd ?_
          refine ev_iload 89 rfl dX11_mark_87 rfl ?_
          obtain ⟨b15, H⟩ := H
          refine ev_iastore 90 rfl dX11_mark_89 (s_134 hst) b15.1 b15.2 ?_
          obtain ⟨h16, eh16⟩ : ∃ z : qM, z = qup h13 134 (((27 * v1) + (3 * v2)) + v3) v4 := ⟨_, rfl⟩
          rw [← eh16]
          have H := H h16 eh16
          refine ev_iconst 91 rfl dX11_mark_90 (by decide) ?_
          exact ev_retZ dX11_mark_91 rfl (by decide) H
        · have H := H.2 cd
          refine ev_aload_n 68 rfl dX11_mark_67 rfl rfl ?_
          refine ev_iconst 69 rfl dX11_mark_68 (by decide) ?_
          refine ev_cVI (As := [(0, 5)]) (rest := []) 72 rfl dX11_mark_69 lm_11_227 mm_X11_no (s_78 hst) rfl rfl (Nat.le_of_ble_eq_true rfl) (Nat.le_of_ble_eq_true rfl) (Nat.le_refl _) H ?_
          intro r18 h17 H
          obtain ⟨sd, H⟩ := H
          exact ev_retZ dX11_mark_72 rfl sd H
      · have H := H.2 cd
        refine ev_aload_n 47 rfl dX11_mark_46 rfl rfl ?_
        refine ev_iconst 48 rfl dX11_mark_47 (by decide) ?_
        refine ev_cVI (As := [(0, 2)]) (rest := []) 51 rfl dX11_mark_48 lm_11_227 mm_X11_no (s_78 hst) rfl rfl (Nat.le_of_ble_eq_true rfl) (Nat.le_of_ble_eq_true rfl) (Nat.le_refl _) H ?_
        intro r20 h19 H
        obtain ⟨sd, H⟩ := H
        exact ev_retZ dX11_mark_51 rfl sd H

set_option maxRecDepth 20000 in
theorem b_X11_weight {X : qX} {d : Nat} {sh : qS} {pt h : qM} {K : Int → qM → Prop} {v1 v2 : Int} (hst : St sh pt)
    (H : ∀ h1 : qM, h1 = qup h 78 1 0 → ∀ h2 : qM, h2 = qup h1 78 0 0 → RunI X d mX11_isIn [(1, v1), (1, 0), (1, 2)] sh pt h2 (fun r4 h3 => ((¬ r4 = 0 → RunI X d mX11_isIn [(1, v2), (1, 1), (1, 9)] sh pt h3 (fun r6 h5 => ((¬ r6 = 0 → (0 ≤ v1 ∧ v1 < 3) ∧ ∀ h8 : qM, h8 = qup h5 135 v1 v2 → K 1 h8) ∧ (r6 = 0 → RunI X d mX11_no [(2, 78), (0, 5)] sh pt h5 (fun r10 h9 => (0 ≤ r10 ∧ r10 ≤ 1) ∧ K r10 h9))))) ∧ (r4 = 0 → RunI X d mX11_no [(2, 78), (0, 2)] sh pt h3 (fun r12 h11 => (0 ≤ r12 ∧ r12 ≤ 1) ∧ K r12 h11))))) :
    RunI X (d + 1) mX11_weight [(2, 78), (0, v1), (0, v2)] sh pt h K := by
  show Ev X (d + 1) 0 0 mX11_weight 0 [(2, 78), (0, v1), (0, v2)] [] (sh, pt, h) (qRI sh pt K)
  refine ev_aload_n 1 rfl dX11_weight_0 rfl rfl ?_
  refine ev_iconst 2 rfl dX11_weight_1 (by decide) ?_
  refine ev_putI (ki := 1) 5 rfl dX11_weight_2 lf_11_213 (Or.inl rfl) (s_78 hst) (by decide) rfl ?_
  obtain ⟨h1, eh1⟩ : ∃ z : qM, z = qup h 78 1 0 := ⟨_, rfl⟩
  rw [← eh1]
  have H := H h1 eh1
  refine ev_aload_n 6 rfl dX11_weight_5 rfl rfl ?_
  refine ev_iconst 7 rfl dX11_weight_6 (by decide) ?_
  refine ev_putI (ki := 0) 10 rfl dX11_weight_7 lf_11_216 (Or.inl rfl) (s_78 hst) (by decide) rfl ?_
  obtain ⟨h2, eh2⟩ : ∃ z : qM, z = qup h1 78 0 0 := ⟨_, rfl⟩
  rw [← eh2]
  have H := H h2 eh2
  refine ev_iload_n 11 rfl dX11_weight_10 rfl rfl ?_
  refine ev_i2l 12 rfl dX11_weight_11 ?_
  refine ev_lconst (v := 0) 13 rfl dX11_weight_12 (by decide) (by decide) ?_
  refine ev_ldc2 16 rfl dX11_weight_13 kl_11_456 (by decide) ?_
  refine ev_cSI (As := [(1, v1), (1, 0), (1, 2)]) (rest := []) 19 rfl dX11_weight_16 lm_11_221 mm_X11_isIn rfl rfl (Nat.le_of_ble_eq_true rfl) (Nat.le_of_ble_eq_true rfl) (Nat.le_refl _) H ?_
  intro r4 h3 H
  refine ev_if_ne (tgt := 28) 22 rfl dX11_weight_19 (by decide) (fun cd => ?_) (fun cd => ?_)
  · have H := H.1 cd
    refine ev_iload_n 29 rfl dX11_weight_28 rfl rfl ?_
    refine ev_i2l 30 rfl dX11_weight_29 ?_
    refine ev_lconst (v := 1) 31 rfl dX11_weight_30 (by decide) (by decide) ?_
    refine ev_ldc2 34 rfl dX11_weight_31 kl_11_536 (by decide) ?_
    refine ev_cSI (As := [(1, v2), (1, 1), (1, 9)]) (rest := []) 37 rfl dX11_weight_34 lm_11_221 mm_X11_isIn rfl rfl (Nat.le_of_ble_eq_true rfl) (Nat.le_of_ble_eq_true rfl) (Nat.le_refl _) H ?_
    intro r6 h5 H
    refine ev_if_ne (tgt := 46) 40 rfl dX11_weight_37 (by decide) (fun cd => ?_) (fun cd => ?_)
    · have H := H.1 cd
      refine ev_aload_n 47 rfl dX11_weight_46 rfl rfl ?_
      refine ev_getR (ki := 99) (v := 135) 50 rfl dX11_weight_47 lf_11_210 (s_78 hst) (by decide) rfl (p_78_99 hst) ?_
      refine ev_iload_n 51 rfl dX11_weight_50 rfl rfl ?_
      refine ev_iload_n 52 rfl dX11_weight_51 rfl rfl ?_
      obtain ⟨b7, H⟩ := H
      refine ev_iastore 53 rfl dX11_weight_52 (s_135 hst) b7.1 b7.2 ?_
      obtain ⟨h8, eh8⟩ : ∃ z : qM, z = qup h5 135 v1 v2 := ⟨_, rfl⟩
      rw [← eh8]
      have H := H h8 eh8
      refine ev_iconst 54 rfl dX11_weight_53 (by decide) ?_
      exact ev_retZ dX11_weight_54 rfl (by decide) H
    · have H := H.2 cd
      refine ev_aload_n 41 rfl dX11_weight_40 rfl rfl ?_
      refine ev_iconst 42 rfl dX11_weight_41 (by decide) ?_
      refine ev_cVI (As := [(0, 5)]) (rest := []) 45 rfl dX11_weight_42 lm_11_227 mm_X11_no (s_78 hst) rfl rfl (Nat.le_of_ble_eq_true rfl) (Nat.le_of_ble_eq_true rfl) (Nat.le_refl _) H ?_
      intro r10 h9 H
      obtain ⟨sd, H⟩ := H
      exact ev_retZ dX11_weight_45 rfl sd H
  · have H := H.2 cd
    refine ev_aload_n 23 rfl dX11_weight_22 rfl rfl ?_
    refine ev_iconst 24 rfl dX11_weight_23 (by decide) ?_
    refine ev_cVI (As := [(0, 2)]) (rest := []) 27 rfl dX11_weight_24 lm_11_227 mm_X11_no (s_78 hst) rfl rfl (Nat.le_of_ble_eq_true rfl) (Nat.le_of_ble_eq_true rfl) (Nat.le_refl _) H ?_
    intro r12 h11 H
    obtain ⟨sd, H⟩ := H
    exact ev_retZ dX11_weight_27 rfl sd H

set_option maxRecDepth 20000 in
theorem b_X11_common {X : qX} {d : Nat} {sh : qS} {pt h : qM} {K : Int → qM → Prop} {v0 v2 : Int} (hst : St sh pt)
    (H : EvL X d mX11_common 6 [(8, -1), (8, -1), (8, -1), (8, -1), (1, v0), (8, -1), (1, v2), (8, -1), (8, -1), (8, -1)] [] sh pt h K) :
    RunL X d mX11_common [(1, v0), (1, v2)] sh pt h K := by
  show Ev X d 0 0 mX11_common 0 [(1, v0), (8, -1), (1, v2), (8, -1), (8, -1), (8, -1), (8, -1), (8, -1), (8, -1), (8, -1)] [] (sh, pt, h) (qRL sh pt K)
  refine ev_lload_n 1 rfl dX11_common_0 rfl rfl ?_
  refine ev_lstore (L1 := [(1, v0), (8, -1), (1, v2), (8, -1), (1, v0), (8, -1), (8, -1), (8, -1), (8, -1), (8, -1)]) 3 rfl dX11_common_1 (Nat.le_of_ble_eq_true rfl) rfl ?_
  refine ev_lload_n 4 rfl dX11_common_3 rfl rfl ?_
  refine ev_lstore (L1 := [(1, v0), (8, -1), (1, v2), (8, -1), (1, v0), (8, -1), (1, v2), (8, -1), (8, -1), (8, -1)]) 6 rfl dX11_common_4 (Nat.le_of_ble_eq_true rfl) rfl ?_
  refine Ev.drop [0, 2] rfl ?_
  exact H

set_option maxRecDepth 20000 in
theorem b_X11_common_6 {X : qX} {d : Nat} {sh : qS} {pt h : qM} {K : Int → qM → Prop} {v4 v6 : Int} (hst : St sh pt)
    (H : ((v6 = 0 → K v4 h) ∧ (¬ v6 = 0 → (0 ≤ v4 ∧ 0 < v6) ∧ EvL X d mX11_common 6 [(8, -1), (8, -1), (8, -1), (8, -1), (1, v6), (8, -1), (1, (v4 % v6)), (8, -1), (8, -1), (8, -1)] [] sh pt h K))) :
    EvL X d mX11_common 6 [(8, -1), (8, -1), (8, -1), (8, -1), (1, v4), (8, -1), (1, v6), (8, -1), (8, -1), (8, -1)] [] sh pt h K := by
  show Ev X d 0 0 mX11_common 6 [(8, -1), (8, -1), (8, -1), (8, -1), (1, v4), (8, -1), (1, v6), (8, -1), (8, -1), (8, -1)] [] (sh, pt, h) (qRL sh pt K)
  refine ev_lload 8 rfl dX11_common_6 rfl ?_
  refine ev_lconst (v := 0) 9 rfl dX11_common_8 (by decide) (by decide) ?_
  refine ev_lc_eq (tgt := 31) 13 rfl dX11_common_9 dX11_common_10 (by decide) (fun cd => ?_) (fun cd => ?_)
  · have H := H.1 cd
    refine ev_lload 33 rfl dX11_common_31 rfl ?_
    exact ev_retL dX11_common_33 rfl H
  · have H := H.2 cd
    refine ev_lload 15 rfl dX11_common_13 rfl ?_
    refine ev_lload 17 rfl dX11_common_15 rfl ?_
    obtain ⟨sd, H⟩ := H
    refine ev_lremP 18 rfl dX11_common_17 sd ?_
    refine ev_lstore (L1 := [(8, -1), (8, -1), (8, -1), (8, -1), (1, v4), (8, -1), (1, v6), (8, -1), (1, (v4 % v6)), (8, -1)]) 20 rfl dX11_common_18 (Nat.le_of_ble_eq_true rfl) rfl ?_
    refine ev_lload 22 rfl dX11_common_20 rfl ?_
    refine ev_lstore (L1 := [(8, -1), (8, -1), (8, -1), (8, -1), (1, v6), (8, -1), (1, v6), (8, -1), (1, (v4 % v6)), (8, -1)]) 24 rfl dX11_common_22 (Nat.le_of_ble_eq_true rfl) rfl ?_
    refine ev_lload 26 rfl dX11_common_24 rfl ?_
    refine ev_lstore (L1 := [(8, -1), (8, -1), (8, -1), (8, -1), (1, v6), (8, -1), (1, (v4 % v6)), (8, -1), (1, (v4 % v6)), (8, -1)]) 28 rfl dX11_common_26 (Nat.le_of_ble_eq_true rfl) rfl ?_
    refine ev_goto (tgt := 6) dX11_common_28 (by decide) ?_
    refine Ev.drop [8] rfl ?_
    exact H

set_option maxRecDepth 20000 in
theorem b_X11_totals {X : qX} {d : Nat} {sh : qS} {pt h : qM} {K : Int → qM → Prop} {v1 : Int} (hst : St sh pt)
    (H : ∀ h1 : qM, h1 = qup h 78 100 0 → ∀ h2 : qM, h2 = qup h1 78 101 1 → EvI X (d + 1) mX11_totals 12 [(2, 78), (0, v1), (0, 0), (8, -1), (8, -1), (8, -1), (8, -1), (8, -1), (8, -1)] [] sh pt h2 K) :
    RunI X (d + 1) mX11_totals [(2, 78), (0, v1)] sh pt h K := by
  show Ev X (d + 1) 0 0 mX11_totals 0 [(2, 78), (0, v1), (8, -1), (8, -1), (8, -1), (8, -1), (8, -1), (8, -1), (8, -1)] [] (sh, pt, h) (qRI sh pt K)
  refine ev_aload_n 1 rfl dX11_totals_0 rfl rfl ?_
  refine ev_lconst (v := 0) 2 rfl dX11_totals_1 (by decide) (by decide) ?_
  refine ev_putL (ki := 100) 5 rfl dX11_totals_2 lf_11_538 (s_78 hst) (by decide) rfl ?_
  obtain ⟨h1, eh1⟩ : ∃ z : qM, z = qup h 78 100 0 := ⟨_, rfl⟩
  rw [← eh1]
  have H := H h1 eh1
  refine ev_aload_n 6 rfl dX11_totals_5 rfl rfl ?_
  refine ev_lconst (v := 1) 7 rfl dX11_totals_6 (by decide) (by decide) ?_
  refine ev_putL (ki := 101) 10 rfl dX11_totals_7 lf_11_541 (s_78 hst) (by decide) rfl ?_
  obtain ⟨h2, eh2⟩ : ∃ z : qM, z = qup h1 78 101 1 := ⟨_, rfl⟩
  rw [← eh2]
  have H := H h2 eh2
  refine ev_iconst 11 rfl dX11_totals_10 (by decide) ?_
  refine ev_istore_n (L1 := [(2, 78), (0, v1), (0, 0), (8, -1), (8, -1), (8, -1), (8, -1), (8, -1), (8, -1)]) 12 rfl dX11_totals_11 rfl (Nat.le_of_ble_eq_true rfl) rfl ?_
  exact H

set_option maxRecDepth 20000 in
theorem b_X11_totals_12 {X : qX} {d : Nat} {sh : qS} {pt h : qM} {K : Int → qM → Prop} {v1 v2 : Int} (hst : St sh pt)
    (H : ((3 ≤ v2 → K 1 h) ∧ (v2 < 3 → EvI X (d + 1) mX11_totals 32 [(2, 78), (0, v1), (0, v2), (0, 0), (0, 0), (0, 101), (0, (-1)), (0, 0), (8, -1)] [] sh pt h K))) :
    EvI X (d + 1) mX11_totals 12 [(2, 78), (0, v1), (0, v2), (8, -1), (8, -1), (8, -1), (8, -1), (8, -1), (8, -1)] [] sh pt h K := by
  show Ev X (d + 1) 0 0 mX11_totals 12 [(2, 78), (0, v1), (0, v2), (8, -1), (8, -1), (8, -1), (8, -1), (8, -1), (8, -1)] [] (sh, pt, h) (qRI sh pt K)
  refine ev_iload_n 13 rfl dX11_totals_12 rfl rfl ?_
  refine ev_iconst 14 rfl dX11_totals_13 (by decide) ?_
  refine ev_icmp_ge (tgt := 168) 17 rfl dX11_totals_14 (by decide) (fun cd => ?_) (fun cd => ?_)
  · have H := H.1 cd
    refine ev_iconst 169 rfl dX11_totals_168 (by decide) ?_
    exact ev_retZ dX11_totals_169 rfl (by decide) H
  · have H := H.2 cd
    refine ev_iconst 18 rfl dX11_totals_17 (by decide) ?_
    refine ev_istore_n (L1 := [(2, 78), (0, v1), (0, v2), (0, 0), (8, -1), (8, -1), (8, -1), (8, -1), (8, -1)]) 19 rfl dX11_totals_18 rfl (Nat.le_of_ble_eq_true rfl) rfl ?_
    refine ev_iconst 20 rfl dX11_totals_19 (by decide) ?_
    refine ev_istore (L1 := [(2, 78), (0, v1), (0, v2), (0, 0), (0, 0), (8, -1), (8, -1), (8, -1), (8, -1)]) 22 rfl dX11_totals_20 (Nat.le_of_ble_eq_true rfl) rfl ?_
    refine ev_bipush 24 rfl dX11_totals_22 (by decide) (by decide) ?_
    refine ev_istore (L1 := [(2, 78), (0, v1), (0, v2), (0, 0), (0, 0), (0, 101), (8, -1), (8, -1), (8, -1)]) 26 rfl dX11_totals_24 (Nat.le_of_ble_eq_true rfl) rfl ?_
    refine ev_iconst 27 rfl dX11_totals_26 (by decide) ?_
    refine ev_istore (L1 := [(2, 78), (0, v1), (0, v2), (0, 0), (0, 0), (0, 101), (0, (-1)), (8, -1), (8, -1)]) 29 rfl dX11_totals_27 (Nat.le_of_ble_eq_true rfl) rfl ?_
    refine ev_iconst 30 rfl dX11_totals_29 (by decide) ?_
    refine ev_istore (L1 := [(2, 78), (0, v1), (0, v2), (0, 0), (0, 0), (0, 101), (0, (-1)), (0, 0), (8, -1)]) 32 rfl dX11_totals_30 (Nat.le_of_ble_eq_true rfl) rfl ?_
    exact H

set_option maxRecDepth 20000 in
theorem b_X11_totals_32 {X : qX} {d : Nat} {sh : qS} {pt h : qM} {K : Int → qM → Prop} {v1 v2 v3 v4 v5 v6 v7 : Int} (hst : St sh pt)
    (H : ((9 ≤ v7 → ((¬ v3 = 0 → ((v3 ≤ 2 → EvI X (d + 1) mX11_totals 123 [(2, 78), (0, v1), (0, v2), (0, v3), (0, v4), (8, -1), (8, -1), (8, -1), (8, -1)] [] sh pt h K) ∧ (2 < v3 → (qI (v3 + (-2))) ∧ (qI (v5 + v6)) ∧ (qI (v4 - (v5 + v6))) ∧ EvI X (d + 1) mX11_totals 123 [(2, 78), (0, v1), (0, v2), (0, (v3 + (-2))), (0, (v4 - (v5 + v6))), (8, -1), (8, -1), (8, -1), (8, -1)] [] sh pt h K))) ∧ (v3 = 0 → K 0 h))) ∧ (v7 < 9 → (qI (27 * v1)) ∧ (qI (3 * v7)) ∧ (qI ((27 * v1) + (3 * v7))) ∧ (qI (((27 * v1) + (3 * v7)) + v2)) ∧ (0 ≤ (((27 * v1) + (3 * v7)) + v2) ∧ (((27 * v1) + (3 * v7)) + v2) < 162) ∧ ∀ x2 : Int, x2 = (h 134 (((27 * v1) + (3 * v7)) + v2)) → ((0 ≤ x2 → (qI (v3 + 1)) ∧ (qI (v4 + x2)) ∧ RunI X d mJ9_min_7cf53 [(0, v5), (0, x2)] sh pt h (fun r4 h3 => RunI X d mJ9_max_7cf53 [(0, v6), (0, x2)] sh pt h3 (fun r6 h5 => (qI (v7 + 1)) ∧ EvI X (d + 1) mX11_totals 32 [(2, 78), (0, v1), (0, v2), (0, (v3 + 1)), (0, (v4 + x2)), (0, r4), (0, r6), (0, (v7 + 1)), (8, -1)] [] sh pt h5 K))) ∧ (x2 < 0 → (qI (v7 + 1)) ∧ EvI X (d + 1) mX11_totals 32 [(2, 78), (0, v1), (0, v2), (0, v3), (0, v4), (0, v5), (0, v6), (0, (v7 + 1)), (8, -1)] [] sh pt h K))))) :
    EvI X (d + 1) mX11_totals 32 [(2, 78), (0, v1), (0, v2), (0, v3), (0, v4), (0, v5), (0, v6), (0, v7), (8, -1)] [] sh pt h K := by
  show Ev X (d + 1) 0 0 mX11_totals 32 [(2, 78), (0, v1), (0, v2), (0, v3), (0, v4), (0, v5), (0, v6), (0, v7), (8, -1)] [] (sh, pt, h) (qRI sh pt K)
  refine ev_iload 34 rfl dX11_totals_32 rfl ?_
  refine ev_bipush 36 rfl dX11_totals_34 (by decide) (by decide) ?_
  refine ev_icmp_ge (tgt := 99) 39 rfl dX11_totals_36 (by decide) (fun cd => ?_) (fun cd => ?_)
  · have H := H.1 cd
    refine ev_iload_n 100 rfl dX11_totals_99 rfl rfl ?_
    refine ev_if_ne (tgt := 105) 103 rfl dX11_totals_100 (by decide) (fun cd => ?_) (fun cd => ?_)
    · have H := H.1 cd
      refine ev_iload_n 106 rfl dX11_totals_105 rfl rfl ?_
      refine ev_iconst 107 rfl dX11_totals_106 (by decide) ?_
      refine ev_icmp_le (tgt := 123) 110 rfl dX11_totals_107 (by decide) (fun cd => ?_) (fun cd => ?_)
      · have H := H.1 cd
        refine Ev.drop [5, 6, 7] rfl ?_
        exact H
      · have H := H.2 cd
        obtain ⟨sd, H⟩ := H
        refine ev_iinc (L1 := [(2, 78), (0, v1), (0, v2), (0, (v3 + (-2))), (0, v4), (0, v5), (0, v6), (0, v7), (8, -1)]) 113 rfl dX11_totals_110 rfl sd (Nat.le_of_ble_eq_true rfl) rfl ?_
        refine ev_iload 115 rfl dX11_totals_113 rfl ?_
        refine ev_iload 117 rfl dX11_totals_115 rfl ?_
        refine ev_iload 119 rfl dX11_totals_117 rfl ?_
        obtain ⟨sd, H⟩ := H
        refine ev_iadd 120 rfl dX11_totals_119 sd ?_
        obtain ⟨sd, H⟩ := H
        refine ev_isub 121 rfl dX11_totals_120 sd ?_
        refine ev_istore (L1 := [(2, 78), (0, v1), (0, v2), (0, (v3 + (-2))), (0, (v4 - (v5 + v6))), (0, v5), (0, v6), (0, v7), (8, -1)]) 123 rfl dX11_totals_121 (Nat.le_of_ble_eq_true rfl) rfl ?_
        refine Ev.drop [5, 6, 7] rfl ?_
        exact H
    · have H := H.2 cd
      refine ev_iconst 104 rfl dX11_totals_103 (by decide) ?_
      exact ev_retZ dX11_totals_104 rfl (by decide) H
  · have H := H.2 cd
    refine ev_aload_n 40 rfl dX11_totals_39 rfl rfl ?_
    refine ev_getR (ki := 98) (v := 134) 43 rfl dX11_totals_40 lf_11_207 (s_78 hst) (by decide) rfl (p_78_98 hst) ?_
    refine ev_bipush 45 rfl dX11_totals_43 (by decide) (by decide) ?_
    refine ev_iload_n 46 rfl dX11_totals_45 rfl rfl ?_
    obtain ⟨sd, H⟩ := H
    refine ev_imul 47 rfl dX11_totals_46 sd ?_
    refine ev_iconst 48 rfl dX11_totals_47 (by decide) ?_
    refine ev_iload 50 rfl dX11_totals_48 rfl ?_
    obtain ⟨sd, H⟩ := H
    refine ev_imul 51 rfl dX11_totals_50 sd ?_
    obtain ⟨sd, H⟩ := H
    refine ev_iadd 52 rfl dX11_totals_51 sd ?_
    refine ev_iload_n 53 rfl dX11_totals_52 rfl rfl ?_
    obtain ⟨sd, H⟩ := H
    refine ev_iadd 54 rfl dX11_totals_53 sd ?_
    obtain ⟨b1, H⟩ := H
    refine ev_iaload 55 rfl dX11_totals_54 (s_134 hst) b1.1 b1.2 ?_
    obtain ⟨x2, ex2⟩ : ∃ z : Int, z = (h 134 (((27 * v1) + (3 * v7)) + v2)) := ⟨_, rfl⟩
    rw [← ex2]
    have H := H x2 ex2
    refine ev_istore (L1 := [(2, 78), (0, v1), (0, v2), (0, v3), (0, v4), (0, v5), (0, v6), (0, v7), (0, x2)]) 57 rfl dX11_totals_55 (Nat.le_of_ble_eq_true rfl) rfl ?_
    refine ev_iload 59 rfl dX11_totals_57 rfl ?_
    refine ev_if_ge (tgt := 65) 62 rfl dX11_totals_59 (by decide) (fun cd => ?_) (fun cd => ?_)
    · have H := H.1 cd
      obtain ⟨sd, H⟩ := H
      refine ev_iinc (L1 := [(2, 78), (0, v1), (0, v2), (0, (v3 + 1)), (0, v4), (0, v5), (0, v6), (0, v7), (0, x2)]) 68 rfl dX11_totals_65 rfl sd (Nat.le_of_ble_eq_true rfl) rfl ?_
      refine ev_iload 70 rfl dX11_totals_68 rfl ?_
      refine ev_iload 72 rfl dX11_totals_70 rfl ?_
      obtain ⟨sd, H⟩ := H
      refine ev_iadd 73 rfl dX11_totals_72 sd ?_
      refine ev_istore (L1 := [(2, 78), (0, v1), (0, v2), (0, (v3 + 1)), (0, (v4 + x2)), (0, v5), (0, v6), (0, v7), (0, x2)]) 75 rfl dX11_totals_73 (Nat.le_of_ble_eq_true rfl) rfl ?_
      refine ev_iload 77 rfl dX11_totals_75 rfl ?_
      refine ev_iload 79 rfl dX11_totals_77 rfl ?_
      refine ev_cSI (As := [(0, v5), (0, x2)]) (rest := []) 82 rfl dX11_totals_79 lm_11_458 mm_J9_min_7cf53 rfl rfl (Nat.le_of_ble_eq_true rfl) (Nat.le_of_ble_eq_true rfl) (Nat.le_refl _) H ?_
      intro r4 h3 H
      refine ev_istore (L1 := [(2, 78), (0, v1), (0, v2), (0, (v3 + 1)), (0, (v4 + x2)), (0, r4), (0, v6), (0, v7), (0, x2)]) 84 rfl dX11_totals_82 (Nat.le_of_ble_eq_true rfl) rfl ?_
      refine ev_iload 86 rfl dX11_totals_84 rfl ?_
      refine ev_iload 88 rfl dX11_totals_86 rfl ?_
      refine ev_cSI (As := [(0, v6), (0, x2)]) (rest := []) 91 rfl dX11_totals_88 lm_11_431 mm_J9_max_7cf53 rfl rfl (Nat.le_of_ble_eq_true rfl) (Nat.le_of_ble_eq_true rfl) (Nat.le_refl _) H ?_
      intro r6 h5 H
      refine ev_istore (L1 := [(2, 78), (0, v1), (0, v2), (0, (v3 + 1)), (0, (v4 + x2)), (0, r4), (0, r6), (0, v7), (0, x2)]) 93 rfl dX11_totals_91 (Nat.le_of_ble_eq_true rfl) rfl ?_
      obtain ⟨sd, H⟩ := H
      refine ev_iinc (L1 := [(2, 78), (0, v1), (0, v2), (0, (v3 + 1)), (0, (v4 + x2)), (0, r4), (0, r6), (0, (v7 + 1)), (0, x2)]) 96 rfl dX11_totals_93 rfl sd (Nat.le_of_ble_eq_true rfl) rfl ?_
      refine ev_goto (tgt := 32) dX11_totals_96 (by decide) ?_
      refine Ev.drop [8] rfl ?_
      exact H
    · have H := H.2 cd
      refine ev_goto (tgt := 93) dX11_totals_62 (by decide) ?_
      obtain ⟨sd, H⟩ := H
      refine ev_iinc (L1 := [(2, 78), (0, v1), (0, v2), (0, v3), (0, v4), (0, v5), (0, v6), (0, (v7 + 1)), (0, x2)]) 96 rfl dX11_totals_93 rfl sd (Nat.le_of_ble_eq_true rfl) rfl ?_
      refine ev_goto (tgt := 32) dX11_totals_96 (by decide) ?_
      refine Ev.drop [8] rfl ?_
      exact H

set_option maxRecDepth 20000 in
theorem b_X11_totals_123 {X : qX} {d : Nat} {sh : qS} {pt h : qM} {K : Int → qM → Prop} {v1 v2 v3 v4 : Int} (hst : St sh pt)
    (H : (qL ((h 78 100) * v3)) ∧ (0 ≤ v2 ∧ v2 < 3) ∧ (qL ((h 135 v2) * v4)) ∧ (qL (((h 135 v2) * v4) * (h 78 101))) ∧ (qL (((h 78 100) * v3) + (((h 135 v2) * v4) * (h 78 101)))) ∧ ∀ h2 : qM, h2 = qup h 78 100 (((h 78 100) * v3) + (((h 135 v2) * v4) * (h 78 101))) → (qL ((h2 78 101) * v3)) ∧ ∀ h3 : qM, h3 = qup h2 78 101 ((h2 78 101) * v3) → (qI (v2 + 1)) ∧ EvI X (d + 1) mX11_totals 12 [(2, 78), (0, v1), (0, (v2 + 1)), (8, -1), (8, -1), (8, -1), (8, -1), (8, -1), (8, -1)] [] sh pt h3 K) :
    EvI X (d + 1) mX11_totals 123 [(2, 78), (0, v1), (0, v2), (0, v3), (0, v4), (8, -1), (8, -1), (8, -1), (8, -1)] [] sh pt h K := by
  show Ev X (d + 1) 0 0 mX11_totals 123 [(2, 78), (0, v1), (0, v2), (0, v3), (0, v4), (8, -1), (8, -1), (8, -1), (8, -1)] [] (sh, pt, h) (qRI sh pt K)
  refine ev_aload_n 124 rfl dX11_totals_123 rfl rfl ?_
  refine ev_aload_n 125 rfl dX11_totals_124 rfl rfl ?_
  refine ev_getL (ki := 100) 128 rfl dX11_totals_125 lf_11_538 (s_78 hst) (by decide) rfl ?_
  refine ev_iload_n 129 rfl dX11_totals_128 rfl rfl ?_
  refine ev_i2l 130 rfl dX11_totals_129 ?_
  obtain ⟨sd, H⟩ := H
  refine ev_lmul 131 rfl dX11_totals_130 sd ?_
  refine ev_aload_n 132 rfl dX11_totals_131 rfl rfl ?_
  refine ev_getR (ki := 99) (v := 135) 135 rfl dX11_totals_132 lf_11_210 (s_78 hst) (by decide) rfl (p_78_99 hst) ?_
  refine ev_iload_n 136 rfl dX11_totals_135 rfl rfl ?_
  obtain ⟨b1, H⟩ := H
  refine ev_iaload 137 rfl dX11_totals_136 (s_135 hst) b1.1 b1.2 ?_
  refine ev_i2l 138 rfl dX11_totals_137 ?_
  refine ev_iload 140 rfl dX11_totals_138 rfl ?_
  refine ev_i2l 141 rfl dX11_totals_140 ?_
  obtain ⟨sd, H⟩ := H
  refine ev_lmul 142 rfl dX11_totals_141 sd ?_
  refine ev_aload_n 143 rfl dX11_totals_142 rfl rfl ?_
  refine ev_getL (ki := 101) 146 rfl dX11_totals_143 lf_11_541 (s_78 hst) (by decide) rfl ?_
  obtain ⟨sd, H⟩ := H
  refine ev_lmul 147 rfl dX11_totals_146 sd ?_
  obtain ⟨sd, H⟩ := H
  refine ev_ladd 148 rfl dX11_totals_147 sd ?_
  refine ev_putL (ki := 100) 151 rfl dX11_totals_148 lf_11_538 (s_78 hst) (by decide) rfl ?_
  obtain ⟨h2, eh2⟩ : ∃ z : qM, z = qup h 78 100 (((h 78 100) * v3) + (((h 135 v2) * v4) * (h 78 101))) := ⟨_, rfl⟩
  rw [← eh2]
  have H := H h2 eh2
  refine ev_aload_n 152 rfl dX11_totals_151 rfl rfl ?_
  refine ev_dup 153 rfl dX11_totals_152 q21 ?_
  refine ev_getL (ki := 101) 156 rfl dX11_totals_153 lf_11_541 (s_78 hst) (by decide) rfl ?_
  refine ev_iload_n 157 rfl dX11_totals_156 rfl rfl ?_
  refine ev_i2l 158 rfl dX11_totals_157 ?_
  obtain ⟨sd, H⟩ := H
  refine ev_lmul 159 rfl dX11_totals_158 sd ?_
  refine ev_putL (ki := 101) 162 rfl dX11_totals_159 lf_11_541 (s_78 hst) (by decide) rfl ?_
  obtain ⟨h3, eh3⟩ : ∃ z : qM, z = qup h2 78 101 ((h2 78 101) * v3) := ⟨_, rfl⟩
  rw [← eh3]
  have H := H h3 eh3
  obtain ⟨sd, H⟩ := H
  refine ev_iinc (L1 := [(2, 78), (0, v1), (0, (v2 + 1)), (0, v3), (0, v4), (8, -1), (8, -1), (8, -1), (8, -1)]) 165 rfl dX11_totals_162 rfl sd (Nat.le_of_ble_eq_true rfl) rfl ?_
  refine ev_goto (tgt := 12) dX11_totals_165 (by decide) ?_
  refine Ev.drop [3, 4] rfl ?_
  exact H

set_option maxRecDepth 20000 in
theorem b_X11_total {X : qX} {d : Nat} {sh : qS} {pt h : qM} {K : Int → qM → Prop} {v1 : Int} (hst : St sh pt)
    (H : ∀ h1 : qM, h1 = qup h 78 1 0 → ∀ h2 : qM, h2 = qup h1 78 0 0 → RunI X d mX11_isIn [(1, v1), (1, 0), (1, 5)] sh pt h2 (fun r4 h3 => ((¬ r4 = 0 → RunI X d mX11_totals [(2, 78), (0, v1)] sh pt h3 (fun r6 h5 => ((¬ r6 = 0 → RunL X d mX11_common [(1, (h5 78 100)), (1, (h5 78 101))] sh pt h5 (fun r8 h7 => (0 ≤ (h7 78 100) ∧ 0 < r8) ∧ ∀ h9 : qM, h9 = qup h7 78 2 ((h7 78 100) / r8) → (0 ≤ (h9 78 101) ∧ 0 < r8) ∧ ∀ h10 : qM, h10 = qup h9 78 3 ((h9 78 101) / r8) → K 1 h10)) ∧ (r6 = 0 → RunI X d mX11_no [(2, 78), (0, 8)] sh pt h5 (fun r12 h11 => (0 ≤ r12 ∧ r12 ≤ 1) ∧ K r12 h11))))) ∧ (r4 = 0 → RunI X d mX11_no [(2, 78), (0, 2)] sh pt h3 (fun r14 h13 => (0 ≤ r14 ∧ r14 ≤ 1) ∧ K r14 h13))))) :
    RunI X (d + 1) mX11_total [(2, 78), (0, v1)] sh pt h K := by
  show Ev X (d + 1) 0 0 mX11_total 0 [(2, 78), (0, v1), (8, -1), (8, -1)] [] (sh, pt, h) (qRI sh pt K)
  refine ev_aload_n 1 rfl dX11_total_0 rfl rfl ?_
  refine ev_iconst 2 rfl dX11_total_1 (by decide) ?_
  refine ev_putI (ki := 1) 5 rfl dX11_total_2 lf_11_213 (Or.inl rfl) (s_78 hst) (by decide) rfl ?_
  obtain ⟨h1, eh1⟩ : ∃ z : qM, z = qup h 78 1 0 := ⟨_, rfl⟩
  rw [← eh1]
  have H := H h1 eh1
  refine ev_aload_n 6 rfl dX11_total_5 rfl rfl ?_
  refine ev_iconst 7 rfl dX11_total_6 (by decide) ?_
  refine ev_putI (ki := 0) 10 rfl dX11_total_7 lf_11_216 (Or.inl rfl) (s_78 hst) (by decide) rfl ?_
  obtain ⟨h2, eh2⟩ : ∃ z : qM, z = qup h1 78 0 0 := ⟨_, rfl⟩
  rw [← eh2]
  have H := H h2 eh2
  refine ev_iload_n 11 rfl dX11_total_10 rfl rfl ?_
  refine ev_i2l 12 rfl dX11_total_11 ?_
  refine ev_lconst (v := 0) 13 rfl dX11_total_12 (by decide) (by decide) ?_
  refine ev_ldc2 16 rfl dX11_total_13 kl_11_530 (by decide) ?_
  refine ev_cSI (As := [(1, v1), (1, 0), (1, 5)]) (rest := []) 19 rfl dX11_total_16 lm_11_221 mm_X11_isIn rfl rfl (Nat.le_of_ble_eq_true rfl) (Nat.le_of_ble_eq_true rfl) (Nat.le_refl _) H ?_
  intro r4 h3 H
  refine ev_if_ne (tgt := 28) 22 rfl dX11_total_19 (by decide) (fun cd => ?_) (fun cd => ?_)
  · have H := H.1 cd
    refine ev_aload_n 29 rfl dX11_total_28 rfl rfl ?_
    refine ev_iload_n 30 rfl dX11_total_29 rfl rfl ?_
    refine ev_cVI (As := [(0, v1)]) (rest := []) 33 rfl dX11_total_30 lm_11_544 mm_X11_totals (s_78 hst) rfl rfl (Nat.le_of_ble_eq_true rfl) (Nat.le_of_ble_eq_true rfl) (Nat.le_refl _) H ?_
    intro r6 h5 H
    refine ev_if_ne (tgt := 43) 36 rfl dX11_total_33 (by decide) (fun cd => ?_) (fun cd => ?_)
    · have H := H.1 cd
      refine ev_aload_n 44 rfl dX11_total_43 rfl rfl ?_
      refine ev_getL (ki := 100) 47 rfl dX11_total_44 lf_11_538 (s_78 hst) (by decide) rfl ?_
      refine ev_aload_n 48 rfl dX11_total_47 rfl rfl ?_
      refine ev_getL (ki := 101) 51 rfl dX11_total_48 lf_11_541 (s_78 hst) (by decide) rfl ?_
      refine ev_cSL (As := [(1, (h5 78 100)), (1, (h5 78 101))]) (rest := []) 54 rfl dX11_total_51 lm_11_547 mm_X11_common rfl rfl (Nat.le_of_ble_eq_true rfl) (Nat.le_of_ble_eq_true rfl) (Nat.le_refl _) H ?_
      intro r8 h7 H
      refine ev_lstore_n (L1 := [(2, 78), (0, v1), (1, r8), (8, -1)]) 55 rfl dX11_total_54 rfl (Nat.le_of_ble_eq_true rfl) rfl ?_
      refine ev_aload_n 56 rfl dX11_total_55 rfl rfl ?_
      refine ev_aload_n 57 rfl dX11_total_56 rfl rfl ?_
      refine ev_getL (ki := 100) 60 rfl dX11_total_57 lf_11_538 (s_78 hst) (by decide) rfl ?_
      refine ev_lload_n 61 rfl dX11_total_60 rfl rfl ?_
      obtain ⟨sd, H⟩ := H
      refine ev_ldivP 62 rfl dX11_total_61 sd ?_
      refine ev_putL (ki := 2) 65 rfl dX11_total_62 lf_11_551 (s_78 hst) (by decide) rfl ?_
      obtain ⟨h9, eh9⟩ : ∃ z : qM, z = qup h7 78 2 ((h7 78 100) / r8) := ⟨_, rfl⟩
      rw [← eh9]
      have H := H h9 eh9
      refine ev_aload_n 66 rfl dX11_total_65 rfl rfl ?_
      refine ev_aload_n 67 rfl dX11_total_66 rfl rfl ?_
      refine ev_getL (ki := 101) 70 rfl dX11_total_67 lf_11_541 (s_78 hst) (by decide) rfl ?_
      refine ev_lload_n 71 rfl dX11_total_70 rfl rfl ?_
      obtain ⟨sd, H⟩ := H
      refine ev_ldivP 72 rfl dX11_total_71 sd ?_
      refine ev_putL (ki := 3) 75 rfl dX11_total_72 lf_11_7 (s_78 hst) (by decide) rfl ?_
      obtain ⟨h10, eh10⟩ : ∃ z : qM, z = qup h9 78 3 ((h9 78 101) / r8) := ⟨_, rfl⟩
      rw [← eh10]
      have H := H h10 eh10
      refine ev_iconst 76 rfl dX11_total_75 (by decide) ?_
      exact ev_retZ dX11_total_76 rfl (by decide) H
    · have H := H.2 cd
      refine ev_aload_n 37 rfl dX11_total_36 rfl rfl ?_
      refine ev_bipush 39 rfl dX11_total_37 (by decide) (by decide) ?_
      refine ev_cVI (As := [(0, 8)]) (rest := []) 42 rfl dX11_total_39 lm_11_227 mm_X11_no (s_78 hst) rfl rfl (Nat.le_of_ble_eq_true rfl) (Nat.le_of_ble_eq_true rfl) (Nat.le_refl _) H ?_
      intro r12 h11 H
      obtain ⟨sd, H⟩ := H
      exact ev_retZ dX11_total_42 rfl sd H
  · have H := H.2 cd
    refine ev_aload_n 23 rfl dX11_total_22 rfl rfl ?_
    refine ev_iconst 24 rfl dX11_total_23 (by decide) ?_
    refine ev_cVI (As := [(0, 2)]) (rest := []) 27 rfl dX11_total_24 lm_11_227 mm_X11_no (s_78 hst) rfl rfl (Nat.le_of_ble_eq_true rfl) (Nat.le_of_ble_eq_true rfl) (Nat.le_refl _) H ?_
    intro r14 h13 H
    obtain ⟨sd, H⟩ := H
    exact ev_retZ dX11_total_27 rfl sd H

set_option maxRecDepth 20000 in
theorem b_X11_upper {X : qX} {d : Nat} {sh : qS} {pt h : qM} {K : Int → qM → Prop} (hst : St sh pt)
    (H : ∀ h1 : qM, h1 = qup h 78 1 0 → K (h1 78 2) h1) :
    RunL X d mX11_upper [(2, 78)] sh pt h K := by
  show Ev X d 0 0 mX11_upper 0 [(2, 78)] [] (sh, pt, h) (qRL sh pt K)
  refine ev_aload_n 1 rfl dX11_upper_0 rfl rfl ?_
  refine ev_iconst 2 rfl dX11_upper_1 (by decide) ?_
  refine ev_putI (ki := 1) 5 rfl dX11_upper_2 lf_11_213 (Or.inl rfl) (s_78 hst) (by decide) rfl ?_
  obtain ⟨h1, eh1⟩ : ∃ z : qM, z = qup h 78 1 0 := ⟨_, rfl⟩
  rw [← eh1]
  have H := H h1 eh1
  refine ev_aload_n 6 rfl dX11_upper_5 rfl rfl ?_
  refine ev_getL (ki := 2) 9 rfl dX11_upper_6 lf_11_551 (s_78 hst) (by decide) rfl ?_
  exact ev_retL dX11_upper_9 rfl H

set_option maxRecDepth 20000 in
theorem b_X11_lower {X : qX} {d : Nat} {sh : qS} {pt h : qM} {K : Int → qM → Prop} (hst : St sh pt)
    (H : ∀ h1 : qM, h1 = qup h 78 1 0 → K (h1 78 3) h1) :
    RunL X d mX11_lower [(2, 78)] sh pt h K := by
  show Ev X d 0 0 mX11_lower 0 [(2, 78)] [] (sh, pt, h) (qRL sh pt K)
  refine ev_aload_n 1 rfl dX11_lower_0 rfl rfl ?_
  refine ev_iconst 2 rfl dX11_lower_1 (by decide) ?_
  refine ev_putI (ki := 1) 5 rfl dX11_lower_2 lf_11_213 (Or.inl rfl) (s_78 hst) (by decide) rfl ?_
  obtain ⟨h1, eh1⟩ : ∃ z : qM, z = qup h 78 1 0 := ⟨_, rfl⟩
  rw [← eh1]
  have H := H h1 eh1
  refine ev_aload_n 6 rfl dX11_lower_5 rfl rfl ?_
  refine ev_getL (ki := 3) 9 rfl dX11_lower_6 lf_11_7 (s_78 hst) (by decide) rfl ?_
  exact ev_retL dX11_lower_9 rfl H

set_option maxRecDepth 20000 in
theorem b_X11_rank {X : qX} {d : Nat} {sh : qS} {pt h : qM} {K : Int → qM → Prop} {v1 : Int} (hst : St sh pt)
    (H : ∀ h1 : qM, h1 = qup h 78 1 0 → ∀ h2 : qM, h2 = qup h1 78 0 0 → RunI X d mX11_isIn [(1, v1), (1, 0), (1, 5)] sh pt h2 (fun r4 h3 => ((¬ r4 = 0 → RunI X d mX11_totals [(2, 78), (0, v1)] sh pt h3 (fun r6 h5 => ((¬ r6 = 0 → EvI X (d + 1) mX11_rank 60 [(2, 78), (0, v1), (1, (h5 78 100)), (8, -1), (1, (h5 78 101)), (8, -1), (0, 1), (0, 0)] [] sh pt h5 K) ∧ (r6 = 0 → RunI X d mX11_refuse [(2, 78), (0, 8)] sh pt h5 (fun r8 h7 => K r8 h7))))) ∧ (r4 = 0 → RunI X d mX11_refuse [(2, 78), (0, 2)] sh pt h3 (fun r10 h9 => K r10 h9))))) :
    RunI X (d + 1) mX11_rank [(2, 78), (0, v1)] sh pt h K := by
  show Ev X (d + 1) 0 0 mX11_rank 0 [(2, 78), (0, v1), (8, -1), (8, -1), (8, -1), (8, -1), (8, -1), (8, -1)] [] (sh, pt, h) (qRI sh pt K)
  refine ev_aload_n 1 rfl dX11_rank_0 rfl rfl ?_
  refine ev_iconst 2 rfl dX11_rank_1 (by decide) ?_
  refine ev_putI (ki := 1) 5 rfl dX11_rank_2 lf_11_213 (Or.inl rfl) (s_78 hst) (by decide) rfl ?_
  obtain ⟨h1, eh1⟩ : ∃ z : qM, z = qup h 78 1 0 := ⟨_, rfl⟩
  rw [← eh1]
  have H := H h1 eh1
  refine ev_aload_n 6 rfl dX11_rank_5 rfl rfl ?_
  refine ev_iconst 7 rfl dX11_rank_6 (by decide) ?_
  refine ev_putI (ki := 0) 10 rfl dX11_rank_7 lf_11_216 (Or.inl rfl) (s_78 hst) (by decide) rfl ?_
  obtain ⟨h2, eh2⟩ : ∃ z : qM, z = qup h1 78 0 0 := ⟨_, rfl⟩
  rw [← eh2]
  have H := H h2 eh2
  refine ev_iload_n 11 rfl dX11_rank_10 rfl rfl ?_
  refine ev_i2l 12 rfl dX11_rank_11 ?_
  refine ev_lconst (v := 0) 13 rfl dX11_rank_12 (by decide) (by decide) ?_
  refine ev_ldc2 16 rfl dX11_rank_13 kl_11_530 (by decide) ?_
  refine ev_cSI (As := [(1, v1), (1, 0), (1, 5)]) (rest := []) 19 rfl dX11_rank_16 lm_11_221 mm_X11_isIn rfl rfl (Nat.le_of_ble_eq_true rfl) (Nat.le_of_ble_eq_true rfl) (Nat.le_refl _) H ?_
  intro r4 h3 H
  refine ev_if_ne (tgt := 28) 22 rfl dX11_rank_19 (by decide) (fun cd => ?_) (fun cd => ?_)
  · have H := H.1 cd
    refine ev_aload_n 29 rfl dX11_rank_28 rfl rfl ?_
    refine ev_iload_n 30 rfl dX11_rank_29 rfl rfl ?_
    refine ev_cVI (As := [(0, v1)]) (rest := []) 33 rfl dX11_rank_30 lm_11_544 mm_X11_totals (s_78 hst) rfl rfl (Nat.le_of_ble_eq_true rfl) (Nat.le_of_ble_eq_true rfl) (Nat.le_refl _) H ?_
    intro r6 h5 H
    refine ev_if_ne (tgt := 43) 36 rfl dX11_rank_33 (by decide) (fun cd => ?_) (fun cd => ?_)
    · have H := H.1 cd
      refine ev_aload_n 44 rfl dX11_rank_43 rfl rfl ?_
      refine ev_getL (ki := 100) 47 rfl dX11_rank_44 lf_11_538 (s_78 hst) (by decide) rfl ?_
      refine ev_lstore_n (L1 := [(2, 78), (0, v1), (1, (h5 78 100)), (8, -1), (8, -1), (8, -1), (8, -1), (8, -1)]) 48 rfl dX11_rank_47 rfl (Nat.le_of_ble_eq_true rfl) rfl ?_
      refine ev_aload_n 49 rfl dX11_rank_48 rfl rfl ?_
      refine ev_getL (ki := 101) 52 rfl dX11_rank_49 lf_11_541 (s_78 hst) (by decide) rfl ?_
      refine ev_lstore (L1 := [(2, 78), (0, v1), (1, (h5 78 100)), (8, -1), (1, (h5 78 101)), (8, -1), (8, -1), (8, -1)]) 54 rfl dX11_rank_52 (Nat.le_of_ble_eq_true rfl) rfl ?_
      refine ev_iconst 55 rfl dX11_rank_54 (by decide) ?_
      refine ev_istore (L1 := [(2, 78), (0, v1), (1, (h5 78 100)), (8, -1), (1, (h5 78 101)), (8, -1), (0, 1), (8, -1)]) 57 rfl dX11_rank_55 (Nat.le_of_ble_eq_true rfl) rfl ?_
      refine ev_iconst 58 rfl dX11_rank_57 (by decide) ?_
      refine ev_istore (L1 := [(2, 78), (0, v1), (1, (h5 78 100)), (8, -1), (1, (h5 78 101)), (8, -1), (0, 1), (0, 0)]) 60 rfl dX11_rank_58 (Nat.le_of_ble_eq_true rfl) rfl ?_
      exact H
    · have H := H.2 cd
      refine ev_aload_n 37 rfl dX11_rank_36 rfl rfl ?_
      refine ev_bipush 39 rfl dX11_rank_37 (by decide) (by decide) ?_
      refine ev_cVI (As := [(0, 8)]) (rest := []) 42 rfl dX11_rank_39 lm_11_254 mm_X11_refuse (s_78 hst) rfl rfl (Nat.le_of_ble_eq_true rfl) (Nat.le_of_ble_eq_true rfl) (Nat.le_refl _) H ?_
      intro r8 h7 H
      exact ev_retI dX11_rank_42 rfl H
  · have H := H.2 cd
    refine ev_aload_n 23 rfl dX11_rank_22 rfl rfl ?_
    refine ev_iconst 24 rfl dX11_rank_23 (by decide) ?_
    refine ev_cVI (As := [(0, 2)]) (rest := []) 27 rfl dX11_rank_24 lm_11_254 mm_X11_refuse (s_78 hst) rfl rfl (Nat.le_of_ble_eq_true rfl) (Nat.le_of_ble_eq_true rfl) (Nat.le_refl _) H ?_
    intro r10 h9 H
    exact ev_retI dX11_rank_27 rfl H

set_option maxRecDepth 20000 in
theorem b_X11_rank_60 {X : qX} {d : Nat} {sh : qS} {pt h : qM} {K : Int → qM → Prop} {v1 v2 v4 v6 v7 : Int} (hst : St sh pt)
    (H : ((6 ≤ v7 → K v6 h) ∧ (v7 < 6 → ((v7 = v1 → (qI (v6 + 0)) ∧ (qI (v7 + 1)) ∧ EvI X (d + 1) mX11_rank 60 [(2, 78), (0, v1), (1, v2), (8, -1), (1, v4), (8, -1), (0, (v6 + 0)), (0, (v7 + 1))] [] sh pt h K) ∧ (¬ v7 = v1 → RunI X d mX11_totals [(2, 78), (0, v7)] sh pt h (fun r2 h1 => ((r2 = 0 → (qI (v6 + 0)) ∧ (qI (v7 + 1)) ∧ EvI X (d + 1) mX11_rank 60 [(2, 78), (0, v1), (1, v2), (8, -1), (1, v4), (8, -1), (0, (v6 + 0)), (0, (v7 + 1))] [] sh pt h1 K) ∧ (¬ r2 = 0 → (qL ((h1 78 100) * v4)) ∧ (qL (v2 * (h1 78 101))) ∧ ((((h1 78 100) * v4) ≤ (v2 * (h1 78 101)) → (qI (v6 + 0)) ∧ (qI (v7 + 1)) ∧ EvI X (d + 1) mX11_rank 60 [(2, 78), (0, v1), (1, v2), (8, -1), (1, v4), (8, -1), (0, (v6 + 0)), (0, (v7 + 1))] [] sh pt h1 K) ∧ ((v2 * (h1 78 101)) < ((h1 78 100) * v4) → (qI (v6 + 1)) ∧ (qI (v7 + 1)) ∧ EvI X (d + 1) mX11_rank 60 [(2, 78), (0, v1), (1, v2), (8, -1), (1, v4), (8, -1), (0, (v6 + 1)), (0, (v7 + 1))] [] sh pt h1 K)))))))))) :
    EvI X (d + 1) mX11_rank 60 [(2, 78), (0, v1), (1, v2), (8, -1), (1, v4), (8, -1), (0, v6), (0, v7)] [] sh pt h K := by
  show Ev X (d + 1) 0 0 mX11_rank 60 [(2, 78), (0, v1), (1, v2), (8, -1), (1, v4), (8, -1), (0, v6), (0, v7)] [] (sh, pt, h) (qRI sh pt K)
  refine ev_iload 62 rfl dX11_rank_60 rfl ?_
  refine ev_bipush 64 rfl dX11_rank_62 (by decide) (by decide) ?_
  refine ev_icmp_ge (tgt := 115) 67 rfl dX11_rank_64 (by decide) (fun cd => ?_) (fun cd => ?_)
  · have H := H.1 cd
    refine ev_iload 117 rfl dX11_rank_115 rfl ?_
    exact ev_retI dX11_rank_117 rfl H
  · have H := H.2 cd
    refine ev_iload 69 rfl dX11_rank_67 rfl ?_
    refine ev_iload 71 rfl dX11_rank_69 rfl ?_
    refine ev_iload_n 72 rfl dX11_rank_71 rfl rfl ?_
    refine ev_icmp_eq (tgt := 105) 75 rfl dX11_rank_72 (by decide) (fun cd => ?_) (fun cd => ?_)
    · have H := H.1 cd
      refine ev_iconst 106 rfl dX11_rank_105 (by decide) ?_
      obtain ⟨sd, H⟩ := H
      refine ev_iadd 107 rfl dX11_rank_106 sd ?_
      refine ev_istore (L1 := [(2, 78), (0, v1), (1, v2), (8, -1), (1, v4), (8, -1), (0, (v6 + 0)), (0, v7)]) 109 rfl dX11_rank_107 (Nat.le_of_ble_eq_true rfl) rfl ?_
      obtain ⟨sd, H⟩ := H
      refine ev_iinc (L1 := [(2, 78), (0, v1), (1, v2), (8, -1), (1, v4), (8, -1), (0, (v6 + 0)), (0, (v7 + 1))]) 112 rfl dX11_rank_109 rfl sd (Nat.le_of_ble_eq_true rfl) rfl ?_
      refine ev_goto (tgt := 60) dX11_rank_112 (by decide) ?_
      exact H
    · have H := H.2 cd
      refine ev_aload_n 76 rfl dX11_rank_75 rfl rfl ?_
      refine ev_iload 78 rfl dX11_rank_76 rfl ?_
      refine ev_cVI (As := [(0, v7)]) (rest := [(0, v6)]) 81 rfl dX11_rank_78 lm_11_544 mm_X11_totals (s_78 hst) rfl rfl (Nat.le_of_ble_eq_true rfl) (Nat.le_of_ble_eq_true rfl) (Nat.le_refl _) H ?_
      intro r2 h1 H
      refine ev_if_eq (tgt := 105) 84 rfl dX11_rank_81 (by decide) (fun cd => ?_) (fun cd => ?_)
      · have H := H.1 cd
        refine ev_iconst 106 rfl dX11_rank_105 (by decide) ?_
        obtain ⟨sd, H⟩ := H
        refine ev_iadd 107 rfl dX11_rank_106 sd ?_
        refine ev_istore (L1 := [(2, 78), (0, v1), (1, v2), (8, -1), (1, v4), (8, -1), (0, (v6 + 0)), (0, v7)]) 109 rfl dX11_rank_107 (Nat.le_of_ble_eq_true rfl) rfl ?_
        obtain ⟨sd, H⟩ := H
        refine ev_iinc (L1 := [(2, 78), (0, v1), (1, v2), (8, -1), (1, v4), (8, -1), (0, (v6 + 0)), (0, (v7 + 1))]) 112 rfl dX11_rank_109 rfl sd (Nat.le_of_ble_eq_true rfl) rfl ?_
        refine ev_goto (tgt := 60) dX11_rank_112 (by decide) ?_
        exact H
      · have H := H.2 cd
        refine ev_aload_n 85 rfl dX11_rank_84 rfl rfl ?_
        refine ev_getL (ki := 100) 88 rfl dX11_rank_85 lf_11_538 (s_78 hst) (by decide) rfl ?_
        refine ev_lload 90 rfl dX11_rank_88 rfl ?_
        obtain ⟨sd, H⟩ := H
        refine ev_lmul 91 rfl dX11_rank_90 sd ?_
        refine ev_lload_n 92 rfl dX11_rank_91 rfl rfl ?_
        refine ev_aload_n 93 rfl dX11_rank_92 rfl rfl ?_
        refine ev_getL (ki := 101) 96 rfl dX11_rank_93 lf_11_541 (s_78 hst) (by decide) rfl ?_
        obtain ⟨sd, H⟩ := H
        refine ev_lmul 97 rfl dX11_rank_96 sd ?_
        refine ev_lc_le (tgt := 105) 101 rfl dX11_rank_97 dX11_rank_98 (by decide) (fun cd => ?_) (fun cd => ?_)
        · have H := H.1 cd
          refine ev_iconst 106 rfl dX11_rank_105 (by decide) ?_
          obtain ⟨sd, H⟩ := H
          refine ev_iadd 107 rfl dX11_rank_106 sd ?_
          refine ev_istore (L1 := [(2, 78), (0, v1), (1, v2), (8, -1), (1, v4), (8, -1), (0, (v6 + 0)), (0, v7)]) 109 rfl dX11_rank_107 (Nat.le_of_ble_eq_true rfl) rfl ?_
          obtain ⟨sd, H⟩ := H
          refine ev_iinc (L1 := [(2, 78), (0, v1), (1, v2), (8, -1), (1, v4), (8, -1), (0, (v6 + 0)), (0, (v7 + 1))]) 112 rfl dX11_rank_109 rfl sd (Nat.le_of_ble_eq_true rfl) rfl ?_
          refine ev_goto (tgt := 60) dX11_rank_112 (by decide) ?_
          exact H
        · have H := H.2 cd
          refine ev_iconst 102 rfl dX11_rank_101 (by decide) ?_
          refine ev_goto (tgt := 106) dX11_rank_102 (by decide) ?_
          obtain ⟨sd, H⟩ := H
          refine ev_iadd 107 rfl dX11_rank_106 sd ?_
          refine ev_istore (L1 := [(2, 78), (0, v1), (1, v2), (8, -1), (1, v4), (8, -1), (0, (v6 + 1)), (0, v7)]) 109 rfl dX11_rank_107 (Nat.le_of_ble_eq_true rfl) rfl ?_
          obtain ⟨sd, H⟩ := H
          refine ev_iinc (L1 := [(2, 78), (0, v1), (1, v2), (8, -1), (1, v4), (8, -1), (0, (v6 + 1)), (0, (v7 + 1))]) 112 rfl dX11_rank_109 rfl sd (Nat.le_of_ble_eq_true rfl) rfl ?_
          refine ev_goto (tgt := 60) dX11_rank_112 (by decide) ?_
          exact H
