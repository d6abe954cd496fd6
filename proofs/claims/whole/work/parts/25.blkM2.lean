set_option maxRecDepth 20000 in
theorem b_X11_orderKind {X : qX} {d : Nat} {sh : qS} {pt h : qM} {K : Int → qM → Prop} (hst : St sh pt)
    (H : RunL X d mX11_spelled [(0, 103), (0, 111), (0, 0), (0, 0), (0, 0), (0, 0)] sh pt h (fun r2 h1 => RunI X d mX11_isWord [(2, 78), (1, r2)] sh pt h1 (fun r4 h3 => ((r4 = 0 → RunL X d mX11_spelled [(0, 98), (0, 97), (0, 99), (0, 107), (0, 0), (0, 0)] sh pt h3 (fun r6 h5 => RunI X d mX11_isWord [(2, 78), (1, r6)] sh pt h5 (fun r8 h7 => ((r8 = 0 → RunL X d mX11_spelled [(0, 109), (0, 97), (0, 114), (0, 107), (0, 0), (0, 0)] sh pt h7 (fun r10 h9 => RunI X d mX11_isWord [(2, 78), (1, r10)] sh pt h9 (fun r12 h11 => ((r12 = 0 → RunL X d mX11_spelled [(0, 104), (0, 97), (0, 108), (0, 116), (0, 0), (0, 0)] sh pt h11 (fun r14 h13 => RunI X d mX11_isWord [(2, 78), (1, r14)] sh pt h13 (fun r16 h15 => ((r16 = 0 → RunL X d mX11_spelled [(0, 102), (0, 111), (0, 108), (0, 108), (0, 111), (0, 119)] sh pt h15 (fun r18 h17 => RunI X d mX11_isWord [(2, 78), (1, r18)] sh pt h17 (fun r20 h19 => ((r20 = 0 → RunL X d mX11_spelled [(0, 116), (0, 117), (0, 114), (0, 110), (0, 0), (0, 0)] sh pt h19 (fun r22 h21 => RunI X d mX11_isWord [(2, 78), (1, r22)] sh pt h21 (fun r24 h23 => ((r24 = 0 → RunL X d mX11_spelled [(0, 119), (0, 104), (0, 101), (0, 101), (0, 108), (0, 0)] sh pt h23 (fun r26 h25 => RunI X d mX11_isWord [(2, 78), (1, r26)] sh pt h25 (fun r28 h27 => ((r28 = 0 → RunL X d mX11_spelled [(0, 111), (0, 112), (0, 101), (0, 110), (0, 0), (0, 0)] sh pt h27 (fun r30 h29 => RunI X d mX11_isWord [(2, 78), (1, r30)] sh pt h29 (fun r32 h31 => ((r32 = 0 → RunL X d mX11_spelled [(0, 99), (0, 108), (0, 111), (0, 115), (0, 101), (0, 0)] sh pt h31 (fun r34 h33 => RunI X d mX11_isWord [(2, 78), (1, r34)] sh pt h33 (fun r36 h35 => ((r36 = 0 → RunL X d mX11_spelled [(0, 115), (0, 104), (0, 105), (0, 102), (0, 116), (0, 0)] sh pt h35 (fun r38 h37 => RunI X d mX11_isWord [(2, 78), (1, r38)] sh pt h37 (fun r40 h39 => ((r40 = 0 → RunL X d mX11_spelled [(0, 97), (0, 103), (0, 97), (0, 105), (0, 110), (0, 0)] sh pt h39 (fun r42 h41 => RunI X d mX11_isWord [(2, 78), (1, r42)] sh pt h41 (fun r44 h43 => ((r44 = 0 → K (-1) h43) ∧ (¬ r44 = 0 → K 10 h43))))) ∧ (¬ r40 = 0 → K 9 h39))))) ∧ (¬ r36 = 0 → K 8 h35))))) ∧ (¬ r32 = 0 → K 7 h31))))) ∧ (¬ r28 = 0 → K 6 h27))))) ∧ (¬ r24 = 0 → K 5 h23))))) ∧ (¬ r20 = 0 → K 4 h19))))) ∧ (¬ r16 = 0 → K 3 h15))))) ∧ (¬ r12 = 0 → K 2 h11))))) ∧ (¬ r8 = 0 → K 1 h7))))) ∧ (¬ r4 = 0 → K 0 h3))))) :
    RunI X (d + 1) mX11_orderKind [(2, 78)] sh pt h K := by
  show Ev X (d + 1) 0 0 mX11_orderKind 0 [(2, 78)] [] (sh, pt, h) (qRI sh pt K)
  refine ev_aload_n 1 rfl dX11_orderKind_0 rfl rfl ?_
  refine ev_bipush 3 rfl dX11_orderKind_1 (by decide) (by decide) ?_
  refine ev_bipush 5 rfl dX11_orderKind_3 (by decide) (by decide) ?_
  refine ev_iconst 6 rfl dX11_orderKind_5 (by decide) ?_
  refine ev_iconst 7 rfl dX11_orderKind_6 (by decide) ?_
  refine ev_iconst 8 rfl dX11_orderKind_7 (by decide) ?_
  refine ev_iconst 9 rfl dX11_orderKind_8 (by decide) ?_
  refine ev_cSL (As := [(0, 103), (0, 111), (0, 0), (0, 0), (0, 0), (0, 0)]) (rest := [(2, 78)]) 12 rfl dX11_orderKind_9 lm_11_330 mm_X11_spelled rfl rfl (Nat.le_of_ble_eq_true rfl) (Nat.le_of_ble_eq_true rfl) (Nat.le_refl _) H ?_
  intro r2 h1 H
  refine ev_cVI (As := [(1, r2)]) (rest := []) 15 rfl dX11_orderKind_12 lm_11_334 mm_X11_isWord (s_78 hst) rfl rfl (Nat.le_of_ble_eq_true rfl) (Nat.le_of_ble_eq_true rfl) (Nat.le_refl _) H ?_
  intro r4 h3 H
  refine ev_if_eq (tgt := 20) 18 rfl dX11_orderKind_15 (by decide) (fun cd => ?_) (fun cd => ?_)
  · have H := H.1 cd
    refine ev_aload_n 21 rfl dX11_orderKind_20 rfl rfl ?_
    refine ev_bipush 23 rfl dX11_orderKind_21 (by decide) (by decide) ?_
    refine ev_bipush 25 rfl dX11_orderKind_23 (by decide) (by decide) ?_
    refine ev_bipush 27 rfl dX11_orderKind_25 (by decide) (by decide) ?_
    refine ev_bipush 29 rfl dX11_orderKind_27 (by decide) (by decide) ?_
    refine ev_iconst 30 rfl dX11_orderKind_29 (by decide) ?_
    refine ev_iconst 31 rfl dX11_orderKind_30 (by decide) ?_
    refine ev_cSL (As := [(0, 98), (0, 97), (0, 99), (0, 107), (0, 0), (0, 0)]) (rest := [(2, 78)]) 34 rfl dX11_orderKind_31 lm_11_330 mm_X11_spelled rfl rfl (Nat.le_of_ble_eq_true rfl) (Nat.le_of_ble_eq_true rfl) (Nat.le_refl _) H ?_
    intro r6 h5 H
    refine ev_cVI (As := [(1, r6)]) (rest := []) 37 rfl dX11_orderKind_34 lm_11_334 mm_X11_isWord (s_78 hst) rfl rfl (Nat.le_of_ble_eq_true rfl) (Nat.le_of_ble_eq_true rfl) (Nat.le_refl _) H ?_
    intro r8 h7 H
    refine ev_if_eq (tgt := 42) 40 rfl dX11_orderKind_37 (by decide) (fun cd => ?_) (fun cd => ?_)
    · have H := H.1 cd
      refine ev_aload_n 43 rfl dX11_orderKind_42 rfl rfl ?_
      refine ev_bipush 45 rfl dX11_orderKind_43 (by decide) (by decide) ?_
      refine ev_bipush 47 rfl dX11_orderKind_45 (by decide) (by decide) ?_
      refine ev_bipush 49 rfl dX11_orderKind_47 (by decide) (by decide) ?_
      refine ev_bipush 51 rfl dX11_orderKind_49 (by decide) (by decide) ?_
      refine ev_iconst 52 rfl dX11_orderKind_51 (by decide) ?_
      refine ev_iconst 53 rfl dX11_orderKind_52 (by decide) ?_
      refine ev_cSL (As := [(0, 109), (0, 97), (0, 114), (0, 107), (0, 0), (0, 0)]) (rest := [(2, 78)]) 56 rfl dX11_orderKind_53 lm_11_330 mm_X11_spelled rfl rfl (Nat.le_of_ble_eq_true rfl) (Nat.le_of_ble_eq_true rfl) (Nat.le_refl _) H ?_
      intro r10 h9 H
      refine ev_cVI (As := [(1, r10)]) (rest := []) 59 rfl dX11_orderKind_56 lm_11_334 mm_X11_isWord (s_78 hst) rfl rfl (Nat.le_of_ble_eq_true rfl) (Nat.le_of_ble_eq_true rfl) (Nat.le_refl _) H ?_
      intro r12 h11 H
      refine ev_if_eq (tgt := 64) 62 rfl dX11_orderKind_59 (by decide) (fun cd => ?_) (fun cd => ?_)
      · have H := H.1 cd
        refine ev_aload_n 65 rfl dX11_orderKind_64 rfl rfl ?_
        refine ev_bipush 67 rfl dX11_orderKind_65 (by decide) (by decide) ?_
        refine ev_bipush 69 rfl dX11_orderKind_67 (by decide) (by decide) ?_
        refine ev_bipush 71 rfl dX11_orderKind_69 (by decide) (by decide) ?_
        refine ev_bipush 73 rfl dX11_orderKind_71 (by decide) (by decide) ?_
        refine ev_iconst 74 rfl dX11_orderKind_73 (by decide) ?_
        refine ev_iconst 75 rfl dX11_orderKind_74 (by decide) ?_
        refine ev_cSL (As := [(0, 104), (0, 97), (0, 108), (0, 116), (0, 0), (0, 0)]) (rest := [(2, 78)]) 78 rfl dX11_orderKind_75 lm_11_330 mm_X11_spelled rfl rfl (Nat.le_of_ble_eq_true rfl) (Nat.le_of_ble_eq_true rfl) (Nat.le_refl _) H ?_
        intro r14 h13 H
        refine ev_cVI (As := [(1, r14)]) (rest := []) 81 rfl dX11_orderKind_78 lm_11_334 mm_X11_isWord (s_78 hst) rfl rfl (Nat.le_of_ble_eq_true rfl) (Nat.le_of_ble_eq_true rfl) (Nat.le_refl _) H ?_
        intro r16 h15 H
        refine ev_if_eq (tgt := 86) 84 rfl dX11_orderKind_81 (by decide) (fun cd => ?_) (fun cd => ?_)
        · have H := H.1 cd
          refine ev_aload_n 87 rfl dX11_orderKind_86 rfl rfl ?_
          refine ev_bipush 89 rfl dX11_orderKind_87 (by decide) (by decide) ?_
          refine ev_bipush 91 rfl dX11_orderKind_89 (by decide) (by decide) ?_
          refine ev_bipush 93 rfl dX11_orderKind_91 (by decide) (by decide) ?_
          refine ev_bipush 95 rfl dX11_orderKind_93 (by decide) (by decide) ?_
          refine ev_bipush 97 rfl dX11_orderKind_95 (by decide) (by decide) ?_
          refine ev_bipush 99 rfl dX11_orderKind_97 (by decide) (by decide) ?_
          refine ev_cSL (As := [(0, 102), (0, 111), (0, 108), (0, 108), (0, 111), (0, 119)]) (rest := [(2, 78)]) 102 rfl dX11_orderKind_99 lm_11_330 mm_X11_spelled rfl rfl (Nat.le_of_ble_eq_true rfl) (Nat.le_of_ble_eq_true rfl) (Nat.le_refl _) H ?_
          intro r18 h17 H
          refine ev_cVI (As := [(1, r18)]) (rest := []) 105 rfl dX11_orderKind_102 lm_11_334 mm_X11_isWord (s_78 hst) rfl rfl (Nat.le_of_ble_eq_true rfl) (Nat.le_of_ble_eq_true rfl) (Nat.le_refl _) H ?_
          intro r20 h19 H
          refine ev_if_eq (tgt := 110) 108 rfl dX11_orderKind_105 (by decide) (fun cd => ?_) (fun cd => ?_)
          · have H := H.1 cd
            refine ev_aload_n 111 rfl dX11_orderKind_110 rfl rfl ?_
            refine ev_bipush 113 rfl dX11_orderKind_111 (by decide) (by decide) ?_
            refine ev_bipush 115 rfl dX11_orderKind_113 (by decide) (by decide) ?_
            refine ev_bipush 117 rfl dX11_orderKind_115 (by decide) (by decide) ?_
            refine ev_bipush 119 rfl dX11_orderKind_117 (by decide) (by decide) ?_
            refine ev_iconst 120 rfl dX11_orderKind_119 (by decide) ?_
            refine ev_iconst 121 rfl dX11_orderKind_120 (by decide) ?_
            refine ev_cSL (As := [(0, 116), (0, 117), (0, 114), (0, 110), (0, 0), (0, 0)]) (rest := [(2, 78)]) 124 rfl dX11_orderKind_121 lm_11_330 mm_X11_spelled rfl rfl (Nat.le_of_ble_eq_true rfl) (Nat.le_of_ble_eq_true rfl) (Nat.le_refl _) H ?_
            intro r22 h21 H
            refine ev_cVI (As := [(1, r22)]) (rest := []) 127 rfl dX11_orderKind_124 lm_11_334 mm_X11_isWord (s_78 hst) rfl rfl (Nat.le_of_ble_eq_true rfl) (Nat.le_of_ble_eq_true rfl) (Nat.le_refl _) H ?_
            intro r24 h23 H
            refine ev_if_eq (tgt := 132) 130 rfl dX11_orderKind_127 (by decide) (fun cd => ?_) (fun cd => ?_)
            · have H := H.1 cd
              refine ev_aload_n 133 rfl dX11_orderKind_132 rfl rfl ?_
              refine ev_bipush 135 rfl dX11_orderKind_133 (by decide) (by decide) ?_
              refine ev_bipush 137 rfl dX11_orderKind_135 (by decide) (by decide) ?_
              refine ev_bipush 139 rfl dX11_orderKind_137 (by decide) (by decide) ?_
              refine ev_bipush 141 rfl dX11_orderKind_139 (by decide) (by decide) ?_
              refine ev_bipush 143 rfl dX11_orderKind_141 (by decide) (by decide) ?_
              refine ev_iconst 144 rfl dX11_orderKind_143 (by decide) ?_
              refine ev_cSL (As := [(0, 119), (0, 104), (0, 101), (0, 101), (0, 108), (0, 0)]) (rest := [(2, 78)]) 147 rfl dX11_orderKind_144 lm_11_330 mm_X11_spelled rfl rfl (Nat.le_of_ble_eq_true rfl) (Nat.le_of_ble_eq_true rfl) (Nat.le_refl _) H ?_
              intro r26 h25 H
              refine ev_cVI (As := [(1, r26)]) (rest := []) 150 rfl dX11_orderKind_147 lm_11_334 mm_X11_isWord (s_78 hst) rfl rfl (Nat.le_of_ble_eq_true rfl) (Nat.le_of_ble_eq_true rfl) (Nat.le_refl _) H ?_
              intro r28 h27 H
              refine ev_if_eq (tgt := 156) 153 rfl dX11_orderKind_150 (by decide) (fun cd => ?_) (fun cd => ?_)
              · have H := H.1 cd
                refine ev_aload_n 157 rfl dX11_orderKind_156 rfl rfl ?_
                refine ev_bipush 159 rfl dX11_orderKind_157 (by decide) (by decide) ?_
                refine ev_bipush 161 rfl dX11_orderKind_159 (by decide) (by decide) ?_
                refine ev_bipush 163 rfl dX11_orderKind_161 (by decide) (by decide) ?_
                refine ev_bipush 165 rfl dX11_orderKind_163 (by decide) (by decide) ?_
                refine ev_iconst 166 rfl dX11_orderKind_165 (by decide) ?_
                refine ev_iconst 167 rfl dX11_orderKind_166 (by decide) ?_
                refine ev_cSL (As := [(0, 111), (0, 112), (0, 101), (0, 110), (0, 0), (0, 0)]) (rest := [(2, 78)]) 170 rfl dX11_orderKind_167 lm_11_330 mm_X11_spelled rfl rfl (Nat.le_of_ble_eq_true rfl) (Nat.le_of_ble_eq_true rfl) (Nat.le_refl _) H ?_
                intro r30 h29 H
                refine ev_cVI (As := [(1, r30)]) (rest := []) 173 rfl dX11_orderKind_170 lm_11_334 mm_X11_isWord (s_78 hst) rfl rfl (Nat.le_of_ble_eq_true rfl) (Nat.le_of_ble_eq_true rfl) (Nat.le_refl _) H ?_
                intro r32 h31 H
                refine ev_if_eq (tgt := 179) 176 rfl dX11_orderKind_173 (by decide) (fun cd => ?_) (fun cd => ?_)
                · have H := H.1 cd
                  refine ev_aload_n 180 rfl dX11_orderKind_179 rfl rfl ?_
                  refine ev_bipush 182 rfl dX11_orderKind_180 (by decide) (by decide) ?_
                  refine ev_bipush 184 rfl dX11_orderKind_182 (by decide) (by decide) ?_
                  refine ev_bipush 186 rfl dX11_orderKind_184 (by decide) (by decide) ?_
                  refine ev_bipush 188 rfl dX11_orderKind_186 (by decide) (by decide) ?_
                  refine ev_bipush 190 rfl dX11_orderKind_188 (by decide) (by decide) ?_
                  refine ev_iconst 191 rfl dX11_orderKind_190 (by decide) ?_
                  refine ev_cSL (As := [(0, 99), (0, 108), (0, 111), (0, 115), (0, 101), (0, 0)]) (rest := [(2, 78)]) 194 rfl dX11_orderKind_191 lm_11_330 mm_X11_spelled rfl rfl (Nat.le_of_ble_eq_true rfl) (Nat.le_of_ble_eq_true rfl) (Nat.le_refl _) H ?_
                  intro r34 h33 H
                  refine ev_cVI (As := [(1, r34)]) (rest := []) 197 rfl dX11_orderKind_194 lm_11_334 mm_X11_isWord (s_78 hst) rfl rfl (Nat.le_of_ble_eq_true rfl) (Nat.le_of_ble_eq_true rfl) (Nat.le_refl _) H ?_
                  intro r36 h35 H
                  refine ev_if_eq (tgt := 203) 200 rfl dX11_orderKind_197 (by decide) (fun cd => ?_) (fun cd => ?_)
                  · have H := H.1 cd
                    refine ev_aload_n 204 rfl dX11_orderKind_203 rfl rfl ?_
                    refine ev_bipush 206 rfl dX11_orderKind_204 (by decide) (by decide) ?_
                    refine ev_bipush 208 rfl dX11_orderKind_206 (by decide) (by decide) ?_
                    refine ev_bipush 210 rfl dX11_orderKind_208 (by decide) (by decide) ?_
                    refine ev_bipush 212 rfl dX11_orderKind_210 (by decide) (by decide) ?_
                    refine ev_bipush 214 rfl dX11_orderKind_212 (by decide) (by decide) ?_
                    refine ev_iconst 215 rfl dX11_orderKind_214 (by decide) ?_
                    refine ev_cSL (As := [(0, 115), (0, 104), (0, 105), (0, 102), (0, 116), (0, 0)]) (rest := [(2, 78)]) 218 rfl dX11_orderKind_215 lm_11_330 mm_X11_spelled rfl rfl (Nat.le_of_ble_eq_true rfl) (Nat.le_of_ble_eq_true rfl) (Nat.le_refl _) H ?_
                    intro r38 h37 H
                    refine ev_cVI (As := [(1, r38)]) (rest := []) 221 rfl dX11_orderKind_218 lm_11_334 mm_X11_isWord (s_78 hst) rfl rfl (Nat.le_of_ble_eq_true rfl) (Nat.le_of_ble_eq_true rfl) (Nat.le_refl _) H ?_
                    intro r40 h39 H
                    refine ev_if_eq (tgt := 227) 224 rfl dX11_orderKind_221 (by decide) (fun cd => ?_) (fun cd => ?_)
                    · have H := H.1 cd
                      refine ev_aload_n 228 rfl dX11_orderKind_227 rfl rfl ?_
                      refine ev_bipush 230 rfl dX11_orderKind_228 (by decide) (by decide) ?_
                      refine ev_bipush 232 rfl dX11_orderKind_230 (by decide) (by decide) ?_
                      refine ev_bipush 234 rfl dX11_orderKind_232 (by decide) (by decide) ?_
                      refine ev_bipush 236 rfl dX11_orderKind_234 (by decide) (by decide) ?_
                      refine ev_bipush 238 rfl dX11_orderKind_236 (by decide) (by decide) ?_
                      refine ev_iconst 239 rfl dX11_orderKind_238 (by decide) ?_
                      refine ev_cSL (As := [(0, 97), (0, 103), (0, 97), (0, 105), (0, 110), (0, 0)]) (rest := [(2, 78)]) 242 rfl dX11_orderKind_239 lm_11_330 mm_X11_spelled rfl rfl (Nat.le_of_ble_eq_true rfl) (Nat.le_of_ble_eq_true rfl) (Nat.le_refl _) H ?_
                      intro r42 h41 H
                      refine ev_cVI (As := [(1, r42)]) (rest := []) 245 rfl dX11_orderKind_242 lm_11_334 mm_X11_isWord (s_78 hst) rfl rfl (Nat.le_of_ble_eq_true rfl) (Nat.le_of_ble_eq_true rfl) (Nat.le_refl _) H ?_
                      intro r44 h43 H
                      refine ev_if_eq (tgt := 253) 248 rfl dX11_orderKind_245 (by decide) (fun cd => ?_) (fun cd => ?_)
                      · have H := H.1 cd
                        refine ev_iconst 254 rfl dX11_orderKind_253 (by decide) ?_
                        exact ev_retI dX11_orderKind_254 rfl H
                      · have H := H.2 cd
                        refine ev_bipush 250 rfl dX11_orderKind_248 (by decide) (by decide) ?_
                        refine ev_goto (tgt := 254) dX11_orderKind_250 (by decide) ?_
                        exact ev_retI dX11_orderKind_254 rfl H
                    · have H := H.2 cd
                      refine ev_bipush 226 rfl dX11_orderKind_224 (by decide) (by decide) ?_
                      exact ev_retI dX11_orderKind_226 rfl H
                  · have H := H.2 cd
                    refine ev_bipush 202 rfl dX11_orderKind_200 (by decide) (by decide) ?_
                    exact ev_retI dX11_orderKind_202 rfl H
                · have H := H.2 cd
                  refine ev_bipush 178 rfl dX11_orderKind_176 (by decide) (by decide) ?_
                  exact ev_retI dX11_orderKind_178 rfl H
              · have H := H.2 cd
                refine ev_bipush 155 rfl dX11_orderKind_153 (by decide) (by decide) ?_
                exact ev_retI dX11_orderKind_155 rfl H
            · have H := H.2 cd
              refine ev_iconst 131 rfl dX11_orderKind_130 (by decide) ?_
              exact ev_retI dX11_orderKind_131 rfl H
          · have H := H.2 cd
            refine ev_iconst 109 rfl dX11_orderKind_108 (by decide) ?_
            exact ev_retI dX11_orderKind_109 rfl H
        · have H := H.2 cd
          refine ev_iconst 85 rfl dX11_orderKind_84 (by decide) ?_
          exact ev_retI dX11_orderKind_85 rfl H
      · have H := H.2 cd
        refine ev_iconst 63 rfl dX11_orderKind_62 (by decide) ?_
        exact ev_retI dX11_orderKind_63 rfl H
    · have H := H.2 cd
      refine ev_iconst 41 rfl dX11_orderKind_40 (by decide) ?_
      exact ev_retI dX11_orderKind_41 rfl H
  · have H := H.2 cd
    refine ev_iconst 19 rfl dX11_orderKind_18 (by decide) ?_
    exact ev_retI dX11_orderKind_19 rfl H

set_option maxRecDepth 20000 in
theorem b_X11_readWhole {X : qX} {d : Nat} {sh : qS} {pt h : qM} {K : Int → qM → Prop} (hst : St sh pt)
    (H : ((¬ (h 78 22) = 0 → (((0 : Int) = 0 → EvI X (d + 1) mX11_readWhole 30 [(2, 78), (0, 0), (8, -1)] [] sh pt h K) ∧ (¬ (0 : Int) = 0 → RunV X d mX11_next [(2, 78)] sh pt h (fun h1 => EvI X (d + 1) mX11_readWhole 30 [(2, 78), (0, 0), (8, -1)] [] sh pt h1 K)))) ∧ ((h 78 22) = 0 → RunI X d mX11_isSign [(2, 78), (0, 45)] sh pt h (fun r3 h2 => ((r3 = 0 → (((0 : Int) = 0 → EvI X (d + 1) mX11_readWhole 30 [(2, 78), (0, 0), (8, -1)] [] sh pt h2 K) ∧ (¬ (0 : Int) = 0 → RunV X d mX11_next [(2, 78)] sh pt h2 (fun h4 => EvI X (d + 1) mX11_readWhole 30 [(2, 78), (0, 0), (8, -1)] [] sh pt h4 K)))) ∧ (¬ r3 = 0 → (((1 : Int) = 0 → EvI X (d + 1) mX11_readWhole 30 [(2, 78), (0, 1), (8, -1)] [] sh pt h2 K) ∧ (¬ (1 : Int) = 0 → RunV X d mX11_next [(2, 78)] sh pt h2 (fun h5 => EvI X (d + 1) mX11_readWhole 30 [(2, 78), (0, 1), (8, -1)] [] sh pt h5 K))))))))) :
    RunI X (d + 1) mX11_readWhole [(2, 78)] sh pt h K := by
  show Ev X (d + 1) 0 0 mX11_readWhole 0 [(2, 78), (8, -1), (8, -1)] [] (sh, pt, h) (qRI sh pt K)
  refine ev_aload_n 1 rfl dX11_readWhole_0 rfl rfl ?_
  refine ev_getI (ki := 22) 4 rfl dX11_readWhole_1 lf_11_311 (Or.inl rfl) (s_78 hst) (by decide) rfl ?_
  refine ev_if_ne (tgt := 20) 7 rfl dX11_readWhole_4 (by decide) (fun cd => ?_) (fun cd => ?_)
  · have H := H.1 cd
    refine ev_iconst 21 rfl dX11_readWhole_20 (by decide) ?_
    refine ev_istore_n (L1 := [(2, 78), (0, 0), (8, -1)]) 22 rfl dX11_readWhole_21 rfl (Nat.le_of_ble_eq_true rfl) rfl ?_
    refine ev_iload_n 23 rfl dX11_readWhole_22 rfl rfl ?_
    refine ev_if_eq (tgt := 30) 26 rfl dX11_readWhole_23 (by decide) (fun cd => ?_) (fun cd => ?_)
    · have H := H.1 cd
      exact H
    · have H := H.2 cd
      refine ev_aload_n 27 rfl dX11_readWhole_26 rfl rfl ?_
      refine ev_cVV (As := []) (rest := []) 30 rfl dX11_readWhole_27 lm_11_324 mm_X11_next (s_78 hst) rfl rfl (Nat.le_of_ble_eq_true rfl) (Nat.le_of_ble_eq_true rfl) (Nat.le_refl _) H ?_
      intro h1 H
      exact H
  · have H := H.2 cd
    refine ev_aload_n 8 rfl dX11_readWhole_7 rfl rfl ?_
    refine ev_bipush 10 rfl dX11_readWhole_8 (by decide) (by decide) ?_
    refine ev_cVI (As := [(0, 45)]) (rest := []) 13 rfl dX11_readWhole_10 lm_11_321 mm_X11_isSign (s_78 hst) rfl rfl (Nat.le_of_ble_eq_true rfl) (Nat.le_of_ble_eq_true rfl) (Nat.le_refl _) H ?_
    intro r3 h2 H
    refine ev_if_eq (tgt := 20) 16 rfl dX11_readWhole_13 (by decide) (fun cd => ?_) (fun cd => ?_)
    · have H := H.1 cd
      refine ev_iconst 21 rfl dX11_readWhole_20 (by decide) ?_
      refine ev_istore_n (L1 := [(2, 78), (0, 0), (8, -1)]) 22 rfl dX11_readWhole_21 rfl (Nat.le_of_ble_eq_true rfl) rfl ?_
      refine ev_iload_n 23 rfl dX11_readWhole_22 rfl rfl ?_
      refine ev_if_eq (tgt := 30) 26 rfl dX11_readWhole_23 (by decide) (fun cd => ?_) (fun cd => ?_)
      · have H := H.1 cd
        exact H
      · have H := H.2 cd
        refine ev_aload_n 27 rfl dX11_readWhole_26 rfl rfl ?_
        refine ev_cVV (As := []) (rest := []) 30 rfl dX11_readWhole_27 lm_11_324 mm_X11_next (s_78 hst) rfl rfl (Nat.le_of_ble_eq_true rfl) (Nat.le_of_ble_eq_true rfl) (Nat.le_refl _) H ?_
        intro h4 H
        exact H
    · have H := H.2 cd
      refine ev_iconst 17 rfl dX11_readWhole_16 (by decide) ?_
      refine ev_goto (tgt := 21) dX11_readWhole_17 (by decide) ?_
      refine ev_istore_n (L1 := [(2, 78), (0, 1), (8, -1)]) 22 rfl dX11_readWhole_21 rfl (Nat.le_of_ble_eq_true rfl) rfl ?_
      refine ev_iload_n 23 rfl dX11_readWhole_22 rfl rfl ?_
      refine ev_if_eq (tgt := 30) 26 rfl dX11_readWhole_23 (by decide) (fun cd => ?_) (fun cd => ?_)
      · have H := H.1 cd
        exact H
      · have H := H.2 cd
        refine ev_aload_n 27 rfl dX11_readWhole_26 rfl rfl ?_
        refine ev_cVV (As := []) (rest := []) 30 rfl dX11_readWhole_27 lm_11_324 mm_X11_next (s_78 hst) rfl rfl (Nat.le_of_ble_eq_true rfl) (Nat.le_of_ble_eq_true rfl) (Nat.le_refl _) H ?_
        intro h5 H
        exact H

set_option maxRecDepth 20000 in
theorem b_X11_readWhole_30 {X : qX} {d : Nat} {sh : qS} {pt h : qM} {K : Int → qM → Prop} {v1 : Int} (hst : St sh pt)
    (H : RunI X d mX11_count [(2, 78), (0, 0), (0, 59)] sh pt h (fun r2 h1 => ((v1 = 0 → K r2 h1) ∧ (¬ v1 = 0 → (qI (-r2)) ∧ K (-r2) h1)))) :
    EvI X (d + 1) mX11_readWhole 30 [(2, 78), (0, v1), (8, -1)] [] sh pt h K := by
  show Ev X (d + 1) 0 0 mX11_readWhole 30 [(2, 78), (0, v1), (8, -1)] [] (sh, pt, h) (qRI sh pt K)
  refine ev_aload_n 31 rfl dX11_readWhole_30 rfl rfl ?_
  refine ev_iconst 32 rfl dX11_readWhole_31 (by decide) ?_
  refine ev_bipush 34 rfl dX11_readWhole_32 (by decide) (by decide) ?_
  refine ev_cVI (As := [(0, 0), (0, 59)]) (rest := []) 37 rfl dX11_readWhole_34 lm_11_337 mm_X11_count (s_78 hst) rfl rfl (Nat.le_of_ble_eq_true rfl) (Nat.le_of_ble_eq_true rfl) (Nat.le_refl _) H ?_
  intro r2 h1 H
  refine ev_istore_n (L1 := [(2, 78), (0, v1), (0, r2)]) 38 rfl dX11_readWhole_37 rfl (Nat.le_of_ble_eq_true rfl) rfl ?_
  refine ev_iload_n 39 rfl dX11_readWhole_38 rfl rfl ?_
  refine ev_if_eq (tgt := 47) 42 rfl dX11_readWhole_39 (by decide) (fun cd => ?_) (fun cd => ?_)
  · have H := H.1 cd
    refine ev_iload_n 48 rfl dX11_readWhole_47 rfl rfl ?_
    exact ev_retI dX11_readWhole_48 rfl H
  · have H := H.2 cd
    refine ev_iload_n 43 rfl dX11_readWhole_42 rfl rfl ?_
    obtain ⟨sd, H⟩ := H
    refine ev_ineg 44 rfl dX11_readWhole_43 sd ?_
    refine ev_goto (tgt := 48) dX11_readWhole_44 (by decide) ?_
    exact ev_retI dX11_readWhole_48 rfl H

set_option maxRecDepth 20000 in
theorem b_X11_readOrder {X : qX} {d : Nat} {sh : qS} {pt h : qM} {K : qM → Prop} {v1 : Int} (hst : St sh pt)
    (H : RunI X d mX11_orderKind [(2, 78)] sh pt h (fun r2 h1 => ((0 ≤ r2 → EvV X (d + 1) mX11_readOrder 13 [(2, 78), (0, v1), (0, r2), (8, -1), (8, -1)] [] sh pt h1 K) ∧ (r2 < 0 → RunV X d mX11_wrong [(2, 78)] sh pt h1 (fun h3 => EvV X (d + 1) mX11_readOrder 13 [(2, 78), (0, v1), (0, r2), (8, -1), (8, -1)] [] sh pt h3 K))))) :
    RunV X (d + 1) mX11_readOrder [(2, 78), (0, v1)] sh pt h K := by
  show Ev X (d + 1) 0 0 mX11_readOrder 0 [(2, 78), (0, v1), (8, -1), (8, -1), (8, -1)] [] (sh, pt, h) (qRV sh pt K)
  refine ev_aload_n 1 rfl dX11_readOrder_0 rfl rfl ?_
  refine ev_cVI (As := []) (rest := []) 4 rfl dX11_readOrder_1 lm_11_340 mm_X11_orderKind (s_78 hst) rfl rfl (Nat.le_of_ble_eq_true rfl) (Nat.le_of_ble_eq_true rfl) (Nat.le_refl _) H ?_
  intro r2 h1 H
  refine ev_istore_n (L1 := [(2, 78), (0, v1), (0, r2), (8, -1), (8, -1)]) 5 rfl dX11_readOrder_4 rfl (Nat.le_of_ble_eq_true rfl) rfl ?_
  refine ev_iload_n 6 rfl dX11_readOrder_5 rfl rfl ?_
  refine ev_if_ge (tgt := 13) 9 rfl dX11_readOrder_6 (by decide) (fun cd => ?_) (fun cd => ?_)
  · have H := H.1 cd
    exact H
  · have H := H.2 cd
    refine ev_aload_n 10 rfl dX11_readOrder_9 rfl rfl ?_
    refine ev_cVV (As := []) (rest := []) 13 rfl dX11_readOrder_10 lm_11_327 mm_X11_wrong (s_78 hst) rfl rfl (Nat.le_of_ble_eq_true rfl) (Nat.le_of_ble_eq_true rfl) (Nat.le_refl _) H ?_
    intro h3 H
    exact H

set_option maxRecDepth 20000 in
theorem b_X11_readOrder_13 {X : qX} {d : Nat} {sh : qS} {pt h : qM} {K : qM → Prop} {v1 v2 : Int} (hst : St sh pt)
    (H : ((¬ (h 78 22) = 0 → EvV X (d + 1) mX11_readOrder 38 [(2, 78), (0, v1), (0, v2), (8, -1), (8, -1)] [] sh pt h K) ∧ ((h 78 22) = 0 → ((¬ (h 78 32) = 60 → EvV X (d + 1) mX11_readOrder 38 [(2, 78), (0, v1), (0, v2), (8, -1), (8, -1)] [] sh pt h K) ∧ ((h 78 32) = 60 → RunV X d mX11_fail [(2, 78), (0, 5), (0, (h 78 25))] sh pt h (fun h1 => EvV X (d + 1) mX11_readOrder 38 [(2, 78), (0, v1), (0, v2), (8, -1), (8, -1)] [] sh pt h1 K)))))) :
    EvV X (d + 1) mX11_readOrder 13 [(2, 78), (0, v1), (0, v2), (8, -1), (8, -1)] [] sh pt h K := by
  show Ev X (d + 1) 0 0 mX11_readOrder 13 [(2, 78), (0, v1), (0, v2), (8, -1), (8, -1)] [] (sh, pt, h) (qRV sh pt K)
  refine ev_aload_n 14 rfl dX11_readOrder_13 rfl rfl ?_
  refine ev_getI (ki := 22) 17 rfl dX11_readOrder_14 lf_11_311 (Or.inl rfl) (s_78 hst) (by decide) rfl ?_
  refine ev_if_ne (tgt := 38) 20 rfl dX11_readOrder_17 (by decide) (fun cd => ?_) (fun cd => ?_)
  · have H := H.1 cd
    exact H
  · have H := H.2 cd
    refine ev_aload_n 21 rfl dX11_readOrder_20 rfl rfl ?_
    refine ev_getI (ki := 32) 24 rfl dX11_readOrder_21 lf_11_344 (Or.inl rfl) (s_78 hst) (by decide) rfl ?_
    refine ev_bipush 26 rfl dX11_readOrder_24 (by decide) (by decide) ?_
    refine ev_icmp_ne (tgt := 38) 29 rfl dX11_readOrder_26 (by decide) (fun cd => ?_) (fun cd => ?_)
    · have H := H.1 cd
      exact H
    · have H := H.2 cd
      refine ev_aload_n 30 rfl dX11_readOrder_29 rfl rfl ?_
      refine ev_iconst 31 rfl dX11_readOrder_30 (by decide) ?_
      refine ev_aload_n 32 rfl dX11_readOrder_31 rfl rfl ?_
      refine ev_getI (ki := 25) 35 rfl dX11_readOrder_32 lf_11_285 (Or.inl rfl) (s_78 hst) (by decide) rfl ?_
      refine ev_cVV (As := [(0, 5), (0, (h 78 25))]) (rest := []) 38 rfl dX11_readOrder_35 lm_11_317 mm_X11_fail (s_78 hst) rfl rfl (Nat.le_of_ble_eq_true rfl) (Nat.le_of_ble_eq_true rfl) (Nat.le_refl _) H ?_
      intro h1 H
      exact H

set_option maxRecDepth 20000 in
theorem b_X11_readOrder_38 {X : qX} {d : Nat} {sh : qS} {pt h : qM} {K : qM → Prop} {v1 v2 : Int} (hst : St sh pt)
    (H : ((¬ (h 78 22) = 0 → EvV X (d + 1) mX11_readOrder 66 [(2, 78), (0, v1), (0, v2), (8, -1), (8, -1)] [] sh pt h K) ∧ ((h 78 22) = 0 → ((¬ v2 = 10 → EvV X (d + 1) mX11_readOrder 66 [(2, 78), (0, v1), (0, v2), (8, -1), (8, -1)] [] sh pt h K) ∧ (v2 = 10 → ((¬ v1 = 3 → EvV X (d + 1) mX11_readOrder 66 [(2, 78), (0, v1), (0, v2), (8, -1), (8, -1)] [] sh pt h K) ∧ (v1 = 3 → RunV X d mX11_fail [(2, 78), (0, 6), (0, (h 78 25))] sh pt h (fun h1 => EvV X (d + 1) mX11_readOrder 66 [(2, 78), (0, v1), (0, v2), (8, -1), (8, -1)] [] sh pt h1 K)))))))) :
    EvV X (d + 1) mX11_readOrder 38 [(2, 78), (0, v1), (0, v2), (8, -1), (8, -1)] [] sh pt h K := by
  show Ev X (d + 1) 0 0 mX11_readOrder 38 [(2, 78), (0, v1), (0, v2), (8, -1), (8, -1)] [] (sh, pt, h) (qRV sh pt K)
  refine ev_aload_n 39 rfl dX11_readOrder_38 rfl rfl ?_
  refine ev_getI (ki := 22) 42 rfl dX11_readOrder_39 lf_11_311 (Or.inl rfl) (s_78 hst) (by decide) rfl ?_
  refine ev_if_ne (tgt := 66) 45 rfl dX11_readOrder_42 (by decide) (fun cd => ?_) (fun cd => ?_)
  · have H := H.1 cd
    exact H
  · have H := H.2 cd
    refine ev_iload_n 46 rfl dX11_readOrder_45 rfl rfl ?_
    refine ev_bipush 48 rfl dX11_readOrder_46 (by decide) (by decide) ?_
    refine ev_icmp_ne (tgt := 66) 51 rfl dX11_readOrder_48 (by decide) (fun cd => ?_) (fun cd => ?_)
    · have H := H.1 cd
      exact H
    · have H := H.2 cd
      refine ev_iload_n 52 rfl dX11_readOrder_51 rfl rfl ?_
      refine ev_iconst 53 rfl dX11_readOrder_52 (by decide) ?_
      refine ev_icmp_ne (tgt := 66) 56 rfl dX11_readOrder_53 (by decide) (fun cd => ?_) (fun cd => ?_)
      · have H := H.1 cd
        exact H
      · have H := H.2 cd
        refine ev_aload_n 57 rfl dX11_readOrder_56 rfl rfl ?_
        refine ev_bipush 59 rfl dX11_readOrder_57 (by decide) (by decide) ?_
        refine ev_aload_n 60 rfl dX11_readOrder_59 rfl rfl ?_
        refine ev_getI (ki := 25) 63 rfl dX11_readOrder_60 lf_11_285 (Or.inl rfl) (s_78 hst) (by decide) rfl ?_
        refine ev_cVV (As := [(0, 6), (0, (h 78 25))]) (rest := []) 66 rfl dX11_readOrder_63 lm_11_317 mm_X11_fail (s_78 hst) rfl rfl (Nat.le_of_ble_eq_true rfl) (Nat.le_of_ble_eq_true rfl) (Nat.le_refl _) H ?_
        intro h1 H
        exact H

set_option maxRecDepth 20000 in
theorem b_X11_readOrder_66 {X : qX} {d : Nat} {sh : qS} {pt h : qM} {K : qM → Prop} {v1 v2 : Int} (hst : St sh pt)
    (H : (((h 78 22) ≤ 0 → (qI ((h 78 32) + 1)) ∧ ∀ h1 : qM, h1 = qup h 78 32 ((h 78 32) + 1) → (0 ≤ (h 78 32) ∧ (h 78 32) < 60) ∧ ∀ h3 : qM, h3 = qup h1 100 (h 78 32) v2 → (0 ≤ (h 78 32) ∧ (h 78 32) < 60) ∧ ∀ h5 : qM, h5 = qup h3 104 (h 78 32) (h3 78 25) → (0 ≤ (h 78 32) ∧ (h 78 32) < 60) ∧ ∀ h7 : qM, h7 = qup h5 102 (h 78 32) 0 → (0 ≤ (h 78 32) ∧ (h 78 32) < 60) ∧ ∀ h9 : qM, h9 = qup h7 103 (h 78 32) 0 → RunV X d mX11_next [(2, 78)] sh pt h9 (fun h10 => ((¬ v2 = 10 → ((¬ v2 = 6 → ((¬ v2 = 9 → ((v2 = 7 → EvV X (d + 1) mX11_readOrder 341 [(2, 78), (8, -1), (8, -1), (0, (h 78 32)), (8, -1)] [] sh pt h10 K) ∧ (¬ v2 = 7 → ((¬ v2 = 8 → ((¬ v2 = 5 → RunI X d mX11_count [(2, 78), (0, 1), (0, 99)] sh pt h10 (fun r12 h11 => (0 ≤ (h 78 32) ∧ (h 78 32) < 60) ∧ ∀ h14 : qM, h14 = qup h11 101 (h 78 32) r12 → (0 ≤ (h 78 32) ∧ (h 78 32) < 60) ∧ ∀ h16 : qM, h16 = qup h14 105 (h 78 32) (h14 78 32) → K h16)) ∧ (v2 = 5 → RunI X d mX11_count [(2, 78), (0, 1), (0, 7)] sh pt h10 (fun r18 h17 => (0 ≤ (h 78 32) ∧ (h 78 32) < 60) ∧ ∀ h20 : qM, h20 = qup h17 101 (h 78 32) r18 → (0 ≤ (h 78 32) ∧ (h 78 32) < 60) ∧ ∀ h22 : qM, h22 = qup h20 105 (h 78 32) (h20 78 32) → K h22)))) ∧ (v2 = 8 → EvV X (d + 1) mX11_readOrder 341 [(2, 78), (8, -1), (8, -1), (0, (h 78 32)), (8, -1)] [] sh pt h10 K))))) ∧ (v2 = 9 → RunI X d mX11_readWhole [(2, 78)] sh pt h10 (fun r24 h23 => (0 ≤ (h 78 32) ∧ (h 78 32) < 60) ∧ ∀ h26 : qM, h26 = qup h23 102 (h 78 32) r24 → RunI X d mX11_readWhole [(2, 78)] sh pt h26 (fun r28 h27 => (0 ≤ (h 78 32) ∧ (h 78 32) < 60) ∧ ∀ h30 : qM, h30 = qup h27 103 (h 78 32) r28 → RunI X d mX11_count [(2, 78), (0, 1), (0, 99)] sh pt h30 (fun r32 h31 => (0 ≤ (h 78 32) ∧ (h 78 32) < 60) ∧ ∀ h34 : qM, h34 = qup h31 101 (h 78 32) r32 → (0 ≤ (h 78 32) ∧ (h 78 32) < 60) ∧ ∀ h36 : qM, h36 = qup h34 105 (h 78 32) (h34 78 32) → K h36)))))) ∧ (v2 = 6 → RunL X d mX11_spelled [(0, 108), (0, 101), (0, 102), (0, 116), (0, 0), (0, 0)] sh pt h10 (fun r38 h37 => RunI X d mX11_isWord [(2, 78), (1, r38)] sh pt h37 (fun r40 h39 => ((¬ r40 = 0 → EvV X (d + 1) mX11_readOrder 244 [(2, 78), (8, -1), (8, -1), (0, (h 78 32)), (0, r40)] [] sh pt h39 K) ∧ (r40 = 0 → RunL X d mX11_spelled [(0, 114), (0, 105), (0, 103), (0, 104), (0, 116), (0, 0)] sh pt h39 (fun r42 h41 => RunI X d mX11_isWord [(2, 78), (1, r42)] sh pt h41 (fun r44 h43 => ((¬ r44 = 0 → EvV X (d + 1) mX11_readOrder 244 [(2, 78), (8, -1), (8, -1), (0, (h 78 32)), (0, r40)] [] sh pt h43 K) ∧ (r44 = 0 → RunV X d mX11_wrong [(2, 78)] sh pt h43 (fun h45 => EvV X (d + 1) mX11_readOrder 244 [(2, 78), (8, -1), (8, -1), (0, (h 78 32)), (0, r40)] [] sh pt h45 K)))))))))))) ∧ (v2 = 10 → RunI X d mX11_count [(2, 78), (0, 2), (0, 20)] sh pt h10 (fun r47 h46 => (0 ≤ (h 78 32) ∧ (h 78 32) < 60) ∧ ∀ h49 : qM, h49 = qup h46 101 (h 78 32) r47 → RunV X d mX11_sign [(2, 78), (0, 123)] sh pt h49 (fun h50 => EvV X (d + 1) mX11_readOrder 149 [(2, 78), (0, v1), (8, -1), (0, (h 78 32)), (8, -1)] [] sh pt h50 K)))))) ∧ (0 < (h 78 22) → K h))) :
    EvV X (d + 1) mX11_readOrder 66 [(2, 78), (0, v1), (0, v2), (8, -1), (8, -1)] [] sh pt h K := by
  show Ev X (d + 1) 0 0 mX11_readOrder 66 [(2, 78), (0, v1), (0, v2), (8, -1), (8, -1)] [] (sh, pt, h) (qRV sh pt K)
  refine ev_aload_n 67 rfl dX11_readOrder_66 rfl rfl ?_
  refine ev_getI (ki := 22) 70 rfl dX11_readOrder_67 lf_11_311 (Or.inl rfl) (s_78 hst) (by decide) rfl ?_
  refine ev_if_le (tgt := 74) 73 rfl dX11_readOrder_70 (by decide) (fun cd => ?_) (fun cd => ?_)
  · have H := H.1 cd
    refine ev_aload_n 75 rfl dX11_readOrder_74 rfl rfl ?_
    refine ev_getI (ki := 32) 78 rfl dX11_readOrder_75 lf_11_344 (Or.inl rfl) (s_78 hst) (by decide) rfl ?_
    refine ev_istore_n (L1 := [(2, 78), (0, v1), (0, v2), (0, (h 78 32)), (8, -1)]) 79 rfl dX11_readOrder_78 rfl (Nat.le_of_ble_eq_true rfl) rfl ?_
    refine ev_aload_n 80 rfl dX11_readOrder_79 rfl rfl ?_
    refine ev_dup 81 rfl dX11_readOrder_80 q21 ?_
    refine ev_getI (ki := 32) 84 rfl dX11_readOrder_81 lf_11_344 (Or.inl rfl) (s_78 hst) (by decide) rfl ?_
    refine ev_iconst 85 rfl dX11_readOrder_84 (by decide) ?_
    obtain ⟨sd, H⟩ := H
    refine ev_iadd 86 rfl dX11_readOrder_85 sd ?_
    refine ev_putI (ki := 32) 89 rfl dX11_readOrder_86 lf_11_344 (Or.inl rfl) (s_78 hst) (by decide) rfl ?_
    obtain ⟨h1, eh1⟩ : ∃ z : qM, z = qup h 78 32 ((h 78 32) + 1) := ⟨_, rfl⟩
    rw [← eh1]
    have H := H h1 eh1
    refine ev_aload_n 90 rfl dX11_readOrder_89 rfl rfl ?_
    refine ev_getR (ki := 44) (v := 100) 93 rfl dX11_readOrder_90 lf_11_93 (s_78 hst) (by decide) rfl (p_78_44 hst) ?_
    refine ev_iload_n 94 rfl dX11_readOrder_93 rfl rfl ?_
    refine ev_iload_n 95 rfl dX11_readOrder_94 rfl rfl ?_
    obtain ⟨b2, H⟩ := H
    refine ev_iastore 96 rfl dX11_readOrder_95 (s_100 hst) b2.1 b2.2 ?_
    obtain ⟨h3, eh3⟩ : ∃ z : qM, z = qup h1 100 (h 78 32) v2 := ⟨_, rfl⟩
    rw [← eh3]
    have H := H h3 eh3
    refine ev_aload_n 97 rfl dX11_readOrder_96 rfl rfl ?_
    refine ev_getR (ki := 48) (v := 104) 100 rfl dX11_readOrder_97 lf_11_105 (s_78 hst) (by decide) rfl (p_78_48 hst) ?_
    refine ev_iload_n 101 rfl dX11_readOrder_100 rfl rfl ?_
    refine ev_aload_n 102 rfl dX11_readOrder_101 rfl rfl ?_
    refine ev_getI (ki := 25) 105 rfl dX11_readOrder_102 lf_11_285 (Or.inl rfl) (s_78 hst) (by decide) rfl ?_
    obtain ⟨b4, H⟩ := H
    refine ev_iastore 106 rfl dX11_readOrder_105 (s_104 hst) b4.1 b4.2 ?_
    obtain ⟨h5, eh5⟩ : ∃ z : qM, z = qup h3 104 (h 78 32) (h3 78 25) := ⟨_, rfl⟩
    rw [← eh5]
    have H := H h5 eh5
    refine ev_aload_n 107 rfl dX11_readOrder_106 rfl rfl ?_
    refine ev_getR (ki := 46) (v := 102) 110 rfl dX11_readOrder_107 lf_11_99 (s_78 hst) (by decide) rfl (p_78_46 hst) ?_
    refine ev_iload_n 111 rfl dX11_readOrder_110 rfl rfl ?_
    refine ev_iconst 112 rfl dX11_readOrder_111 (by decide) ?_
    obtain ⟨b6, H⟩ := H
    refine ev_iastore 113 rfl dX11_readOrder_112 (s_102 hst) b6.1 b6.2 ?_
    obtain ⟨h7, eh7⟩ : ∃ z : qM, z = qup h5 102 (h 78 32) 0 := ⟨_, rfl⟩
    rw [← eh7]
    have H := H h7 eh7
    refine ev_aload_n 114 rfl dX11_readOrder_113 rfl rfl ?_
    refine ev_getR (ki := 47) (v := 103) 117 rfl dX11_readOrder_114 lf_11_102 (s_78 hst) (by decide) rfl (p_78_47 hst) ?_
    refine ev_iload_n 118 rfl dX11_readOrder_117 rfl rfl ?_
    refine ev_iconst 119 rfl dX11_readOrder_118 (by decide) ?_
    obtain ⟨b8, H⟩ := H
    refine ev_iastore 120 rfl dX11_readOrder_119 (s_103 hst) b8.1 b8.2 ?_
    obtain ⟨h9, eh9⟩ : ∃ z : qM, z = qup h7 103 (h 78 32) 0 := ⟨_, rfl⟩
    rw [← eh9]
    have H := H h9 eh9
    refine ev_aload_n 121 rfl dX11_readOrder_120 rfl rfl ?_
    refine ev_cVV (As := []) (rest := []) 124 rfl dX11_readOrder_121 lm_11_324 mm_X11_next (s_78 hst) rfl rfl (Nat.le_of_ble_eq_true rfl) (Nat.le_of_ble_eq_true rfl) (Nat.le_refl _) H ?_
    intro h10 H
    refine ev_iload_n 125 rfl dX11_readOrder_124 rfl rfl ?_
    refine ev_bipush 127 rfl dX11_readOrder_125 (by decide) (by decide) ?_
    refine ev_icmp_ne (tgt := 189) 130 rfl dX11_readOrder_127 (by decide) (fun cd => ?_) (fun cd => ?_)
    · have H := H.1 cd
      refine ev_iload_n 190 rfl dX11_readOrder_189 rfl rfl ?_
      refine ev_bipush 192 rfl dX11_readOrder_190 (by decide) (by decide) ?_
      refine ev_icmp_ne (tgt := 287) 195 rfl dX11_readOrder_192 (by decide) (fun cd => ?_) (fun cd => ?_)
      · have H := H.1 cd
        refine ev_iload_n 288 rfl dX11_readOrder_287 rfl rfl ?_
        refine ev_bipush 290 rfl dX11_readOrder_288 (by decide) (by decide) ?_
        refine ev_icmp_ne (tgt := 329) 293 rfl dX11_readOrder_290 (by decide) (fun cd => ?_) (fun cd => ?_)
        · have H := H.1 cd
          refine ev_iload_n 330 rfl dX11_readOrder_329 rfl rfl ?_
          refine ev_bipush 332 rfl dX11_readOrder_330 (by decide) (by decide) ?_
          refine ev_icmp_eq (tgt := 341) 335 rfl dX11_readOrder_332 (by decide) (fun cd => ?_) (fun cd => ?_)
          · have H := H.1 cd
            refine Ev.drop [1, 2] rfl ?_
            exact H
          · have H := H.2 cd
            refine ev_iload_n 336 rfl dX11_readOrder_335 rfl rfl ?_
            refine ev_bipush 338 rfl dX11_readOrder_336 (by decide) (by decide) ?_
            refine ev_icmp_ne (tgt := 369) 341 rfl dX11_readOrder_338 (by decide) (fun cd => ?_) (fun cd => ?_)
            · have H := H.1 cd
              refine ev_aload_n 370 rfl dX11_readOrder_369 rfl rfl ?_
              refine ev_getR (ki := 45) (v := 101) 373 rfl dX11_readOrder_370 lf_11_96 (s_78 hst) (by decide) rfl (p_78_45 hst) ?_
              refine ev_iload_n 374 rfl dX11_readOrder_373 rfl rfl ?_
              refine ev_aload_n 375 rfl dX11_readOrder_374 rfl rfl ?_
              refine ev_iconst 376 rfl dX11_readOrder_375 (by decide) ?_
              refine ev_iload_n 377 rfl dX11_readOrder_376 rfl rfl ?_
              refine ev_iconst 378 rfl dX11_readOrder_377 (by decide) ?_
              refine ev_icmp_ne (tgt := 386) 381 rfl dX11_readOrder_378 (by decide) (fun cd => ?_) (fun cd => ?_)
              · have H := H.1 cd
                refine ev_bipush 388 rfl dX11_readOrder_386 (by decide) (by decide) ?_
                refine ev_cVI (As := [(0, 1), (0, 99)]) (rest := [(0, (h 78 32)), (2, 101)]) 391 rfl dX11_readOrder_388 lm_11_337 mm_X11_count (s_78 hst) rfl rfl (Nat.le_of_ble_eq_true rfl) (Nat.le_of_ble_eq_true rfl) (Nat.le_refl _) H ?_
                intro r12 h11 H
                obtain ⟨b13, H⟩ := H
                refine ev_iastore 392 rfl dX11_readOrder_391 (s_101 hst) b13.1 b13.2 ?_
                obtain ⟨h14, eh14⟩ : ∃ z : qM, z = qup h11 101 (h 78 32) r12 := ⟨_, rfl⟩
                rw [← eh14]
                have H := H h14 eh14
                refine ev_aload_n 393 rfl dX11_readOrder_392 rfl rfl ?_
                refine ev_getR (ki := 49) (v := 105) 396 rfl dX11_readOrder_393 lf_11_108 (s_78 hst) (by decide) rfl (p_78_49 hst) ?_
                refine ev_iload_n 397 rfl dX11_readOrder_396 rfl rfl ?_
                refine ev_aload_n 398 rfl dX11_readOrder_397 rfl rfl ?_
                refine ev_getI (ki := 32) 401 rfl dX11_readOrder_398 lf_11_344 (Or.inl rfl) (s_78 hst) (by decide) rfl ?_
                obtain ⟨b15, H⟩ := H
                refine ev_iastore 402 rfl dX11_readOrder_401 (s_105 hst) b15.1 b15.2 ?_
                obtain ⟨h16, eh16⟩ : ∃ z : qM, z = qup h14 105 (h 78 32) (h14 78 32) := ⟨_, rfl⟩
                rw [← eh16]
                have H := H h16 eh16
                exact ev_retV dX11_readOrder_402 rfl H
              · have H := H.2 cd
                refine ev_bipush 383 rfl dX11_readOrder_381 (by decide) (by decide) ?_
                refine ev_goto (tgt := 388) dX11_readOrder_383 (by decide) ?_
                refine ev_cVI (As := [(0, 1), (0, 7)]) (rest := [(0, (h 78 32)), (2, 101)]) 391 rfl dX11_readOrder_388 lm_11_337 mm_X11_count (s_78 hst) rfl rfl (Nat.le_of_ble_eq_true rfl) (Nat.le_of_ble_eq_true rfl) (Nat.le_refl _) H ?_
                intro r18 h17 H
                obtain ⟨b19, H⟩ := H
                refine ev_iastore 392 rfl dX11_readOrder_391 (s_101 hst) b19.1 b19.2 ?_
                obtain ⟨h20, eh20⟩ : ∃ z : qM, z = qup h17 101 (h 78 32) r18 := ⟨_, rfl⟩
                rw [← eh20]
                have H := H h20 eh20
                refine ev_aload_n 393 rfl dX11_readOrder_392 rfl rfl ?_
                refine ev_getR (ki := 49) (v := 105) 396 rfl dX11_readOrder_393 lf_11_108 (s_78 hst) (by decide) rfl (p_78_49 hst) ?_
                refine ev_iload_n 397 rfl dX11_readOrder_396 rfl rfl ?_
                refine ev_aload_n 398 rfl dX11_readOrder_397 rfl rfl ?_
                refine ev_getI (ki := 32) 401 rfl dX11_readOrder_398 lf_11_344 (Or.inl rfl) (s_78 hst) (by decide) rfl ?_
                obtain ⟨b21, H⟩ := H
                refine ev_iastore 402 rfl dX11_readOrder_401 (s_105 hst) b21.1 b21.2 ?_
                obtain ⟨h22, eh22⟩ : ∃ z : qM, z = qup h20 105 (h 78 32) (h20 78 32) := ⟨_, rfl⟩
                rw [← eh22]
                have H := H h22 eh22
                exact ev_retV dX11_readOrder_402 rfl H
            · have H := H.2 cd
              refine Ev.drop [1, 2] rfl ?_
              exact H
        · have H := H.2 cd
          refine ev_aload_n 294 rfl dX11_readOrder_293 rfl rfl ?_
          refine ev_getR (ki := 46) (v := 102) 297 rfl dX11_readOrder_294 lf_11_99 (s_78 hst) (by decide) rfl (p_78_46 hst) ?_
          refine ev_iload_n 298 rfl dX11_readOrder_297 rfl rfl ?_
          refine ev_aload_n 299 rfl dX11_readOrder_298 rfl rfl ?_
          refine ev_cVI (As := []) (rest := [(0, (h 78 32)), (2, 102)]) 302 rfl dX11_readOrder_299 lm_11_354 mm_X11_readWhole (s_78 hst) rfl rfl (Nat.le_of_ble_eq_true rfl) (Nat.le_of_ble_eq_true rfl) (Nat.le_refl _) H ?_
          intro r24 h23 H
          obtain ⟨b25, H⟩ := H
          refine ev_iastore 303 rfl dX11_readOrder_302 (s_102 hst) b25.1 b25.2 ?_
          obtain ⟨h26, eh26⟩ : ∃ z : qM, z = qup h23 102 (h 78 32) r24 := ⟨_, rfl⟩
          rw [← eh26]
          have H := H h26 eh26
          refine ev_aload_n 304 rfl dX11_readOrder_303 rfl rfl ?_
          refine ev_getR (ki := 47) (v := 103) 307 rfl dX11_readOrder_304 lf_11_102 (s_78 hst) (by decide) rfl (p_78_47 hst) ?_
          refine ev_iload_n 308 rfl dX11_readOrder_307 rfl rfl ?_
          refine ev_aload_n 309 rfl dX11_readOrder_308 rfl rfl ?_
          refine ev_cVI (As := []) (rest := [(0, (h 78 32)), (2, 103)]) 312 rfl dX11_readOrder_309 lm_11_354 mm_X11_readWhole (s_78 hst) rfl rfl (Nat.le_of_ble_eq_true rfl) (Nat.le_of_ble_eq_true rfl) (Nat.le_refl _) H ?_
          intro r28 h27 H
          obtain ⟨b29, H⟩ := H
          refine ev_iastore 313 rfl dX11_readOrder_312 (s_103 hst) b29.1 b29.2 ?_
          obtain ⟨h30, eh30⟩ : ∃ z : qM, z = qup h27 103 (h 78 32) r28 := ⟨_, rfl⟩
          rw [← eh30]
          have H := H h30 eh30
          refine ev_aload_n 314 rfl dX11_readOrder_313 rfl rfl ?_
          refine ev_getR (ki := 45) (v := 101) 317 rfl dX11_readOrder_314 lf_11_96 (s_78 hst) (by decide) rfl (p_78_45 hst) ?_
          refine ev_iload_n 318 rfl dX11_readOrder_317 rfl rfl ?_
          refine ev_aload_n 319 rfl dX11_readOrder_318 rfl rfl ?_
          refine ev_iconst 320 rfl dX11_readOrder_319 (by decide) ?_
          refine ev_bipush 322 rfl dX11_readOrder_320 (by decide) (by decide) ?_
          refine ev_cVI (As := [(0, 1), (0, 99)]) (rest := [(0, (h 78 32)), (2, 101)]) 325 rfl dX11_readOrder_322 lm_11_337 mm_X11_count (s_78 hst) rfl rfl (Nat.le_of_ble_eq_true rfl) (Nat.le_of_ble_eq_true rfl) (Nat.le_refl _) H ?_
          intro r32 h31 H
          obtain ⟨b33, H⟩ := H
          refine ev_iastore 326 rfl dX11_readOrder_325 (s_101 hst) b33.1 b33.2 ?_
          obtain ⟨h34, eh34⟩ : ∃ z : qM, z = qup h31 101 (h 78 32) r32 := ⟨_, rfl⟩
          rw [← eh34]
          have H := H h34 eh34
          refine ev_goto (tgt := 392) dX11_readOrder_326 (by decide) ?_
          refine ev_aload_n 393 rfl dX11_readOrder_392 rfl rfl ?_
          refine ev_getR (ki := 49) (v := 105) 396 rfl dX11_readOrder_393 lf_11_108 (s_78 hst) (by decide) rfl (p_78_49 hst) ?_
          refine ev_iload_n 397 rfl dX11_readOrder_396 rfl rfl ?_
          refine ev_aload_n 398 rfl dX11_readOrder_397 rfl rfl ?_
          refine ev_getI (ki := 32) 401 rfl dX11_readOrder_398 lf_11_344 (Or.inl rfl) (s_78 hst) (by decide) rfl ?_
          obtain ⟨b35, H⟩ := H
          refine ev_iastore 402 rfl dX11_readOrder_401 (s_105 hst) b35.1 b35.2 ?_
          obtain ⟨h36, eh36⟩ : ∃ z : qM, z = qup h34 105 (h 78 32) (h34 78 32) := ⟨_, rfl⟩
          rw [← eh36]
          have H := H h36 eh36
          exact ev_retV dX11_readOrder_402 rfl H
      · have H := H.2 cd
        refine ev_aload_n 196 rfl dX11_readOrder_195 rfl rfl ?_
        refine ev_bipush 198 rfl dX11_readOrder_196 (by decide) (by decide) ?_
        refine ev_bipush 200 rfl dX11_readOrder_198 (by decide) (by decide) ?_
        refine ev_bipush 202 rfl dX11_readOrder_200 (by decide) (by decide) ?_
        refine ev_bipush 204 rfl dX11_readOrder_202 (by decide) (by decide) ?_
        refine ev_iconst 205 rfl dX11_readOrder_204 (by decide) ?_
        refine ev_iconst 206 rfl dX11_readOrder_205 (by decide) ?_
        refine ev_cSL (As := [(0, 108), (0, 101), (0, 102), (0, 116), (0, 0), (0, 0)]) (rest := [(2, 78)]) 209 rfl dX11_readOrder_206 lm_11_330 mm_X11_spelled rfl rfl (Nat.le_of_ble_eq_true rfl) (Nat.le_of_ble_eq_true rfl) (Nat.le_refl _) H ?_
        intro r38 h37 H
        refine ev_cVI (As := [(1, r38)]) (rest := []) 212 rfl dX11_readOrder_209 lm_11_334 mm_X11_isWord (s_78 hst) rfl rfl (Nat.le_of_ble_eq_true rfl) (Nat.le_of_ble_eq_true rfl) (Nat.le_refl _) H ?_
        intro r40 h39 H
        refine ev_istore (L1 := [(2, 78), (0, v1), (0, v2), (0, (h 78 32)), (0, r40)]) 214 rfl dX11_readOrder_212 (Nat.le_of_ble_eq_true rfl) rfl ?_
        refine ev_iload 216 rfl dX11_readOrder_214 rfl ?_
        refine ev_if_ne (tgt := 244) 219 rfl dX11_readOrder_216 (by decide) (fun cd => ?_) (fun cd => ?_)
        · have H := H.1 cd
          refine Ev.drop [1, 2] rfl ?_
          exact H
        · have H := H.2 cd
          refine ev_aload_n 220 rfl dX11_readOrder_219 rfl rfl ?_
          refine ev_bipush 222 rfl dX11_readOrder_220 (by decide) (by decide) ?_
          refine ev_bipush 224 rfl dX11_readOrder_222 (by decide) (by decide) ?_
          refine ev_bipush 226 rfl dX11_readOrder_224 (by decide) (by decide) ?_
          refine ev_bipush 228 rfl dX11_readOrder_226 (by decide) (by decide) ?_
          refine ev_bipush 230 rfl dX11_readOrder_228 (by decide) (by decide) ?_
          refine ev_iconst 231 rfl dX11_readOrder_230 (by decide) ?_
          refine ev_cSL (As := [(0, 114), (0, 105), (0, 103), (0, 104), (0, 116), (0, 0)]) (rest := [(2, 78)]) 234 rfl dX11_readOrder_231 lm_11_330 mm_X11_spelled rfl rfl (Nat.le_of_ble_eq_true rfl) (Nat.le_of_ble_eq_true rfl) (Nat.le_refl _) H ?_
          intro r42 h41 H
          refine ev_cVI (As := [(1, r42)]) (rest := []) 237 rfl dX11_readOrder_234 lm_11_334 mm_X11_isWord (s_78 hst) rfl rfl (Nat.le_of_ble_eq_true rfl) (Nat.le_of_ble_eq_true rfl) (Nat.le_refl _) H ?_
          intro r44 h43 H
          refine ev_if_ne (tgt := 244) 240 rfl dX11_readOrder_237 (by decide) (fun cd => ?_) (fun cd => ?_)
          · have H := H.1 cd
            refine Ev.drop [1, 2] rfl ?_
            exact H
          · have H := H.2 cd
            refine ev_aload_n 241 rfl dX11_readOrder_240 rfl rfl ?_
            refine ev_cVV (As := []) (rest := []) 244 rfl dX11_readOrder_241 lm_11_327 mm_X11_wrong (s_78 hst) rfl rfl (Nat.le_of_ble_eq_true rfl) (Nat.le_of_ble_eq_true rfl) (Nat.le_refl _) H ?_
            intro h45 H
            refine Ev.drop [1, 2] rfl ?_
            exact H
    · have H := H.2 cd
      refine ev_aload_n 131 rfl dX11_readOrder_130 rfl rfl ?_
      refine ev_getR (ki := 45) (v := 101) 134 rfl dX11_readOrder_131 lf_11_96 (s_78 hst) (by decide) rfl (p_78_45 hst) ?_
      refine ev_iload_n 135 rfl dX11_readOrder_134 rfl rfl ?_
      refine ev_aload_n 136 rfl dX11_readOrder_135 rfl rfl ?_
      refine ev_iconst 137 rfl dX11_readOrder_136 (by decide) ?_
      refine ev_bipush 139 rfl dX11_readOrder_137 (by decide) (by decide) ?_
      refine ev_cVI (As := [(0, 2), (0, 20)]) (rest := [(0, (h 78 32)), (2, 101)]) 142 rfl dX11_readOrder_139 lm_11_337 mm_X11_count (s_78 hst) rfl rfl (Nat.le_of_ble_eq_true rfl) (Nat.le_of_ble_eq_true rfl) (Nat.le_refl _) H ?_
      intro r47 h46 H
      obtain ⟨b48, H⟩ := H
      refine ev_iastore 143 rfl dX11_readOrder_142 (s_101 hst) b48.1 b48.2 ?_
      obtain ⟨h49, eh49⟩ : ∃ z : qM, z = qup h46 101 (h 78 32) r47 := ⟨_, rfl⟩
      rw [← eh49]
      have H := H h49 eh49
      refine ev_aload_n 144 rfl dX11_readOrder_143 rfl rfl ?_
      refine ev_bipush 146 rfl dX11_readOrder_144 (by decide) (by decide) ?_
      refine ev_cVV (As := [(0, 123)]) (rest := []) 149 rfl dX11_readOrder_146 lm_11_347 mm_X11_sign (s_78 hst) rfl rfl (Nat.le_of_ble_eq_true rfl) (Nat.le_of_ble_eq_true rfl) (Nat.le_refl _) H ?_
      intro h50 H
      refine Ev.drop [2] rfl ?_
      exact H
  · have H := H.2 cd
    exact ev_retV dX11_readOrder_73 rfl H

set_option maxRecDepth 20000 in
theorem b_X11_readOrder_341 {X : qX} {d : Nat} {sh : qS} {pt h : qM} {K : qM → Prop} {v3 : Int} (hst : St sh pt)
    (H : RunI X d mX11_count [(2, 78), (0, 2), (0, 5)] sh pt h (fun r2 h1 => (0 ≤ v3 ∧ v3 < 60) ∧ ∀ h4 : qM, h4 = qup h1 102 v3 r2 → RunI X d mX11_count [(2, 78), (0, 1), (0, 99)] sh pt h4 (fun r6 h5 => (0 ≤ v3 ∧ v3 < 60) ∧ ∀ h8 : qM, h8 = qup h5 101 v3 r6 → (0 ≤ v3 ∧ v3 < 60) ∧ ∀ h10 : qM, h10 = qup h8 105 v3 (h8 78 32) → K h10))) :
    EvV X (d + 1) mX11_readOrder 341 [(2, 78), (8, -1), (8, -1), (0, v3), (8, -1)] [] sh pt h K := by
  show Ev X (d + 1) 0 0 mX11_readOrder 341 [(2, 78), (8, -1), (8, -1), (0, v3), (8, -1)] [] (sh, pt, h) (qRV sh pt K)
  refine ev_aload_n 342 rfl dX11_readOrder_341 rfl rfl ?_
  refine ev_getR (ki := 46) (v := 102) 345 rfl dX11_readOrder_342 lf_11_99 (s_78 hst) (by decide) rfl (p_78_46 hst) ?_
  refine ev_iload_n 346 rfl dX11_readOrder_345 rfl rfl ?_
  refine ev_aload_n 347 rfl dX11_readOrder_346 rfl rfl ?_
  refine ev_iconst 348 rfl dX11_readOrder_347 (by decide) ?_
  refine ev_iconst 349 rfl dX11_readOrder_348 (by decide) ?_
  refine ev_cVI (As := [(0, 2), (0, 5)]) (rest := [(0, v3), (2, 102)]) 352 rfl dX11_readOrder_349 lm_11_337 mm_X11_count (s_78 hst) rfl rfl (Nat.le_of_ble_eq_true rfl) (Nat.le_of_ble_eq_true rfl) (Nat.le_refl _) H ?_
  intro r2 h1 H
  obtain ⟨b3, H⟩ := H
  refine ev_iastore 353 rfl dX11_readOrder_352 (s_102 hst) b3.1 b3.2 ?_
  obtain ⟨h4, eh4⟩ : ∃ z : qM, z = qup h1 102 v3 r2 := ⟨_, rfl⟩
  rw [← eh4]
  have H := H h4 eh4
  refine ev_aload_n 354 rfl dX11_readOrder_353 rfl rfl ?_
  refine ev_getR (ki := 45) (v := 101) 357 rfl dX11_readOrder_354 lf_11_96 (s_78 hst) (by decide) rfl (p_78_45 hst) ?_
  refine ev_iload_n 358 rfl dX11_readOrder_357 rfl rfl ?_
  refine ev_aload_n 359 rfl dX11_readOrder_358 rfl rfl ?_
  refine ev_iconst 360 rfl dX11_readOrder_359 (by decide) ?_
  refine ev_bipush 362 rfl dX11_readOrder_360 (by decide) (by decide) ?_
  refine ev_cVI (As := [(0, 1), (0, 99)]) (rest := [(0, v3), (2, 101)]) 365 rfl dX11_readOrder_362 lm_11_337 mm_X11_count (s_78 hst) rfl rfl (Nat.le_of_ble_eq_true rfl) (Nat.le_of_ble_eq_true rfl) (Nat.le_refl _) H ?_
  intro r6 h5 H
  obtain ⟨b7, H⟩ := H
  refine ev_iastore 366 rfl dX11_readOrder_365 (s_101 hst) b7.1 b7.2 ?_
  obtain ⟨h8, eh8⟩ : ∃ z : qM, z = qup h5 101 v3 r6 := ⟨_, rfl⟩
  rw [← eh8]
  have H := H h8 eh8
  refine ev_goto (tgt := 392) dX11_readOrder_366 (by decide) ?_
  refine ev_aload_n 393 rfl dX11_readOrder_392 rfl rfl ?_
  refine ev_getR (ki := 49) (v := 105) 396 rfl dX11_readOrder_393 lf_11_108 (s_78 hst) (by decide) rfl (p_78_49 hst) ?_
  refine ev_iload_n 397 rfl dX11_readOrder_396 rfl rfl ?_
  refine ev_aload_n 398 rfl dX11_readOrder_397 rfl rfl ?_
  refine ev_getI (ki := 32) 401 rfl dX11_readOrder_398 lf_11_344 (Or.inl rfl) (s_78 hst) (by decide) rfl ?_
  obtain ⟨b9, H⟩ := H
  refine ev_iastore 402 rfl dX11_readOrder_401 (s_105 hst) b9.1 b9.2 ?_
  obtain ⟨h10, eh10⟩ : ∃ z : qM, z = qup h8 105 v3 (h8 78 32) := ⟨_, rfl⟩
  rw [← eh10]
  have H := H h10 eh10
  exact ev_retV dX11_readOrder_402 rfl H

set_option maxRecDepth 20000 in
theorem b_X11_readOrder_244 {X : qX} {d : Nat} {sh : qS} {pt h : qM} {K : qM → Prop} {v3 v4 : Int} (hst : St sh pt)
    (H : ((¬ (h 78 22) = 0 → ((v4 = 0 → EvV X (d + 1) mX11_readOrder 270 [(2, 78), (8, -1), (8, -1), (0, v3), (8, -1)] [(0, 1), (0, v3), (2, 102)] sh pt h K) ∧ (¬ v4 = 0 → EvV X (d + 1) mX11_readOrder 270 [(2, 78), (8, -1), (8, -1), (0, v3), (8, -1)] [(0, (-1)), (0, v3), (2, 102)] sh pt h K))) ∧ ((h 78 22) = 0 → RunV X d mX11_next [(2, 78)] sh pt h (fun h1 => ((v4 = 0 → EvV X (d + 1) mX11_readOrder 270 [(2, 78), (8, -1), (8, -1), (0, v3), (8, -1)] [(0, 1), (0, v3), (2, 102)] sh pt h1 K) ∧ (¬ v4 = 0 → EvV X (d + 1) mX11_readOrder 270 [(2, 78), (8, -1), (8, -1), (0, v3), (8, -1)] [(0, (-1)), (0, v3), (2, 102)] sh pt h1 K)))))) :
    EvV X (d + 1) mX11_readOrder 244 [(2, 78), (8, -1), (8, -1), (0, v3), (0, v4)] [] sh pt h K := by
  show Ev X (d + 1) 0 0 mX11_readOrder 244 [(2, 78), (8, -1), (8, -1), (0, v3), (0, v4)] [] (sh, pt, h) (qRV sh pt K)
  refine ev_aload_n 245 rfl dX11_readOrder_244 rfl rfl ?_
  refine ev_getI (ki := 22) 248 rfl dX11_readOrder_245 lf_11_311 (Or.inl rfl) (s_78 hst) (by decide) rfl ?_
  refine ev_if_ne (tgt := 255) 251 rfl dX11_readOrder_248 (by decide) (fun cd => ?_) (fun cd => ?_)
  · have H := H.1 cd
    refine ev_aload_n 256 rfl dX11_readOrder_255 rfl rfl ?_
    refine ev_getR (ki := 46) (v := 102) 259 rfl dX11_readOrder_256 lf_11_99 (s_78 hst) (by decide) rfl (p_78_46 hst) ?_
    refine ev_iload_n 260 rfl dX11_readOrder_259 rfl rfl ?_
    refine ev_iload 262 rfl dX11_readOrder_260 rfl ?_
    refine ev_if_eq (tgt := 269) 265 rfl dX11_readOrder_262 (by decide) (fun cd => ?_) (fun cd => ?_)
    · have H := H.1 cd
      refine ev_iconst 270 rfl dX11_readOrder_269 (by decide) ?_
      refine Ev.drop [4] rfl ?_
      exact H
    · have H := H.2 cd
      refine ev_iconst 266 rfl dX11_readOrder_265 (by decide) ?_
      refine ev_goto (tgt := 270) dX11_readOrder_266 (by decide) ?_
      refine Ev.drop [4] rfl ?_
      exact H
  · have H := H.2 cd
    refine ev_aload_n 252 rfl dX11_readOrder_251 rfl rfl ?_
    refine ev_cVV (As := []) (rest := []) 255 rfl dX11_readOrder_252 lm_11_324 mm_X11_next (s_78 hst) rfl rfl (Nat.le_of_ble_eq_true rfl) (Nat.le_of_ble_eq_true rfl) (Nat.le_refl _) H ?_
    intro h1 H
    refine ev_aload_n 256 rfl dX11_readOrder_255 rfl rfl ?_
    refine ev_getR (ki := 46) (v := 102) 259 rfl dX11_readOrder_256 lf_11_99 (s_78 hst) (by decide) rfl (p_78_46 hst) ?_
    refine ev_iload_n 260 rfl dX11_readOrder_259 rfl rfl ?_
    refine ev_iload 262 rfl dX11_readOrder_260 rfl ?_
    refine ev_if_eq (tgt := 269) 265 rfl dX11_readOrder_262 (by decide) (fun cd => ?_) (fun cd => ?_)
    · have H := H.1 cd
      refine ev_iconst 270 rfl dX11_readOrder_269 (by decide) ?_
      refine Ev.drop [4] rfl ?_
      exact H
    · have H := H.2 cd
      refine ev_iconst 266 rfl dX11_readOrder_265 (by decide) ?_
      refine ev_goto (tgt := 270) dX11_readOrder_266 (by decide) ?_
      refine Ev.drop [4] rfl ?_
      exact H

set_option maxRecDepth 20000 in
theorem b_X11_readOrder_149 {X : qX} {d : Nat} {sh : qS} {pt h : qM} {K : qM → Prop} {v1 v3 : Int} (hst : St sh pt)
    (H : ((¬ (h 78 22) = 0 → EvV X (d + 1) mX11_readOrder 175 [(2, 78), (8, -1), (8, -1), (0, v3), (8, -1)] [] sh pt h K) ∧ ((h 78 22) = 0 → RunI X d mX11_isSign [(2, 78), (0, 125)] sh pt h (fun r2 h1 => ((¬ r2 = 0 → EvV X (d + 1) mX11_readOrder 175 [(2, 78), (8, -1), (8, -1), (0, v3), (8, -1)] [] sh pt h1 K) ∧ (r2 = 0 → (qI (v1 + 1)) ∧ RunV X d mX11_readOrder [(2, 78), (0, (v1 + 1))] sh pt h1 (fun h3 => EvV X (d + 1) mX11_readOrder 149 [(2, 78), (0, v1), (8, -1), (0, v3), (8, -1)] [] sh pt h3 K))))))) :
    EvV X (d + 1) mX11_readOrder 149 [(2, 78), (0, v1), (8, -1), (0, v3), (8, -1)] [] sh pt h K := by
  show Ev X (d + 1) 0 0 mX11_readOrder 149 [(2, 78), (0, v1), (8, -1), (0, v3), (8, -1)] [] (sh, pt, h) (qRV sh pt K)
  refine ev_aload_n 150 rfl dX11_readOrder_149 rfl rfl ?_
  refine ev_getI (ki := 22) 153 rfl dX11_readOrder_150 lf_11_311 (Or.inl rfl) (s_78 hst) (by decide) rfl ?_
  refine ev_if_ne (tgt := 175) 156 rfl dX11_readOrder_153 (by decide) (fun cd => ?_) (fun cd => ?_)
  · have H := H.1 cd
    refine Ev.drop [1] rfl ?_
    exact H
  · have H := H.2 cd
    refine ev_aload_n 157 rfl dX11_readOrder_156 rfl rfl ?_
    refine ev_bipush 159 rfl dX11_readOrder_157 (by decide) (by decide) ?_
    refine ev_cVI (As := [(0, 125)]) (rest := []) 162 rfl dX11_readOrder_159 lm_11_321 mm_X11_isSign (s_78 hst) rfl rfl (Nat.le_of_ble_eq_true rfl) (Nat.le_of_ble_eq_true rfl) (Nat.le_refl _) H ?_
    intro r2 h1 H
    refine ev_if_ne (tgt := 175) 165 rfl dX11_readOrder_162 (by decide) (fun cd => ?_) (fun cd => ?_)
    · have H := H.1 cd
      refine Ev.drop [1] rfl ?_
      exact H
    · have H := H.2 cd
      refine ev_aload_n 166 rfl dX11_readOrder_165 rfl rfl ?_
      refine ev_iload_n 167 rfl dX11_readOrder_166 rfl rfl ?_
      refine ev_iconst 168 rfl dX11_readOrder_167 (by decide) ?_
      obtain ⟨sd, H⟩ := H
      refine ev_iadd 169 rfl dX11_readOrder_168 sd ?_
      refine ev_cVV (As := [(0, (v1 + 1))]) (rest := []) 172 rfl dX11_readOrder_169 lm_11_351 mm_X11_readOrder (s_78 hst) rfl rfl (Nat.le_of_ble_eq_true rfl) (Nat.le_of_ble_eq_true rfl) (Nat.le_refl _) H ?_
      intro h3 H
      refine ev_goto (tgt := 149) dX11_readOrder_172 (by decide) ?_
      exact H

set_option maxRecDepth 20000 in
theorem b_X11_readOrder_270 {X : qX} {d : Nat} {sh : qS} {pt h : qM} {K : qM → Prop} {v3 u0 u1 : Int} (hst : St sh pt)
    (H : (0 ≤ u1 ∧ u1 < 60) ∧ ∀ h2 : qM, h2 = qup h 102 u1 u0 → RunI X d mX11_count [(2, 78), (0, 1), (0, 99)] sh pt h2 (fun r4 h3 => (0 ≤ v3 ∧ v3 < 60) ∧ ∀ h6 : qM, h6 = qup h3 101 v3 r4 → (0 ≤ v3 ∧ v3 < 60) ∧ ∀ h8 : qM, h8 = qup h6 105 v3 (h6 78 32) → K h8)) :
    EvV X (d + 1) mX11_readOrder 270 [(2, 78), (8, -1), (8, -1), (0, v3), (8, -1)] [(0, u0), (0, u1), (2, 102)] sh pt h K := by
  show Ev X (d + 1) 0 0 mX11_readOrder 270 [(2, 78), (8, -1), (8, -1), (0, v3), (8, -1)] [(0, u0), (0, u1), (2, 102)] (sh, pt, h) (qRV sh pt K)
  obtain ⟨b1, H⟩ := H
  refine ev_iastore 271 rfl dX11_readOrder_270 (s_102 hst) b1.1 b1.2 ?_
  obtain ⟨h2, eh2⟩ : ∃ z : qM, z = qup h 102 u1 u0 := ⟨_, rfl⟩
  rw [← eh2]
  have H := H h2 eh2
  refine ev_aload_n 272 rfl dX11_readOrder_271 rfl rfl ?_
  refine ev_getR (ki := 45) (v := 101) 275 rfl dX11_readOrder_272 lf_11_96 (s_78 hst) (by decide) rfl (p_78_45 hst) ?_
  refine ev_iload_n 276 rfl dX11_readOrder_275 rfl rfl ?_
  refine ev_aload_n 277 rfl dX11_readOrder_276 rfl rfl ?_
  refine ev_iconst 278 rfl dX11_readOrder_277 (by decide) ?_
  refine ev_bipush 280 rfl dX11_readOrder_278 (by decide) (by decide) ?_
  refine ev_cVI (As := [(0, 1), (0, 99)]) (rest := [(0, v3), (2, 101)]) 283 rfl dX11_readOrder_280 lm_11_337 mm_X11_count (s_78 hst) rfl rfl (Nat.le_of_ble_eq_true rfl) (Nat.le_of_ble_eq_true rfl) (Nat.le_refl _) H ?_
  intro r4 h3 H
  obtain ⟨b5, H⟩ := H
  refine ev_iastore 284 rfl dX11_readOrder_283 (s_101 hst) b5.1 b5.2 ?_
  obtain ⟨h6, eh6⟩ : ∃ z : qM, z = qup h3 101 v3 r4 := ⟨_, rfl⟩
  rw [← eh6]
  have H := H h6 eh6
  refine ev_goto (tgt := 392) dX11_readOrder_284 (by decide) ?_
  refine ev_aload_n 393 rfl dX11_readOrder_392 rfl rfl ?_
  refine ev_getR (ki := 49) (v := 105) 396 rfl dX11_readOrder_393 lf_11_108 (s_78 hst) (by decide) rfl (p_78_49 hst) ?_
  refine ev_iload_n 397 rfl dX11_readOrder_396 rfl rfl ?_
  refine ev_aload_n 398 rfl dX11_readOrder_397 rfl rfl ?_
  refine ev_getI (ki := 32) 401 rfl dX11_readOrder_398 lf_11_344 (Or.inl rfl) (s_78 hst) (by decide) rfl ?_
  obtain ⟨b7, H⟩ := H
  refine ev_iastore 402 rfl dX11_readOrder_401 (s_105 hst) b7.1 b7.2 ?_
  obtain ⟨h8, eh8⟩ : ∃ z : qM, z = qup h6 105 v3 (h6 78 32) := ⟨_, rfl⟩
  rw [← eh8]
  have H := H h8 eh8
  exact ev_retV dX11_readOrder_402 rfl H

set_option maxRecDepth 20000 in
theorem b_X11_readOrder_175 {X : qX} {d : Nat} {sh : qS} {pt h : qM} {K : qM → Prop} {v3 : Int} (hst : St sh pt)
    (H : ((¬ (h 78 22) = 0 → (0 ≤ v3 ∧ v3 < 60) ∧ ∀ h2 : qM, h2 = qup h 105 v3 (h 78 32) → K h2) ∧ ((h 78 22) = 0 → RunV X d mX11_next [(2, 78)] sh pt h (fun h3 => (0 ≤ v3 ∧ v3 < 60) ∧ ∀ h5 : qM, h5 = qup h3 105 v3 (h3 78 32) → K h5)))) :
    EvV X (d + 1) mX11_readOrder 175 [(2, 78), (8, -1), (8, -1), (0, v3), (8, -1)] [] sh pt h K := by
  show Ev X (d + 1) 0 0 mX11_readOrder 175 [(2, 78), (8, -1), (8, -1), (0, v3), (8, -1)] [] (sh, pt, h) (qRV sh pt K)
  refine ev_aload_n 176 rfl dX11_readOrder_175 rfl rfl ?_
  refine ev_getI (ki := 22) 179 rfl dX11_readOrder_176 lf_11_311 (Or.inl rfl) (s_78 hst) (by decide) rfl ?_
  refine ev_if_ne (tgt := 392) 182 rfl dX11_readOrder_179 (by decide) (fun cd => ?_) (fun cd => ?_)
  · have H := H.1 cd
    refine ev_aload_n 393 rfl dX11_readOrder_392 rfl rfl ?_
    refine ev_getR (ki := 49) (v := 105) 396 rfl dX11_readOrder_393 lf_11_108 (s_78 hst) (by decide) rfl (p_78_49 hst) ?_
    refine ev_iload_n 397 rfl dX11_readOrder_396 rfl rfl ?_
    refine ev_aload_n 398 rfl dX11_readOrder_397 rfl rfl ?_
    refine ev_getI (ki := 32) 401 rfl dX11_readOrder_398 lf_11_344 (Or.inl rfl) (s_78 hst) (by decide) rfl ?_
    obtain ⟨b1, H⟩ := H
    refine ev_iastore 402 rfl dX11_readOrder_401 (s_105 hst) b1.1 b1.2 ?_
    obtain ⟨h2, eh2⟩ : ∃ z : qM, z = qup h 105 v3 (h 78 32) := ⟨_, rfl⟩
    rw [← eh2]
    have H := H h2 eh2
    exact ev_retV dX11_readOrder_402 rfl H
  · have H := H.2 cd
    refine ev_aload_n 183 rfl dX11_readOrder_182 rfl rfl ?_
    refine ev_cVV (As := []) (rest := []) 186 rfl dX11_readOrder_183 lm_11_324 mm_X11_next (s_78 hst) rfl rfl (Nat.le_of_ble_eq_true rfl) (Nat.le_of_ble_eq_true rfl) (Nat.le_refl _) H ?_
    intro h3 H
    refine ev_goto (tgt := 392) dX11_readOrder_186 (by decide) ?_
    refine ev_aload_n 393 rfl dX11_readOrder_392 rfl rfl ?_
    refine ev_getR (ki := 49) (v := 105) 396 rfl dX11_readOrder_393 lf_11_108 (s_78 hst) (by decide) rfl (p_78_49 hst) ?_
    refine ev_iload_n 397 rfl dX11_readOrder_396 rfl rfl ?_
    refine ev_aload_n 398 rfl dX11_readOrder_397 rfl rfl ?_
    refine ev_getI (ki := 32) 401 rfl dX11_readOrder_398 lf_11_344 (Or.inl rfl) (s_78 hst) (by decide) rfl ?_
    obtain ⟨b4, H⟩ := H
    refine ev_iastore 402 rfl dX11_readOrder_401 (s_105 hst) b4.1 b4.2 ?_
    obtain ⟨h5, eh5⟩ : ∃ z : qM, z = qup h3 105 v3 (h3 78 32) := ⟨_, rfl⟩
    rw [← eh5]
    have H := H h5 eh5
    exact ev_retV dX11_readOrder_402 rfl H

set_option maxRecDepth 20000 in
theorem b_X11_readLine {X : qX} {d : Nat} {sh : qS} {pt h : qM} {K : qM → Prop} (hst : St sh pt)
    (H : (((h 78 24) = 1 → (((h 78 28) ≤ 8 → RunI X d mX11_groupOf [(2, 78), (1, (h 78 29))] sh pt h (fun r2 h1 => EvV X (d + 1) mX11_readLine 34 [(2, 78), (8, -1), (8, -1)] [(0, r2)] sh pt h1 K)) ∧ (8 < (h 78 28) → EvV X (d + 1) mX11_readLine 34 [(2, 78), (8, -1), (8, -1)] [(0, (-1))] sh pt h K))) ∧ (¬ (h 78 24) = 1 → RunV X d mX11_wrong [(2, 78)] sh pt h (fun h3 => K h3)))) :
    RunV X (d + 1) mX11_readLine [(2, 78)] sh pt h K := by
  show Ev X (d + 1) 0 0 mX11_readLine 0 [(2, 78), (8, -1), (8, -1)] [] (sh, pt, h) (qRV sh pt K)
  refine ev_aload_n 1 rfl dX11_readLine_0 rfl rfl ?_
  refine ev_getI (ki := 24) 4 rfl dX11_readLine_1 lf_11_291 (Or.inl rfl) (s_78 hst) (by decide) rfl ?_
  refine ev_iconst 5 rfl dX11_readLine_4 (by decide) ?_
  refine ev_icmp_eq (tgt := 13) 8 rfl dX11_readLine_5 (by decide) (fun cd => ?_) (fun cd => ?_)
  · have H := H.1 cd
    refine ev_aload_n 14 rfl dX11_readLine_13 rfl rfl ?_
    refine ev_getI (ki := 28) 17 rfl dX11_readLine_14 lf_11_302 (Or.inl rfl) (s_78 hst) (by decide) rfl ?_
    refine ev_bipush 19 rfl dX11_readLine_17 (by decide) (by decide) ?_
    refine ev_icmp_le (tgt := 26) 22 rfl dX11_readLine_19 (by decide) (fun cd => ?_) (fun cd => ?_)
    · have H := H.1 cd
      refine ev_aload_n 27 rfl dX11_readLine_26 rfl rfl ?_
      refine ev_aload_n 28 rfl dX11_readLine_27 rfl rfl ?_
      refine ev_getL (ki := 29) 31 rfl dX11_readLine_28 lf_11_297 (s_78 hst) (by decide) rfl ?_
      refine ev_cVI (As := [(1, (h 78 29))]) (rest := []) 34 rfl dX11_readLine_31 lm_11_273 mm_X11_groupOf (s_78 hst) rfl rfl (Nat.le_of_ble_eq_true rfl) (Nat.le_of_ble_eq_true rfl) (Nat.le_refl _) H ?_
      intro r2 h1 H
      exact H
    · have H := H.2 cd
      refine ev_iconst 23 rfl dX11_readLine_22 (by decide) ?_
      refine ev_goto (tgt := 34) dX11_readLine_23 (by decide) ?_
      exact H
  · have H := H.2 cd
    refine ev_aload_n 9 rfl dX11_readLine_8 rfl rfl ?_
    refine ev_cVV (As := []) (rest := []) 12 rfl dX11_readLine_9 lm_11_327 mm_X11_wrong (s_78 hst) rfl rfl (Nat.le_of_ble_eq_true rfl) (Nat.le_of_ble_eq_true rfl) (Nat.le_refl _) H ?_
    intro h3 H
    exact ev_retV dX11_readLine_12 rfl H

set_option maxRecDepth 20000 in
theorem b_X11_readLine_34 {X : qX} {d : Nat} {sh : qS} {pt h : qM} {K : qM → Prop} {u0 : Int} (hst : St sh pt)
    (H : ((0 ≤ u0 → EvV X (d + 1) mX11_readLine 50 [(2, 78), (0, u0), (0, 0)] [] sh pt h K) ∧ (u0 < 0 → RunV X d mX11_fail [(2, 78), (0, 3), (0, (h 78 25))] sh pt h (fun h1 => EvV X (d + 1) mX11_readLine 50 [(2, 78), (0, u0), (0, 0)] [] sh pt h1 K)))) :
    EvV X (d + 1) mX11_readLine 34 [(2, 78), (8, -1), (8, -1)] [(0, u0)] sh pt h K := by
  show Ev X (d + 1) 0 0 mX11_readLine 34 [(2, 78), (8, -1), (8, -1)] [(0, u0)] (sh, pt, h) (qRV sh pt K)
  refine ev_istore_n (L1 := [(2, 78), (0, u0), (8, -1)]) 35 rfl dX11_readLine_34 rfl (Nat.le_of_ble_eq_true rfl) rfl ?_
  refine ev_iload_n 36 rfl dX11_readLine_35 rfl rfl ?_
  refine ev_if_ge (tgt := 48) 39 rfl dX11_readLine_36 (by decide) (fun cd => ?_) (fun cd => ?_)
  · have H := H.1 cd
    refine ev_iconst 49 rfl dX11_readLine_48 (by decide) ?_
    refine ev_istore_n (L1 := [(2, 78), (0, u0), (0, 0)]) 50 rfl dX11_readLine_49 rfl (Nat.le_of_ble_eq_true rfl) rfl ?_
    exact H
  · have H := H.2 cd
    refine ev_aload_n 40 rfl dX11_readLine_39 rfl rfl ?_
    refine ev_iconst 41 rfl dX11_readLine_40 (by decide) ?_
    refine ev_aload_n 42 rfl dX11_readLine_41 rfl rfl ?_
    refine ev_getI (ki := 25) 45 rfl dX11_readLine_42 lf_11_285 (Or.inl rfl) (s_78 hst) (by decide) rfl ?_
    refine ev_cVV (As := [(0, 3), (0, (h 78 25))]) (rest := []) 48 rfl dX11_readLine_45 lm_11_317 mm_X11_fail (s_78 hst) rfl rfl (Nat.le_of_ble_eq_true rfl) (Nat.le_of_ble_eq_true rfl) (Nat.le_refl _) H ?_
    intro h1 H
    refine ev_iconst 49 rfl dX11_readLine_48 (by decide) ?_
    refine ev_istore_n (L1 := [(2, 78), (0, u0), (0, 0)]) 50 rfl dX11_readLine_49 rfl (Nat.le_of_ble_eq_true rfl) rfl ?_
    exact H

set_option maxRecDepth 20000 in
theorem b_X11_readLine_50 {X : qX} {d : Nat} {sh : qS} {pt h : qM} {K : qM → Prop} {v1 v2 : Int} (hst : St sh pt)
    (H : (((h 78 31) ≤ v2 → (((h 78 22) ≤ 0 → (0 ≤ (h 78 31) ∧ (h 78 31) < 8) ∧ ∀ h2 : qM, h2 = qup h 92 (h 78 31) v1 → (0 ≤ v1 ∧ v1 < 8) ∧ (0 ≤ (h2 78 31) ∧ (h2 78 31) < 8) ∧ ∀ h5 : qM, h5 = qup h2 91 (h2 78 31) (h2 85 v1) → RunV X d mX11_next [(2, 78)] sh pt h5 (fun h6 => RunV X d mX11_sign [(2, 78), (0, 58)] sh pt h6 (fun h7 => EvV X (d + 1) mX11_readLine 126 [(2, 78), (8, -1), (8, -1)] [] sh pt h7 K))) ∧ (0 < (h 78 22) → K h))) ∧ (v2 < (h 78 31) → (0 ≤ v2 ∧ v2 < 8) ∧ ((¬ (h 92 v2) = v1 → (qI (v2 + 1)) ∧ EvV X (d + 1) mX11_readLine 50 [(2, 78), (0, v1), (0, (v2 + 1))] [] sh pt h K) ∧ ((h 92 v2) = v1 → RunV X d mX11_fail [(2, 78), (0, 3), (0, (h 78 25))] sh pt h (fun h9 => (qI (v2 + 1)) ∧ EvV X (d + 1) mX11_readLine 50 [(2, 78), (0, v1), (0, (v2 + 1))] [] sh pt h9 K)))))) :
    EvV X (d + 1) mX11_readLine 50 [(2, 78), (0, v1), (0, v2)] [] sh pt h K := by
  show Ev X (d + 1) 0 0 mX11_readLine 50 [(2, 78), (0, v1), (0, v2)] [] (sh, pt, h) (qRV sh pt K)
  refine ev_iload_n 51 rfl dX11_readLine_50 rfl rfl ?_
  refine ev_aload_n 52 rfl dX11_readLine_51 rfl rfl ?_
  refine ev_getI (ki := 31) 55 rfl dX11_readLine_52 lf_11_357 (Or.inl rfl) (s_78 hst) (by decide) rfl ?_
  refine ev_icmp_ge (tgt := 83) 58 rfl dX11_readLine_55 (by decide) (fun cd => ?_) (fun cd => ?_)
  · have H := H.1 cd
    refine ev_aload_n 84 rfl dX11_readLine_83 rfl rfl ?_
    refine ev_getI (ki := 22) 87 rfl dX11_readLine_84 lf_11_311 (Or.inl rfl) (s_78 hst) (by decide) rfl ?_
    refine ev_if_le (tgt := 91) 90 rfl dX11_readLine_87 (by decide) (fun cd => ?_) (fun cd => ?_)
    · have H := H.1 cd
      refine ev_aload_n 92 rfl dX11_readLine_91 rfl rfl ?_
      refine ev_getR (ki := 36) (v := 92) 95 rfl dX11_readLine_92 lf_11_69 (s_78 hst) (by decide) rfl (p_78_36 hst) ?_
      refine ev_aload_n 96 rfl dX11_readLine_95 rfl rfl ?_
      refine ev_getI (ki := 31) 99 rfl dX11_readLine_96 lf_11_357 (Or.inl rfl) (s_78 hst) (by decide) rfl ?_
      refine ev_iload_n 100 rfl dX11_readLine_99 rfl rfl ?_
      obtain ⟨b1, H⟩ := H
      refine ev_iastore 101 rfl dX11_readLine_100 (s_92 hst) b1.1 b1.2 ?_
      obtain ⟨h2, eh2⟩ : ∃ z : qM, z = qup h 92 (h 78 31) v1 := ⟨_, rfl⟩
      rw [← eh2]
      have H := H h2 eh2
      refine ev_aload_n 102 rfl dX11_readLine_101 rfl rfl ?_
      refine ev_getR (ki := 35) (v := 91) 105 rfl dX11_readLine_102 lf_11_66 (s_78 hst) (by decide) rfl (p_78_35 hst) ?_
      refine ev_aload_n 106 rfl dX11_readLine_105 rfl rfl ?_
      refine ev_getI (ki := 31) 109 rfl dX11_readLine_106 lf_11_357 (Or.inl rfl) (s_78 hst) (by decide) rfl ?_
      refine ev_aload_n 110 rfl dX11_readLine_109 rfl rfl ?_
      refine ev_getR (ki := 14) (v := 85) 113 rfl dX11_readLine_110 lf_11_37 (s_78 hst) (by decide) rfl (p_78_14 hst) ?_
      refine ev_iload_n 114 rfl dX11_readLine_113 rfl rfl ?_
      obtain ⟨b3, H⟩ := H
      refine ev_iaload 115 rfl dX11_readLine_114 (s_85 hst) b3.1 b3.2 ?_
      obtain ⟨b4, H⟩ := H
      refine ev_iastore 116 rfl dX11_readLine_115 (s_91 hst) b4.1 b4.2 ?_
      obtain ⟨h5, eh5⟩ : ∃ z : qM, z = qup h2 91 (h2 78 31) (h2 85 v1) := ⟨_, rfl⟩
      rw [← eh5]
      have H := H h5 eh5
      refine ev_aload_n 117 rfl dX11_readLine_116 rfl rfl ?_
      refine ev_cVV (As := []) (rest := []) 120 rfl dX11_readLine_117 lm_11_324 mm_X11_next (s_78 hst) rfl rfl (Nat.le_of_ble_eq_true rfl) (Nat.le_of_ble_eq_true rfl) (Nat.le_refl _) H ?_
      intro h6 H
      refine ev_aload_n 121 rfl dX11_readLine_120 rfl rfl ?_
      refine ev_bipush 123 rfl dX11_readLine_121 (by decide) (by decide) ?_
      refine ev_cVV (As := [(0, 58)]) (rest := []) 126 rfl dX11_readLine_123 lm_11_347 mm_X11_sign (s_78 hst) rfl rfl (Nat.le_of_ble_eq_true rfl) (Nat.le_of_ble_eq_true rfl) (Nat.le_refl _) H ?_
      intro h7 H
      refine Ev.drop [1, 2] rfl ?_
      exact H
    · have H := H.2 cd
      exact ev_retV dX11_readLine_90 rfl H
  · have H := H.2 cd
    refine ev_aload_n 59 rfl dX11_readLine_58 rfl rfl ?_
    refine ev_getR (ki := 36) (v := 92) 62 rfl dX11_readLine_59 lf_11_69 (s_78 hst) (by decide) rfl (p_78_36 hst) ?_
    refine ev_iload_n 63 rfl dX11_readLine_62 rfl rfl ?_
    obtain ⟨b8, H⟩ := H
    refine ev_iaload 64 rfl dX11_readLine_63 (s_92 hst) b8.1 b8.2 ?_
    refine ev_iload_n 65 rfl dX11_readLine_64 rfl rfl ?_
    refine ev_icmp_ne (tgt := 77) 68 rfl dX11_readLine_65 (by decide) (fun cd => ?_) (fun cd => ?_)
    · have H := H.1 cd
      obtain ⟨sd, H⟩ := H
      refine ev_iinc (L1 := [(2, 78), (0, v1), (0, (v2 + 1))]) 80 rfl dX11_readLine_77 rfl sd (Nat.le_of_ble_eq_true rfl) rfl ?_
      refine ev_goto (tgt := 50) dX11_readLine_80 (by decide) ?_
      exact H
    · have H := H.2 cd
      refine ev_aload_n 69 rfl dX11_readLine_68 rfl rfl ?_
      refine ev_iconst 70 rfl dX11_readLine_69 (by decide) ?_
      refine ev_aload_n 71 rfl dX11_readLine_70 rfl rfl ?_
      refine ev_getI (ki := 25) 74 rfl dX11_readLine_71 lf_11_285 (Or.inl rfl) (s_78 hst) (by decide) rfl ?_
      refine ev_cVV (As := [(0, 3), (0, (h 78 25))]) (rest := []) 77 rfl dX11_readLine_74 lm_11_317 mm_X11_fail (s_78 hst) rfl rfl (Nat.le_of_ble_eq_true rfl) (Nat.le_of_ble_eq_true rfl) (Nat.le_refl _) H ?_
      intro h9 H
      obtain ⟨sd, H⟩ := H
      refine ev_iinc (L1 := [(2, 78), (0, v1), (0, (v2 + 1))]) 80 rfl dX11_readLine_77 rfl sd (Nat.le_of_ble_eq_true rfl) rfl ?_
      refine ev_goto (tgt := 50) dX11_readLine_80 (by decide) ?_
      exact H

set_option maxRecDepth 20000 in
theorem b_X11_readLine_126 {X : qX} {d : Nat} {sh : qS} {pt h : qM} {K : qM → Prop} (hst : St sh pt)
    (H : ((¬ (h 78 22) = 0 → EvV X (d + 1) mX11_readLine 150 [(2, 78), (8, -1), (8, -1)] [] sh pt h K) ∧ ((h 78 22) = 0 → RunI X d mX11_isSign [(2, 78), (0, 59)] sh pt h (fun r2 h1 => ((¬ r2 = 0 → EvV X (d + 1) mX11_readLine 150 [(2, 78), (8, -1), (8, -1)] [] sh pt h1 K) ∧ (r2 = 0 → RunV X d mX11_readOrder [(2, 78), (0, 0)] sh pt h1 (fun h3 => EvV X (d + 1) mX11_readLine 126 [(2, 78), (8, -1), (8, -1)] [] sh pt h3 K))))))) :
    EvV X (d + 1) mX11_readLine 126 [(2, 78), (8, -1), (8, -1)] [] sh pt h K := by
  show Ev X (d + 1) 0 0 mX11_readLine 126 [(2, 78), (8, -1), (8, -1)] [] (sh, pt, h) (qRV sh pt K)
  refine ev_aload_n 127 rfl dX11_readLine_126 rfl rfl ?_
  refine ev_getI (ki := 22) 130 rfl dX11_readLine_127 lf_11_311 (Or.inl rfl) (s_78 hst) (by decide) rfl ?_
  refine ev_if_ne (tgt := 150) 133 rfl dX11_readLine_130 (by decide) (fun cd => ?_) (fun cd => ?_)
  · have H := H.1 cd
    exact H
  · have H := H.2 cd
    refine ev_aload_n 134 rfl dX11_readLine_133 rfl rfl ?_
    refine ev_bipush 136 rfl dX11_readLine_134 (by decide) (by decide) ?_
    refine ev_cVI (As := [(0, 59)]) (rest := []) 139 rfl dX11_readLine_136 lm_11_321 mm_X11_isSign (s_78 hst) rfl rfl (Nat.le_of_ble_eq_true rfl) (Nat.le_of_ble_eq_true rfl) (Nat.le_refl _) H ?_
    intro r2 h1 H
    refine ev_if_ne (tgt := 150) 142 rfl dX11_readLine_139 (by decide) (fun cd => ?_) (fun cd => ?_)
    · have H := H.1 cd
      exact H
    · have H := H.2 cd
      refine ev_aload_n 143 rfl dX11_readLine_142 rfl rfl ?_
      refine ev_iconst 144 rfl dX11_readLine_143 (by decide) ?_
      refine ev_cVV (As := [(0, 0)]) (rest := []) 147 rfl dX11_readLine_144 lm_11_351 mm_X11_readOrder (s_78 hst) rfl rfl (Nat.le_of_ble_eq_true rfl) (Nat.le_of_ble_eq_true rfl) (Nat.le_refl _) H ?_
      intro h3 H
      refine ev_goto (tgt := 126) dX11_readLine_147 (by decide) ?_
      exact H

set_option maxRecDepth 20000 in
theorem b_X11_readLine_150 {X : qX} {d : Nat} {sh : qS} {pt h : qM} {K : qM → Prop} (hst : St sh pt)
    (H : (((h 78 22) ≤ 0 → RunV X d mX11_next [(2, 78)] sh pt h (fun h1 => (qI ((h1 78 31) + 1)) ∧ ∀ h2 : qM, h2 = qup h1 78 31 ((h1 78 31) + 1) → (0 ≤ (h2 78 31) ∧ (h2 78 31) < 9) ∧ ∀ h4 : qM, h4 = qup h2 93 (h2 78 31) (h2 78 32) → K h4)) ∧ (0 < (h 78 22) → K h))) :
    EvV X (d + 1) mX11_readLine 150 [(2, 78), (8, -1), (8, -1)] [] sh pt h K := by
  show Ev X (d + 1) 0 0 mX11_readLine 150 [(2, 78), (8, -1), (8, -1)] [] (sh, pt, h) (qRV sh pt K)
  refine ev_aload_n 151 rfl dX11_readLine_150 rfl rfl ?_
  refine ev_getI (ki := 22) 154 rfl dX11_readLine_151 lf_11_311 (Or.inl rfl) (s_78 hst) (by decide) rfl ?_
  refine ev_if_le (tgt := 158) 157 rfl dX11_readLine_154 (by decide) (fun cd => ?_) (fun cd => ?_)
  · have H := H.1 cd
    refine ev_aload_n 159 rfl dX11_readLine_158 rfl rfl ?_
    refine ev_cVV (As := []) (rest := []) 162 rfl dX11_readLine_159 lm_11_324 mm_X11_next (s_78 hst) rfl rfl (Nat.le_of_ble_eq_true rfl) (Nat.le_of_ble_eq_true rfl) (Nat.le_refl _) H ?_
    intro h1 H
    refine ev_aload_n 163 rfl dX11_readLine_162 rfl rfl ?_
    refine ev_dup 164 rfl dX11_readLine_163 q21 ?_
    refine ev_getI (ki := 31) 167 rfl dX11_readLine_164 lf_11_357 (Or.inl rfl) (s_78 hst) (by decide) rfl ?_
    refine ev_iconst 168 rfl dX11_readLine_167 (by decide) ?_
    obtain ⟨sd, H⟩ := H
    refine ev_iadd 169 rfl dX11_readLine_168 sd ?_
    refine ev_putI (ki := 31) 172 rfl dX11_readLine_169 lf_11_357 (Or.inl rfl) (s_78 hst) (by decide) rfl ?_
    obtain ⟨h2, eh2⟩ : ∃ z : qM, z = qup h1 78 31 ((h1 78 31) + 1) := ⟨_, rfl⟩
    rw [← eh2]
    have H := H h2 eh2
    refine ev_aload_n 173 rfl dX11_readLine_172 rfl rfl ?_
    refine ev_getR (ki := 37) (v := 93) 176 rfl dX11_readLine_173 lf_11_72 (s_78 hst) (by decide) rfl (p_78_37 hst) ?_
    refine ev_aload_n 177 rfl dX11_readLine_176 rfl rfl ?_
    refine ev_getI (ki := 31) 180 rfl dX11_readLine_177 lf_11_357 (Or.inl rfl) (s_78 hst) (by decide) rfl ?_
    refine ev_aload_n 181 rfl dX11_readLine_180 rfl rfl ?_
    refine ev_getI (ki := 32) 184 rfl dX11_readLine_181 lf_11_344 (Or.inl rfl) (s_78 hst) (by decide) rfl ?_
    obtain ⟨b3, H⟩ := H
    refine ev_iastore 185 rfl dX11_readLine_184 (s_93 hst) b3.1 b3.2 ?_
    obtain ⟨h4, eh4⟩ : ∃ z : qM, z = qup h2 93 (h2 78 31) (h2 78 32) := ⟨_, rfl⟩
    rw [← eh4]
    have H := H h4 eh4
    exact ev_retV dX11_readLine_185 rfl H
  · have H := H.2 cd
    exact ev_retV dX11_readLine_157 rfl H

set_option maxRecDepth 20000 in
theorem b_X11_feed {X : qX} {d : Nat} {sh : qS} {pt h : qM} {K : Int → qM → Prop} {v1 v2 v3 v4 v5 : Int} (hst : St sh pt)
    (H : ∀ h1 : qM, h1 = qup h 78 1 0 → (qI ((h1 78 18) + 20)) ∧ ((((h1 78 18) + 20) ≤ 500 → RunV X d mX11_lay [(2, 78), (0, v1)] sh pt h1 (fun h2 => RunV X d mX11_lay [(2, 78), (0, v2)] sh pt h2 (fun h3 => RunV X d mX11_lay [(2, 78), (0, v3)] sh pt h3 (fun h4 => RunV X d mX11_lay [(2, 78), (0, v4)] sh pt h4 (fun h5 => RunV X d mX11_lay [(2, 78), (0, v5)] sh pt h5 (fun h6 => K (h6 78 18) h6)))))) ∧ (500 < ((h1 78 18) + 20) → K (-1) h1))) :
    RunI X (d + 1) mX11_feed [(2, 78), (0, v1), (0, v2), (0, v3), (0, v4), (0, v5)] sh pt h K := by
  show Ev X (d + 1) 0 0 mX11_feed 0 [(2, 78), (0, v1), (0, v2), (0, v3), (0, v4), (0, v5)] [] (sh, pt, h) (qRI sh pt K)
  refine ev_aload_n 1 rfl dX11_feed_0 rfl rfl ?_
  refine ev_iconst 2 rfl dX11_feed_1 (by decide) ?_
  refine ev_putI (ki := 1) 5 rfl dX11_feed_2 lf_11_213 (Or.inl rfl) (s_78 hst) (by decide) rfl ?_
  obtain ⟨h1, eh1⟩ : ∃ z : qM, z = qup h 78 1 0 := ⟨_, rfl⟩
  rw [← eh1]
  have H := H h1 eh1
  refine ev_aload_n 6 rfl dX11_feed_5 rfl rfl ?_
  refine ev_getI (ki := 18) 9 rfl dX11_feed_6 lf_11_360 (Or.inl rfl) (s_78 hst) (by decide) rfl ?_
  refine ev_bipush 11 rfl dX11_feed_9 (by decide) (by decide) ?_
  obtain ⟨sd, H⟩ := H
  refine ev_iadd 12 rfl dX11_feed_11 sd ?_
  refine ev_sipush 15 rfl dX11_feed_12 (by decide) (by decide) ?_
  refine ev_icmp_le (tgt := 20) 18 rfl dX11_feed_15 (by decide) (fun cd => ?_) (fun cd => ?_)
  · have H := H.1 cd
    refine ev_aload_n 21 rfl dX11_feed_20 rfl rfl ?_
    refine ev_iload_n 22 rfl dX11_feed_21 rfl rfl ?_
    refine ev_cVV (As := [(0, v1)]) (rest := []) 25 rfl dX11_feed_22 lm_11_363 mm_X11_lay (s_78 hst) rfl rfl (Nat.le_of_ble_eq_true rfl) (Nat.le_of_ble_eq_true rfl) (Nat.le_refl _) H ?_
    intro h2 H
    refine ev_aload_n 26 rfl dX11_feed_25 rfl rfl ?_
    refine ev_iload_n 27 rfl dX11_feed_26 rfl rfl ?_
    refine ev_cVV (As := [(0, v2)]) (rest := []) 30 rfl dX11_feed_27 lm_11_363 mm_X11_lay (s_78 hst) rfl rfl (Nat.le_of_ble_eq_true rfl) (Nat.le_of_ble_eq_true rfl) (Nat.le_refl _) H ?_
    intro h3 H
    refine ev_aload_n 31 rfl dX11_feed_30 rfl rfl ?_
    refine ev_iload_n 32 rfl dX11_feed_31 rfl rfl ?_
    refine ev_cVV (As := [(0, v3)]) (rest := []) 35 rfl dX11_feed_32 lm_11_363 mm_X11_lay (s_78 hst) rfl rfl (Nat.le_of_ble_eq_true rfl) (Nat.le_of_ble_eq_true rfl) (Nat.le_refl _) H ?_
    intro h4 H
    refine ev_aload_n 36 rfl dX11_feed_35 rfl rfl ?_
    refine ev_iload 38 rfl dX11_feed_36 rfl ?_
    refine ev_cVV (As := [(0, v4)]) (rest := []) 41 rfl dX11_feed_38 lm_11_363 mm_X11_lay (s_78 hst) rfl rfl (Nat.le_of_ble_eq_true rfl) (Nat.le_of_ble_eq_true rfl) (Nat.le_refl _) H ?_
    intro h5 H
    refine ev_aload_n 42 rfl dX11_feed_41 rfl rfl ?_
    refine ev_iload 44 rfl dX11_feed_42 rfl ?_
    refine ev_cVV (As := [(0, v5)]) (rest := []) 47 rfl dX11_feed_44 lm_11_363 mm_X11_lay (s_78 hst) rfl rfl (Nat.le_of_ble_eq_true rfl) (Nat.le_of_ble_eq_true rfl) (Nat.le_refl _) H ?_
    intro h6 H
    refine ev_aload_n 48 rfl dX11_feed_47 rfl rfl ?_
    refine ev_getI (ki := 18) 51 rfl dX11_feed_48 lf_11_360 (Or.inl rfl) (s_78 hst) (by decide) rfl ?_
    exact ev_retI dX11_feed_51 rfl H
  · have H := H.2 cd
    refine ev_iconst 19 rfl dX11_feed_18 (by decide) ?_
    exact ev_retI dX11_feed_19 rfl H

set_option maxRecDepth 20000 in
theorem b_X11_lay {X : qX} {d : Nat} {sh : qS} {pt h : qM} {K : qM → Prop} {v1 : Int} (hst : St sh pt)
    (H : EvV X d mX11_lay 2 [(2, 78), (0, v1), (0, 3)] [] sh pt h K) :
    RunV X d mX11_lay [(2, 78), (0, v1)] sh pt h K := by
  show Ev X d 0 0 mX11_lay 0 [(2, 78), (0, v1), (8, -1)] [] (sh, pt, h) (qRV sh pt K)
  refine ev_iconst 1 rfl dX11_lay_0 (by decide) ?_
  refine ev_istore_n (L1 := [(2, 78), (0, v1), (0, 3)]) 2 rfl dX11_lay_1 rfl (Nat.le_of_ble_eq_true rfl) rfl ?_
  exact H

set_option maxRecDepth 20000 in
theorem b_X11_lay_2 {X : qX} {d : Nat} {sh : qS} {pt h : qM} {K : qM → Prop} {v1 v2 : Int} (hst : St sh pt)
    (H : ((v2 < 0 → K h) ∧ (0 ≤ v2 → (qI (8 * v2)) ∧ (0 ≤ (h 78 18) ∧ (h 78 18) < 500) ∧ (-128 ≤ (qi2b (qishr v1 (8 * v2))) ∧ (qi2b (qishr v1 (8 * v2))) ≤ 127) ∧ ∀ h3 : qM, h3 = qup h 88 (h 78 18) (qi2b (qishr v1 (8 * v2))) → (qI ((h3 78 18) + 1)) ∧ ∀ h4 : qM, h4 = qup h3 78 18 ((h3 78 18) + 1) → (qI (v2 + (-1))) ∧ EvV X d mX11_lay 2 [(2, 78), (0, v1), (0, (v2 + (-1)))] [] sh pt h4 K))) :
    EvV X d mX11_lay 2 [(2, 78), (0, v1), (0, v2)] [] sh pt h K := by
  show Ev X d 0 0 mX11_lay 2 [(2, 78), (0, v1), (0, v2)] [] (sh, pt, h) (qRV sh pt K)
  refine ev_iload_n 3 rfl dX11_lay_2 rfl rfl ?_
  refine ev_if_lt (tgt := 38) 6 rfl dX11_lay_3 (by decide) (fun cd => ?_) (fun cd => ?_)
  · have H := H.1 cd
    exact ev_retV dX11_lay_38 rfl H
  · have H := H.2 cd
    refine ev_aload_n 7 rfl dX11_lay_6 rfl rfl ?_
    refine ev_getR (ki := 17) (v := 88) 10 rfl dX11_lay_7 lf_11_47 (s_78 hst) (by decide) rfl (p_78_17 hst) ?_
    refine ev_aload_n 11 rfl dX11_lay_10 rfl rfl ?_
    refine ev_getI (ki := 18) 14 rfl dX11_lay_11 lf_11_360 (Or.inl rfl) (s_78 hst) (by decide) rfl ?_
    refine ev_iload_n 15 rfl dX11_lay_14 rfl rfl ?_
    refine ev_bipush 17 rfl dX11_lay_15 (by decide) (by decide) ?_
    refine ev_iload_n 18 rfl dX11_lay_17 rfl rfl ?_
    obtain ⟨sd, H⟩ := H
    refine ev_imul 19 rfl dX11_lay_18 sd ?_
    refine ev_ishr 20 rfl dX11_lay_19 ?_
    refine ev_i2b 21 rfl dX11_lay_20 ?_
    obtain ⟨b1, H⟩ := H
    obtain ⟨sv2, H⟩ := H
    refine ev_bastore 22 rfl dX11_lay_21 (s_88 hst) b1.1 b1.2 sv2 ?_
    obtain ⟨h3, eh3⟩ : ∃ z : qM, z = qup h 88 (h 78 18) (qi2b (qishr v1 (8 * v2))) := ⟨_, rfl⟩
    rw [← eh3]
    have H := H h3 eh3
    refine ev_aload_n 23 rfl dX11_lay_22 rfl rfl ?_
    refine ev_dup 24 rfl dX11_lay_23 q21 ?_
    refine ev_getI (ki := 18) 27 rfl dX11_lay_24 lf_11_360 (Or.inl rfl) (s_78 hst) (by decide) rfl ?_
    refine ev_iconst 28 rfl dX11_lay_27 (by decide) ?_
    obtain ⟨sd, H⟩ := H
    refine ev_iadd 29 rfl dX11_lay_28 sd ?_
    refine ev_putI (ki := 18) 32 rfl dX11_lay_29 lf_11_360 (Or.inl rfl) (s_78 hst) (by decide) rfl ?_
    obtain ⟨h4, eh4⟩ : ∃ z : qM, z = qup h3 78 18 ((h3 78 18) + 1) := ⟨_, rfl⟩
    rw [← eh4]
    have H := H h4 eh4
    obtain ⟨sd, H⟩ := H
    refine ev_iinc (L1 := [(2, 78), (0, v1), (0, (v2 + (-1)))]) 35 rfl dX11_lay_32 rfl sd (Nat.le_of_ble_eq_true rfl) rfl ?_
    refine ev_goto (tgt := 2) dX11_lay_35 (by decide) ?_
    exact H

set_option maxRecDepth 20000 in
theorem b_X11_orders {X : qX} {d : Nat} {sh : qS} {pt h : qM} {K : Int → qM → Prop} {v1 : Int} (hst : St sh pt)
    (H : ∀ h1 : qM, h1 = qup h 78 1 0 → ∀ h2 : qM, h2 = qup h1 78 0 0 → ((v1 < 0 → RunI X d mX11_refuse [(2, 78), (0, 5)] sh pt h2 (fun r4 h3 => K r4 h3)) ∧ (0 ≤ v1 → ((v1 ≤ (h2 78 18) → ∀ h5 : qM, h5 = qup h2 78 19 v1 → ∀ h6 : qM, h6 = qup h5 78 18 0 → ∀ h7 : qM, h7 = qup h6 78 26 0 → ∀ h8 : qM, h8 = qup h7 78 22 0 → ∀ h9 : qM, h9 = qup h8 78 31 0 → ∀ h10 : qM, h10 = qup h9 78 32 0 → ∀ h11 : qM, h11 = qup h10 93 0 0 → RunV X d mX11_next [(2, 78)] sh pt h11 (fun h12 => EvI X (d + 1) mX11_orders 69 [(2, 78), (8, -1), (8, -1)] [] sh pt h12 K)) ∧ ((h2 78 18) < v1 → RunI X d mX11_refuse [(2, 78), (0, 5)] sh pt h2 (fun r14 h13 => K r14 h13)))))) :
    RunI X (d + 1) mX11_orders [(2, 78), (0, v1)] sh pt h K := by
  show Ev X (d + 1) 0 0 mX11_orders 0 [(2, 78), (0, v1), (8, -1)] [] (sh, pt, h) (qRI sh pt K)
  refine ev_aload_n 1 rfl dX11_orders_0 rfl rfl ?_
  refine ev_iconst 2 rfl dX11_orders_1 (by decide) ?_
  refine ev_putI (ki := 1) 5 rfl dX11_orders_2 lf_11_213 (Or.inl rfl) (s_78 hst) (by decide) rfl ?_
  obtain ⟨h1, eh1⟩ : ∃ z : qM, z = qup h 78 1 0 := ⟨_, rfl⟩
  rw [← eh1]
  have H := H h1 eh1
  refine ev_aload_n 6 rfl dX11_orders_5 rfl rfl ?_
  refine ev_iconst 7 rfl dX11_orders_6 (by decide) ?_
  refine ev_putI (ki := 0) 10 rfl dX11_orders_7 lf_11_216 (Or.inl rfl) (s_78 hst) (by decide) rfl ?_
  obtain ⟨h2, eh2⟩ : ∃ z : qM, z = qup h1 78 0 0 := ⟨_, rfl⟩
  rw [← eh2]
  have H := H h2 eh2
  refine ev_iload_n 11 rfl dX11_orders_10 rfl rfl ?_
  refine ev_if_lt (tgt := 22) 14 rfl dX11_orders_11 (by decide) (fun cd => ?_) (fun cd => ?_)
  · have H := H.1 cd
    refine ev_aload_n 23 rfl dX11_orders_22 rfl rfl ?_
    refine ev_iconst 24 rfl dX11_orders_23 (by decide) ?_
    refine ev_cVI (As := [(0, 5)]) (rest := []) 27 rfl dX11_orders_24 lm_11_254 mm_X11_refuse (s_78 hst) rfl rfl (Nat.le_of_ble_eq_true rfl) (Nat.le_of_ble_eq_true rfl) (Nat.le_refl _) H ?_
    intro r4 h3 H
    exact ev_retI dX11_orders_27 rfl H
  · have H := H.2 cd
    refine ev_iload_n 15 rfl dX11_orders_14 rfl rfl ?_
    refine ev_aload_n 16 rfl dX11_orders_15 rfl rfl ?_
    refine ev_getI (ki := 18) 19 rfl dX11_orders_16 lf_11_360 (Or.inl rfl) (s_78 hst) (by decide) rfl ?_
    refine ev_icmp_le (tgt := 28) 22 rfl dX11_orders_19 (by decide) (fun cd => ?_) (fun cd => ?_)
    · have H := H.1 cd
      refine ev_aload_n 29 rfl dX11_orders_28 rfl rfl ?_
      refine ev_iload_n 30 rfl dX11_orders_29 rfl rfl ?_
      refine ev_putI (ki := 19) 33 rfl dX11_orders_30 lf_11_279 (Or.inl rfl) (s_78 hst) (by decide) rfl ?_
      obtain ⟨h5, eh5⟩ : ∃ z : qM, z = qup h2 78 19 v1 := ⟨_, rfl⟩
      rw [← eh5]
      have H := H h5 eh5
      refine ev_aload_n 34 rfl dX11_orders_33 rfl rfl ?_
      refine ev_iconst 35 rfl dX11_orders_34 (by decide) ?_
      refine ev_putI (ki := 18) 38 rfl dX11_orders_35 lf_11_360 (Or.inl rfl) (s_78 hst) (by decide) rfl ?_
      obtain ⟨h6, eh6⟩ : ∃ z : qM, z = qup h5 78 18 0 := ⟨_, rfl⟩
      rw [← eh6]
      have H := H h6 eh6
      refine ev_aload_n 39 rfl dX11_orders_38 rfl rfl ?_
      refine ev_iconst 40 rfl dX11_orders_39 (by decide) ?_
      refine ev_putI (ki := 26) 43 rfl dX11_orders_40 lf_11_282 (Or.inl rfl) (s_78 hst) (by decide) rfl ?_
      obtain ⟨h7, eh7⟩ : ∃ z : qM, z = qup h6 78 26 0 := ⟨_, rfl⟩
      rw [← eh7]
      have H := H h7 eh7
      refine ev_aload_n 44 rfl dX11_orders_43 rfl rfl ?_
      refine ev_iconst 45 rfl dX11_orders_44 (by decide) ?_
      refine ev_putI (ki := 22) 48 rfl dX11_orders_45 lf_11_311 (Or.inl rfl) (s_78 hst) (by decide) rfl ?_
      obtain ⟨h8, eh8⟩ : ∃ z : qM, z = qup h7 78 22 0 := ⟨_, rfl⟩
      rw [← eh8]
      have H := H h8 eh8
      refine ev_aload_n 49 rfl dX11_orders_48 rfl rfl ?_
      refine ev_iconst 50 rfl dX11_orders_49 (by decide) ?_
      refine ev_putI (ki := 31) 53 rfl dX11_orders_50 lf_11_357 (Or.inl rfl) (s_78 hst) (by decide) rfl ?_
      obtain ⟨h9, eh9⟩ : ∃ z : qM, z = qup h8 78 31 0 := ⟨_, rfl⟩
      rw [← eh9]
      have H := H h9 eh9
      refine ev_aload_n 54 rfl dX11_orders_53 rfl rfl ?_
      refine ev_iconst 55 rfl dX11_orders_54 (by decide) ?_
      refine ev_putI (ki := 32) 58 rfl dX11_orders_55 lf_11_344 (Or.inl rfl) (s_78 hst) (by decide) rfl ?_
      obtain ⟨h10, eh10⟩ : ∃ z : qM, z = qup h9 78 32 0 := ⟨_, rfl⟩
      rw [← eh10]
      have H := H h10 eh10
      refine ev_aload_n 59 rfl dX11_orders_58 rfl rfl ?_
      refine ev_getR (ki := 37) (v := 93) 62 rfl dX11_orders_59 lf_11_72 (s_78 hst) (by decide) rfl (p_78_37 hst) ?_
      refine ev_iconst 63 rfl dX11_orders_62 (by decide) ?_
      refine ev_iconst 64 rfl dX11_orders_63 (by decide) ?_
      refine ev_iastore 65 rfl dX11_orders_64 (s_93 hst) (by decide) (by decide) ?_
      obtain ⟨h11, eh11⟩ : ∃ z : qM, z = qup h10 93 0 0 := ⟨_, rfl⟩
      rw [← eh11]
      have H := H h11 eh11
      refine ev_aload_n 66 rfl dX11_orders_65 rfl rfl ?_
      refine ev_cVV (As := []) (rest := []) 69 rfl dX11_orders_66 lm_11_324 mm_X11_next (s_78 hst) rfl rfl (Nat.le_of_ble_eq_true rfl) (Nat.le_of_ble_eq_true rfl) (Nat.le_refl _) H ?_
      intro h12 H
      refine Ev.drop [1] rfl ?_
      exact H
    · have H := H.2 cd
      refine ev_aload_n 23 rfl dX11_orders_22 rfl rfl ?_
      refine ev_iconst 24 rfl dX11_orders_23 (by decide) ?_
      refine ev_cVI (As := [(0, 5)]) (rest := []) 27 rfl dX11_orders_24 lm_11_254 mm_X11_refuse (s_78 hst) rfl rfl (Nat.le_of_ble_eq_true rfl) (Nat.le_of_ble_eq_true rfl) (Nat.le_refl _) H ?_
      intro r14 h13 H
      exact ev_retI dX11_orders_27 rfl H

set_option maxRecDepth 20000 in
theorem b_X11_orders_69 {X : qX} {d : Nat} {sh : qS} {pt h : qM} {K : Int → qM → Prop} (hst : St sh pt)
    (H : ((¬ (h 78 22) = 0 → ∀ h1 : qM, h1 = qup h 78 20 (h 78 22) → ((¬ (h1 78 22) = 0 → EvI X (d + 1) mX11_orders 114 [(2, 78), (8, -1), (8, -1)] [(0, (h1 78 23)), (2, 78)] sh pt h1 K) ∧ ((h1 78 22) = 0 → EvI X (d + 1) mX11_orders 114 [(2, 78), (8, -1), (8, -1)] [(0, (-1)), (2, 78)] sh pt h1 K))) ∧ ((h 78 22) = 0 → (((h 78 24) = 0 → ∀ h2 : qM, h2 = qup h 78 20 (h 78 22) → ((¬ (h2 78 22) = 0 → EvI X (d + 1) mX11_orders 114 [(2, 78), (8, -1), (8, -1)] [(0, (h2 78 23)), (2, 78)] sh pt h2 K) ∧ ((h2 78 22) = 0 → EvI X (d + 1) mX11_orders 114 [(2, 78), (8, -1), (8, -1)] [(0, (-1)), (2, 78)] sh pt h2 K))) ∧ (¬ (h 78 24) = 0 → RunV X d mX11_readLine [(2, 78)] sh pt h (fun h3 => EvI X (d + 1) mX11_orders 69 [(2, 78), (8, -1), (8, -1)] [] sh pt h3 K)))))) :
    EvI X (d + 1) mX11_orders 69 [(2, 78), (8, -1), (8, -1)] [] sh pt h K := by
  show Ev X (d + 1) 0 0 mX11_orders 69 [(2, 78), (8, -1), (8, -1)] [] (sh, pt, h) (qRI sh pt K)
  refine ev_aload_n 70 rfl dX11_orders_69 rfl rfl ?_
  refine ev_getI (ki := 22) 73 rfl dX11_orders_70 lf_11_311 (Or.inl rfl) (s_78 hst) (by decide) rfl ?_
  refine ev_if_ne (tgt := 90) 76 rfl dX11_orders_73 (by decide) (fun cd => ?_) (fun cd => ?_)
  · have H := H.1 cd
    refine ev_aload_n 91 rfl dX11_orders_90 rfl rfl ?_
    refine ev_aload_n 92 rfl dX11_orders_91 rfl rfl ?_
    refine ev_getI (ki := 22) 95 rfl dX11_orders_92 lf_11_311 (Or.inl rfl) (s_78 hst) (by decide) rfl ?_
    refine ev_putI (ki := 20) 98 rfl dX11_orders_95 lf_11_51 (Or.inl rfl) (s_78 hst) (by decide) rfl ?_
    obtain ⟨h1, eh1⟩ : ∃ z : qM, z = qup h 78 20 (h 78 22) := ⟨_, rfl⟩
    rw [← eh1]
    have H := H h1 eh1
    refine ev_aload_n 99 rfl dX11_orders_98 rfl rfl ?_
    refine ev_aload_n 100 rfl dX11_orders_99 rfl rfl ?_
    refine ev_getI (ki := 22) 103 rfl dX11_orders_100 lf_11_311 (Or.inl rfl) (s_78 hst) (by decide) rfl ?_
    refine ev_if_ne (tgt := 110) 106 rfl dX11_orders_103 (by decide) (fun cd => ?_) (fun cd => ?_)
    · have H := H.1 cd
      refine ev_aload_n 111 rfl dX11_orders_110 rfl rfl ?_
      refine ev_getI (ki := 23) 114 rfl dX11_orders_111 lf_11_314 (Or.inl rfl) (s_78 hst) (by decide) rfl ?_
      exact H
    · have H := H.2 cd
      refine ev_iconst 107 rfl dX11_orders_106 (by decide) ?_
      refine ev_goto (tgt := 114) dX11_orders_107 (by decide) ?_
      exact H
  · have H := H.2 cd
    refine ev_aload_n 77 rfl dX11_orders_76 rfl rfl ?_
    refine ev_getI (ki := 24) 80 rfl dX11_orders_77 lf_11_291 (Or.inl rfl) (s_78 hst) (by decide) rfl ?_
    refine ev_if_eq (tgt := 90) 83 rfl dX11_orders_80 (by decide) (fun cd => ?_) (fun cd => ?_)
    · have H := H.1 cd
      refine ev_aload_n 91 rfl dX11_orders_90 rfl rfl ?_
      refine ev_aload_n 92 rfl dX11_orders_91 rfl rfl ?_
      refine ev_getI (ki := 22) 95 rfl dX11_orders_92 lf_11_311 (Or.inl rfl) (s_78 hst) (by decide) rfl ?_
      refine ev_putI (ki := 20) 98 rfl dX11_orders_95 lf_11_51 (Or.inl rfl) (s_78 hst) (by decide) rfl ?_
      obtain ⟨h2, eh2⟩ : ∃ z : qM, z = qup h 78 20 (h 78 22) := ⟨_, rfl⟩
      rw [← eh2]
      have H := H h2 eh2
      refine ev_aload_n 99 rfl dX11_orders_98 rfl rfl ?_
      refine ev_aload_n 100 rfl dX11_orders_99 rfl rfl ?_
      refine ev_getI (ki := 22) 103 rfl dX11_orders_100 lf_11_311 (Or.inl rfl) (s_78 hst) (by decide) rfl ?_
      refine ev_if_ne (tgt := 110) 106 rfl dX11_orders_103 (by decide) (fun cd => ?_) (fun cd => ?_)
      · have H := H.1 cd
        refine ev_aload_n 111 rfl dX11_orders_110 rfl rfl ?_
        refine ev_getI (ki := 23) 114 rfl dX11_orders_111 lf_11_314 (Or.inl rfl) (s_78 hst) (by decide) rfl ?_
        exact H
      · have H := H.2 cd
        refine ev_iconst 107 rfl dX11_orders_106 (by decide) ?_
        refine ev_goto (tgt := 114) dX11_orders_107 (by decide) ?_
        exact H
    · have H := H.2 cd
      refine ev_aload_n 84 rfl dX11_orders_83 rfl rfl ?_
      refine ev_cVV (As := []) (rest := []) 87 rfl dX11_orders_84 lm_11_366 mm_X11_readLine (s_78 hst) rfl rfl (Nat.le_of_ble_eq_true rfl) (Nat.le_of_ble_eq_true rfl) (Nat.le_refl _) H ?_
      intro h3 H
      refine ev_goto (tgt := 69) dX11_orders_87 (by decide) ?_
      exact H

set_option maxRecDepth 20000 in
theorem b_X11_orders_114 {X : qX} {d : Nat} {sh : qS} {pt h : qM} {K : Int → qM → Prop} {u0 : Int} (hst : St sh pt)
    (H : ∀ h1 : qM, h1 = qup h 78 21 u0 → (((h1 78 22) ≤ 0 → ∀ h2 : qM, h2 = qup h1 78 30 (h1 78 31) → EvI X (d + 1) mX11_orders 141 [(2, 78), (8, -1), (0, 0)] [] sh pt h2 K) ∧ (0 < (h1 78 22) → RunI X d mX11_refuse [(2, 78), (0, 10)] sh pt h1 (fun r4 h3 => K r4 h3)))) :
    EvI X (d + 1) mX11_orders 114 [(2, 78), (8, -1), (8, -1)] [(0, u0), (2, 78)] sh pt h K := by
  show Ev X (d + 1) 0 0 mX11_orders 114 [(2, 78), (8, -1), (8, -1)] [(0, u0), (2, 78)] (sh, pt, h) (qRI sh pt K)
  refine ev_putI (ki := 21) 117 rfl dX11_orders_114 lf_11_54 (Or.inl rfl) (s_78 hst) (by decide) rfl ?_
  obtain ⟨h1, eh1⟩ : ∃ z : qM, z = qup h 78 21 u0 := ⟨_, rfl⟩
  rw [← eh1]
  have H := H h1 eh1
  refine ev_aload_n 118 rfl dX11_orders_117 rfl rfl ?_
  refine ev_getI (ki := 22) 121 rfl dX11_orders_118 lf_11_311 (Or.inl rfl) (s_78 hst) (by decide) rfl ?_
  refine ev_if_le (tgt := 131) 124 rfl dX11_orders_121 (by decide) (fun cd => ?_) (fun cd => ?_)
  · have H := H.1 cd
    refine ev_aload_n 132 rfl dX11_orders_131 rfl rfl ?_
    refine ev_aload_n 133 rfl dX11_orders_132 rfl rfl ?_
    refine ev_getI (ki := 31) 136 rfl dX11_orders_133 lf_11_357 (Or.inl rfl) (s_78 hst) (by decide) rfl ?_
    refine ev_putI (ki := 30) 139 rfl dX11_orders_136 lf_11_57 (Or.inl rfl) (s_78 hst) (by decide) rfl ?_
    obtain ⟨h2, eh2⟩ : ∃ z : qM, z = qup h1 78 30 (h1 78 31) := ⟨_, rfl⟩
    rw [← eh2]
    have H := H h2 eh2
    refine ev_iconst 140 rfl dX11_orders_139 (by decide) ?_
    refine ev_istore_n (L1 := [(2, 78), (8, -1), (0, 0)]) 141 rfl dX11_orders_140 rfl (Nat.le_of_ble_eq_true rfl) rfl ?_
    exact H
  · have H := H.2 cd
    refine ev_aload_n 125 rfl dX11_orders_124 rfl rfl ?_
    refine ev_bipush 127 rfl dX11_orders_125 (by decide) (by decide) ?_
    refine ev_cVI (As := [(0, 10)]) (rest := []) 130 rfl dX11_orders_127 lm_11_254 mm_X11_refuse (s_78 hst) rfl rfl (Nat.le_of_ble_eq_true rfl) (Nat.le_of_ble_eq_true rfl) (Nat.le_refl _) H ?_
    intro r4 h3 H
    exact ev_retI dX11_orders_130 rfl H

set_option maxRecDepth 20000 in
theorem b_X11_orders_141 {X : qX} {d : Nat} {sh : qS} {pt h : qM} {K : Int → qM → Prop} {v2 : Int} (hst : St sh pt)
    (H : (((h 78 30) < v2 → EvI X (d + 1) mX11_orders 169 [(2, 78), (8, -1), (0, 0)] [] sh pt h K) ∧ (v2 ≤ (h 78 30) → (0 ≤ v2 ∧ v2 < 9) ∧ (0 ≤ v2 ∧ v2 < 9) ∧ ∀ h3 : qM, h3 = qup h 90 v2 (h 93 v2) → (qI (v2 + 1)) ∧ EvI X (d + 1) mX11_orders 141 [(2, 78), (8, -1), (0, (v2 + 1))] [] sh pt h3 K))) :
    EvI X (d + 1) mX11_orders 141 [(2, 78), (8, -1), (0, v2)] [] sh pt h K := by
  show Ev X (d + 1) 0 0 mX11_orders 141 [(2, 78), (8, -1), (0, v2)] [] (sh, pt, h) (qRI sh pt K)
  refine ev_iload_n 142 rfl dX11_orders_141 rfl rfl ?_
  refine ev_aload_n 143 rfl dX11_orders_142 rfl rfl ?_
  refine ev_getI (ki := 30) 146 rfl dX11_orders_143 lf_11_57 (Or.inl rfl) (s_78 hst) (by decide) rfl ?_
  refine ev_icmp_gt (tgt := 167) 149 rfl dX11_orders_146 (by decide) (fun cd => ?_) (fun cd => ?_)
  · have H := H.1 cd
    refine ev_iconst 168 rfl dX11_orders_167 (by decide) ?_
    refine ev_istore_n (L1 := [(2, 78), (8, -1), (0, 0)]) 169 rfl dX11_orders_168 rfl (Nat.le_of_ble_eq_true rfl) rfl ?_
    exact H
  · have H := H.2 cd
    refine ev_aload_n 150 rfl dX11_orders_149 rfl rfl ?_
    refine ev_getR (ki := 34) (v := 90) 153 rfl dX11_orders_150 lf_11_63 (s_78 hst) (by decide) rfl (p_78_34 hst) ?_
    refine ev_iload_n 154 rfl dX11_orders_153 rfl rfl ?_
    refine ev_aload_n 155 rfl dX11_orders_154 rfl rfl ?_
    refine ev_getR (ki := 37) (v := 93) 158 rfl dX11_orders_155 lf_11_72 (s_78 hst) (by decide) rfl (p_78_37 hst) ?_
    refine ev_iload_n 159 rfl dX11_orders_158 rfl rfl ?_
    obtain ⟨b1, H⟩ := H
    refine ev_iaload 160 rfl dX11_orders_159 (s_93 hst) b1.1 b1.2 ?_
    obtain ⟨b2, H⟩ := H
    refine ev_iastore 161 rfl dX11_orders_160 (s_90 hst) b2.1 b2.2 ?_
    obtain ⟨h3, eh3⟩ : ∃ z : qM, z = qup h 90 v2 (h 93 v2) := ⟨_, rfl⟩
    rw [← eh3]
    have H := H h3 eh3
    obtain ⟨sd, H⟩ := H
    refine ev_iinc (L1 := [(2, 78), (8, -1), (0, (v2 + 1))]) 164 rfl dX11_orders_161 rfl sd (Nat.le_of_ble_eq_true rfl) rfl ?_
    refine ev_goto (tgt := 141) dX11_orders_164 (by decide) ?_
    exact H

set_option maxRecDepth 20000 in
theorem b_X11_orders_169 {X : qX} {d : Nat} {sh : qS} {pt h : qM} {K : Int → qM → Prop} {v2 : Int} (hst : St sh pt)
    (H : (((h 78 30) ≤ v2 → EvI X (d + 1) mX11_orders 197 [(2, 78), (8, -1), (0, 0)] [] sh pt h K) ∧ (v2 < (h 78 30) → (0 ≤ v2 ∧ v2 < 8) ∧ (0 ≤ v2 ∧ v2 < 8) ∧ ∀ h3 : qM, h3 = qup h 89 v2 (h 91 v2) → (qI (v2 + 1)) ∧ EvI X (d + 1) mX11_orders 169 [(2, 78), (8, -1), (0, (v2 + 1))] [] sh pt h3 K))) :
    EvI X (d + 1) mX11_orders 169 [(2, 78), (8, -1), (0, v2)] [] sh pt h K := by
  show Ev X (d + 1) 0 0 mX11_orders 169 [(2, 78), (8, -1), (0, v2)] [] (sh, pt, h) (qRI sh pt K)
  refine ev_iload_n 170 rfl dX11_orders_169 rfl rfl ?_
  refine ev_aload_n 171 rfl dX11_orders_170 rfl rfl ?_
  refine ev_getI (ki := 30) 174 rfl dX11_orders_171 lf_11_57 (Or.inl rfl) (s_78 hst) (by decide) rfl ?_
  refine ev_icmp_ge (tgt := 195) 177 rfl dX11_orders_174 (by decide) (fun cd => ?_) (fun cd => ?_)
  · have H := H.1 cd
    refine ev_iconst 196 rfl dX11_orders_195 (by decide) ?_
    refine ev_istore_n (L1 := [(2, 78), (8, -1), (0, 0)]) 197 rfl dX11_orders_196 rfl (Nat.le_of_ble_eq_true rfl) rfl ?_
    exact H
  · have H := H.2 cd
    refine ev_aload_n 178 rfl dX11_orders_177 rfl rfl ?_
    refine ev_getR (ki := 33) (v := 89) 181 rfl dX11_orders_178 lf_11_60 (s_78 hst) (by decide) rfl (p_78_33 hst) ?_
    refine ev_iload_n 182 rfl dX11_orders_181 rfl rfl ?_
    refine ev_aload_n 183 rfl dX11_orders_182 rfl rfl ?_
    refine ev_getR (ki := 35) (v := 91) 186 rfl dX11_orders_183 lf_11_66 (s_78 hst) (by decide) rfl (p_78_35 hst) ?_
    refine ev_iload_n 187 rfl dX11_orders_186 rfl rfl ?_
    obtain ⟨b1, H⟩ := H
    refine ev_iaload 188 rfl dX11_orders_187 (s_91 hst) b1.1 b1.2 ?_
    obtain ⟨b2, H⟩ := H
    refine ev_iastore 189 rfl dX11_orders_188 (s_89 hst) b2.1 b2.2 ?_
    obtain ⟨h3, eh3⟩ : ∃ z : qM, z = qup h 89 v2 (h 91 v2) := ⟨_, rfl⟩
    rw [← eh3]
    have H := H h3 eh3
    obtain ⟨sd, H⟩ := H
    refine ev_iinc (L1 := [(2, 78), (8, -1), (0, (v2 + 1))]) 192 rfl dX11_orders_189 rfl sd (Nat.le_of_ble_eq_true rfl) rfl ?_
    refine ev_goto (tgt := 169) dX11_orders_192 (by decide) ?_
    exact H

set_option maxRecDepth 20000 in
theorem b_X11_orders_197 {X : qX} {d : Nat} {sh : qS} {pt h : qM} {K : Int → qM → Prop} {v2 : Int} (hst : St sh pt)
    (H : (((h 78 32) ≤ v2 → K (h 78 32) h) ∧ (v2 < (h 78 32) → (0 ≤ v2 ∧ v2 < 60) ∧ (0 ≤ v2 ∧ v2 < 60) ∧ ∀ h3 : qM, h3 = qup h 94 v2 (h 100 v2) → (0 ≤ v2 ∧ v2 < 60) ∧ (0 ≤ v2 ∧ v2 < 60) ∧ ∀ h6 : qM, h6 = qup h3 95 v2 (h3 101 v2) → (0 ≤ v2 ∧ v2 < 60) ∧ (0 ≤ v2 ∧ v2 < 60) ∧ ∀ h9 : qM, h9 = qup h6 96 v2 (h6 102 v2) → (0 ≤ v2 ∧ v2 < 60) ∧ (0 ≤ v2 ∧ v2 < 60) ∧ ∀ h12 : qM, h12 = qup h9 97 v2 (h9 103 v2) → (0 ≤ v2 ∧ v2 < 60) ∧ (0 ≤ v2 ∧ v2 < 60) ∧ ∀ h15 : qM, h15 = qup h12 98 v2 (h12 104 v2) → (0 ≤ v2 ∧ v2 < 60) ∧ (0 ≤ v2 ∧ v2 < 60) ∧ ∀ h18 : qM, h18 = qup h15 99 v2 (h15 105 v2) → (qI (v2 + 1)) ∧ EvI X (d + 1) mX11_orders 197 [(2, 78), (8, -1), (0, (v2 + 1))] [] sh pt h18 K))) :
    EvI X (d + 1) mX11_orders 197 [(2, 78), (8, -1), (0, v2)] [] sh pt h K := by
  show Ev X (d + 1) 0 0 mX11_orders 197 [(2, 78), (8, -1), (0, v2)] [] (sh, pt, h) (qRI sh pt K)
  refine ev_iload_n 198 rfl dX11_orders_197 rfl rfl ?_
  refine ev_aload_n 199 rfl dX11_orders_198 rfl rfl ?_
  refine ev_getI (ki := 32) 202 rfl dX11_orders_199 lf_11_344 (Or.inl rfl) (s_78 hst) (by decide) rfl ?_
  refine ev_icmp_ge (tgt := 283) 205 rfl dX11_orders_202 (by decide) (fun cd => ?_) (fun cd => ?_)
  · have H := H.1 cd
    refine ev_aload_n 284 rfl dX11_orders_283 rfl rfl ?_
    refine ev_getI (ki := 32) 287 rfl dX11_orders_284 lf_11_344 (Or.inl rfl) (s_78 hst) (by decide) rfl ?_
    exact ev_retI dX11_orders_287 rfl H
  · have H := H.2 cd
    refine ev_aload_n 206 rfl dX11_orders_205 rfl rfl ?_
    refine ev_getR (ki := 38) (v := 94) 209 rfl dX11_orders_206 lf_11_75 (s_78 hst) (by decide) rfl (p_78_38 hst) ?_
    refine ev_iload_n 210 rfl dX11_orders_209 rfl rfl ?_
    refine ev_aload_n 211 rfl dX11_orders_210 rfl rfl ?_
    refine ev_getR (ki := 44) (v := 100) 214 rfl dX11_orders_211 lf_11_93 (s_78 hst) (by decide) rfl (p_78_44 hst) ?_
    refine ev_iload_n 215 rfl dX11_orders_214 rfl rfl ?_
    obtain ⟨b1, H⟩ := H
    refine ev_iaload 216 rfl dX11_orders_215 (s_100 hst) b1.1 b1.2 ?_
    obtain ⟨b2, H⟩ := H
    refine ev_iastore 217 rfl dX11_orders_216 (s_94 hst) b2.1 b2.2 ?_
    obtain ⟨h3, eh3⟩ : ∃ z : qM, z = qup h 94 v2 (h 100 v2) := ⟨_, rfl⟩
    rw [← eh3]
    have H := H h3 eh3
    refine ev_aload_n 218 rfl dX11_orders_217 rfl rfl ?_
    refine ev_getR (ki := 39) (v := 95) 221 rfl dX11_orders_218 lf_11_78 (s_78 hst) (by decide) rfl (p_78_39 hst) ?_
    refine ev_iload_n 222 rfl dX11_orders_221 rfl rfl ?_
    refine ev_aload_n 223 rfl dX11_orders_222 rfl rfl ?_
    refine ev_getR (ki := 45) (v := 101) 226 rfl dX11_orders_223 lf_11_96 (s_78 hst) (by decide) rfl (p_78_45 hst) ?_
    refine ev_iload_n 227 rfl dX11_orders_226 rfl rfl ?_
    obtain ⟨b4, H⟩ := H
    refine ev_iaload 228 rfl dX11_orders_227 (s_101 hst) b4.1 b4.2 ?_
    obtain ⟨b5, H⟩ := H
    refine ev_iastore 229 rfl dX11_orders_228 (s_95 hst) b5.1 b5.2 ?_
    obtain ⟨h6, eh6⟩ : ∃ z : qM, z = qup h3 95 v2 (h3 101 v2) := ⟨_, rfl⟩
    rw [← eh6]
    have H := H h6 eh6
    refine ev_aload_n 230 rfl dX11_orders_229 rfl rfl ?_
    refine ev_getR (ki := 40) (v := 96) 233 rfl dX11_orders_230 lf_11_81 (s_78 hst) (by decide) rfl (p_78_40 hst) ?_
    refine ev_iload_n 234 rfl dX11_orders_233 rfl rfl ?_
    refine ev_aload_n 235 rfl dX11_orders_234 rfl rfl ?_
    refine ev_getR (ki := 46) (v := 102) 238 rfl dX11_orders_235 lf_11_99 (s_78 hst) (by decide) rfl (p_78_46 hst) ?_
    refine ev_iload_n 239 rfl dX11_orders_238 rfl rfl ?_
    obtain ⟨b7, H⟩ := H
    refine ev_iaload 240 rfl dX11_orders_239 (s_102 hst) b7.1 b7.2 ?_
    obtain ⟨b8, H⟩ := H
    refine ev_iastore 241 rfl dX11_orders_240 (s_96 hst) b8.1 b8.2 ?_
    obtain ⟨h9, eh9⟩ : ∃ z : qM, z = qup h6 96 v2 (h6 102 v2) := ⟨_, rfl⟩
    rw [← eh9]
    have H := H h9 eh9
    refine ev_aload_n 242 rfl dX11_orders_241 rfl rfl ?_
    refine ev_getR (ki := 41) (v := 97) 245 rfl dX11_orders_242 lf_11_84 (s_78 hst) (by decide) rfl (p_78_41 hst) ?_
    refine ev_iload_n 246 rfl dX11_orders_245 rfl rfl ?_
    refine ev_aload_n 247 rfl dX11_orders_246 rfl rfl ?_
    refine ev_getR (ki := 47) (v := 103) 250 rfl dX11_orders_247 lf_11_102 (s_78 hst) (by decide) rfl (p_78_47 hst) ?_
    refine ev_iload_n 251 rfl dX11_orders_250 rfl rfl ?_
    obtain ⟨b10, H⟩ := H
    refine ev_iaload 252 rfl dX11_orders_251 (s_103 hst) b10.1 b10.2 ?_
    obtain ⟨b11, H⟩ := H
    refine ev_iastore 253 rfl dX11_orders_252 (s_97 hst) b11.1 b11.2 ?_
    obtain ⟨h12, eh12⟩ : ∃ z : qM, z = qup h9 97 v2 (h9 103 v2) := ⟨_, rfl⟩
    rw [← eh12]
    have H := H h12 eh12
    refine ev_aload_n 254 rfl dX11_orders_253 rfl rfl ?_
    refine ev_getR (ki := 42) (v := 98) 257 rfl dX11_orders_254 lf_11_87 (s_78 hst) (by decide) rfl (p_78_42 hst) ?_
    refine ev_iload_n 258 rfl dX11_orders_257 rfl rfl ?_
    refine ev_aload_n 259 rfl dX11_orders_258 rfl rfl ?_
    refine ev_getR (ki := 48) (v := 104) 262 rfl dX11_orders_259 lf_11_105 (s_78 hst) (by decide) rfl (p_78_48 hst) ?_
    refine ev_iload_n 263 rfl dX11_orders_262 rfl rfl ?_
    obtain ⟨b13, H⟩ := H
    refine ev_iaload 264 rfl dX11_orders_263 (s_104 hst) b13.1 b13.2 ?_
    obtain ⟨b14, H⟩ := H
    refine ev_iastore 265 rfl dX11_orders_264 (s_98 hst) b14.1 b14.2 ?_
    obtain ⟨h15, eh15⟩ : ∃ z : qM, z = qup h12 98 v2 (h12 104 v2) := ⟨_, rfl⟩
    rw [← eh15]
    have H := H h15 eh15
    refine ev_aload_n 266 rfl dX11_orders_265 rfl rfl ?_
    refine ev_getR (ki := 43) (v := 99) 269 rfl dX11_orders_266 lf_11_90 (s_78 hst) (by decide) rfl (p_78_43 hst) ?_
    refine ev_iload_n 270 rfl dX11_orders_269 rfl rfl ?_
    refine ev_aload_n 271 rfl dX11_orders_270 rfl rfl ?_
    refine ev_getR (ki := 49) (v := 105) 274 rfl dX11_orders_271 lf_11_108 (s_78 hst) (by decide) rfl (p_78_49 hst) ?_
    refine ev_iload_n 275 rfl dX11_orders_274 rfl rfl ?_
    obtain ⟨b16, H⟩ := H
    refine ev_iaload 276 rfl dX11_orders_275 (s_105 hst) b16.1 b16.2 ?_
    obtain ⟨b17, H⟩ := H
    refine ev_iastore 277 rfl dX11_orders_276 (s_99 hst) b17.1 b17.2 ?_
    obtain ⟨h18, eh18⟩ : ∃ z : qM, z = qup h15 99 v2 (h15 105 v2) := ⟨_, rfl⟩
    rw [← eh18]
    have H := H h18 eh18
    obtain ⟨sd, H⟩ := H
    refine ev_iinc (L1 := [(2, 78), (8, -1), (0, (v2 + 1))]) 280 rfl dX11_orders_277 rfl sd (Nat.le_of_ble_eq_true rfl) rfl ?_
    refine ev_goto (tgt := 197) dX11_orders_280 (by decide) ?_
    exact H

set_option maxRecDepth 20000 in
theorem b_X11_fault {X : qX} {d : Nat} {sh : qS} {pt h : qM} {K : Int → qM → Prop} {v1 : Int} (hst : St sh pt)
    (H : ∀ h1 : qM, h1 = qup h 78 1 0 → ((¬ v1 = 0 → ((¬ v1 = 1 → K (-1) h1) ∧ (v1 = 1 → K (h1 78 21) h1))) ∧ (v1 = 0 → K (h1 78 20) h1))) :
    RunI X d mX11_fault [(2, 78), (0, v1)] sh pt h K := by
  show Ev X d 0 0 mX11_fault 0 [(2, 78), (0, v1)] [] (sh, pt, h) (qRI sh pt K)
  refine ev_aload_n 1 rfl dX11_fault_0 rfl rfl ?_
  refine ev_iconst 2 rfl dX11_fault_1 (by decide) ?_
  refine ev_putI (ki := 1) 5 rfl dX11_fault_2 lf_11_213 (Or.inl rfl) (s_78 hst) (by decide) rfl ?_
  obtain ⟨h1, eh1⟩ : ∃ z : qM, z = qup h 78 1 0 := ⟨_, rfl⟩
  rw [← eh1]
  have H := H h1 eh1
  refine ev_iload_n 6 rfl dX11_fault_5 rfl rfl ?_
  refine ev_if_ne (tgt := 16) 9 rfl dX11_fault_6 (by decide) (fun cd => ?_) (fun cd => ?_)
  · have H := H.1 cd
    refine ev_iload_n 17 rfl dX11_fault_16 rfl rfl ?_
    refine ev_iconst 18 rfl dX11_fault_17 (by decide) ?_
    refine ev_icmp_ne (tgt := 28) 21 rfl dX11_fault_18 (by decide) (fun cd => ?_) (fun cd => ?_)
    · have H := H.1 cd
      refine ev_iconst 29 rfl dX11_fault_28 (by decide) ?_
      exact ev_retI dX11_fault_29 rfl H
    · have H := H.2 cd
      refine ev_aload_n 22 rfl dX11_fault_21 rfl rfl ?_
      refine ev_getI (ki := 21) 25 rfl dX11_fault_22 lf_11_54 (Or.inl rfl) (s_78 hst) (by decide) rfl ?_
      refine ev_goto (tgt := 29) dX11_fault_25 (by decide) ?_
      exact ev_retI dX11_fault_29 rfl H
  · have H := H.2 cd
    refine ev_aload_n 10 rfl dX11_fault_9 rfl rfl ?_
    refine ev_getI (ki := 20) 13 rfl dX11_fault_10 lf_11_51 (Or.inl rfl) (s_78 hst) (by decide) rfl ?_
    refine ev_goto (tgt := 29) dX11_fault_13 (by decide) ?_
    exact ev_retI dX11_fault_29 rfl H

set_option maxRecDepth 20000 in
theorem b_X11_cell {X : qX} {d : Nat} {sh : qS} {pt h : qM} {K : Int → qM → Prop} {v0 v1 : Int} (hst : St sh pt)
    (H : (qI (20 * v0)) ∧ (qI ((20 * v0) + v1)) ∧ K ((20 * v0) + v1) h) :
    RunI X d mX11_cell [(0, v0), (0, v1)] sh pt h K := by
  show Ev X d 0 0 mX11_cell 0 [(0, v0), (0, v1)] [] (sh, pt, h) (qRI sh pt K)
  refine ev_bipush 2 rfl dX11_cell_0 (by decide) (by decide) ?_
  refine ev_iload_n 3 rfl dX11_cell_2 rfl rfl ?_
  obtain ⟨sd, H⟩ := H
  refine ev_imul 4 rfl dX11_cell_3 sd ?_
  refine ev_iload_n 5 rfl dX11_cell_4 rfl rfl ?_
  obtain ⟨sd, H⟩ := H
  refine ev_iadd 6 rfl dX11_cell_5 sd ?_
  exact ev_retI dX11_cell_6 rfl H

set_option maxRecDepth 20000 in
theorem b_X11_eastOf {X : qX} {d : Nat} {sh : qS} {pt h : qM} {K : Int → qM → Prop} {v0 : Int} (hst : St sh pt)
    (H : ((v0 = 0 → K 0 h) ∧ (¬ v0 = 0 → ((¬ v0 = 4 → ((4 ≤ v0 → K (-1) h) ∧ (v0 < 4 → K 1 h))) ∧ (v0 = 4 → K 0 h))))) :
    RunI X d mX11_eastOf [(0, v0)] sh pt h K := by
  show Ev X d 0 0 mX11_eastOf 0 [(0, v0)] [] (sh, pt, h) (qRI sh pt K)
  refine ev_iload_n 1 rfl dX11_eastOf_0 rfl rfl ?_
  refine ev_if_eq (tgt := 9) 4 rfl dX11_eastOf_1 (by decide) (fun cd => ?_) (fun cd => ?_)
  · have H := H.1 cd
    refine ev_iconst 10 rfl dX11_eastOf_9 (by decide) ?_
    refine ev_goto (tgt := 23) dX11_eastOf_10 (by decide) ?_
    exact ev_retI dX11_eastOf_23 rfl H
  · have H := H.2 cd
    refine ev_iload_n 5 rfl dX11_eastOf_4 rfl rfl ?_
    refine ev_iconst 6 rfl dX11_eastOf_5 (by decide) ?_
    refine ev_icmp_ne (tgt := 13) 9 rfl dX11_eastOf_6 (by decide) (fun cd => ?_) (fun cd => ?_)
    · have H := H.1 cd
      refine ev_iload_n 14 rfl dX11_eastOf_13 rfl rfl ?_
      refine ev_iconst 15 rfl dX11_eastOf_14 (by decide) ?_
      refine ev_icmp_ge (tgt := 22) 18 rfl dX11_eastOf_15 (by decide) (fun cd => ?_) (fun cd => ?_)
      · have H := H.1 cd
        refine ev_iconst 23 rfl dX11_eastOf_22 (by decide) ?_
        exact ev_retI dX11_eastOf_23 rfl H
      · have H := H.2 cd
        refine ev_iconst 19 rfl dX11_eastOf_18 (by decide) ?_
        refine ev_goto (tgt := 23) dX11_eastOf_19 (by decide) ?_
        exact ev_retI dX11_eastOf_23 rfl H
    · have H := H.2 cd
      refine ev_iconst 10 rfl dX11_eastOf_9 (by decide) ?_
      refine ev_goto (tgt := 23) dX11_eastOf_10 (by decide) ?_
      exact ev_retI dX11_eastOf_23 rfl H

set_option maxRecDepth 20000 in
theorem b_X11_northOf {X : qX} {d : Nat} {sh : qS} {pt h : qM} {K : Int → qM → Prop} {v0 : Int} (hst : St sh pt)
    (H : ((v0 = 2 → K 0 h) ∧ (¬ v0 = 2 → ((¬ v0 = 6 → ((v0 ≤ 2 → K 1 h) ∧ (2 < v0 → ((6 ≤ v0 → K 1 h) ∧ (v0 < 6 → K (-1) h))))) ∧ (v0 = 6 → K 0 h))))) :
    RunI X d mX11_northOf [(0, v0)] sh pt h K := by
  show Ev X d 0 0 mX11_northOf 0 [(0, v0)] [] (sh, pt, h) (qRI sh pt K)
  refine ev_iload_n 1 rfl dX11_northOf_0 rfl rfl ?_
  refine ev_iconst 2 rfl dX11_northOf_1 (by decide) ?_
  refine ev_icmp_eq (tgt := 11) 5 rfl dX11_northOf_2 (by decide) (fun cd => ?_) (fun cd => ?_)
  · have H := H.1 cd
    refine ev_iconst 12 rfl dX11_northOf_11 (by decide) ?_
    refine ev_goto (tgt := 31) dX11_northOf_12 (by decide) ?_
    exact ev_retI dX11_northOf_31 rfl H
  · have H := H.2 cd
    refine ev_iload_n 6 rfl dX11_northOf_5 rfl rfl ?_
    refine ev_bipush 8 rfl dX11_northOf_6 (by decide) (by decide) ?_
    refine ev_icmp_ne (tgt := 15) 11 rfl dX11_northOf_8 (by decide) (fun cd => ?_) (fun cd => ?_)
    · have H := H.1 cd
      refine ev_iload_n 16 rfl dX11_northOf_15 rfl rfl ?_
      refine ev_iconst 17 rfl dX11_northOf_16 (by decide) ?_
      refine ev_icmp_le (tgt := 30) 20 rfl dX11_northOf_17 (by decide) (fun cd => ?_) (fun cd => ?_)
      · have H := H.1 cd
        refine ev_iconst 31 rfl dX11_northOf_30 (by decide) ?_
        exact ev_retI dX11_northOf_31 rfl H
      · have H := H.2 cd
        refine ev_iload_n 21 rfl dX11_northOf_20 rfl rfl ?_
        refine ev_bipush 23 rfl dX11_northOf_21 (by decide) (by decide) ?_
        refine ev_icmp_ge (tgt := 30) 26 rfl dX11_northOf_23 (by decide) (fun cd => ?_) (fun cd => ?_)
        · have H := H.1 cd
          refine ev_iconst 31 rfl dX11_northOf_30 (by decide) ?_
          exact ev_retI dX11_northOf_31 rfl H
        · have H := H.2 cd
          refine ev_iconst 27 rfl dX11_northOf_26 (by decide) ?_
          refine ev_goto (tgt := 31) dX11_northOf_27 (by decide) ?_
          exact ev_retI dX11_northOf_31 rfl H
    · have H := H.2 cd
      refine ev_iconst 12 rfl dX11_northOf_11 (by decide) ?_
      refine ev_goto (tgt := 31) dX11_northOf_12 (by decide) ?_
      exact ev_retI dX11_northOf_31 rfl H

set_option maxRecDepth 20000 in
theorem b_X11_between {X : qX} {d : Nat} {sh : qS} {pt h : qM} {K : Int → qM → Prop} {v0 v1 v2 v3 : Int} (hst : St sh pt)
    (H : (qI (2 * v2)) ∧ (qI ((2 * v2) * v1)) ∧ (qI (((2 * v2) * v1) + v3)) ∧ (qI (2 * v3)) ∧ RunI X d mJ9_floorDiv_7cf53 [(0, (((2 * v2) * v1) + v3)), (0, (2 * v3))] sh pt h (fun r2 h1 => (qI (v0 + r2)) ∧ K (v0 + r2) h1)) :
    RunI X (d + 1) mX11_between [(0, v0), (0, v1), (0, v2), (0, v3)] sh pt h K := by
  show Ev X (d + 1) 0 0 mX11_between 0 [(0, v0), (0, v1), (0, v2), (0, v3)] [] (sh, pt, h) (qRI sh pt K)
  refine ev_iload_n 1 rfl dX11_between_0 rfl rfl ?_
  refine ev_iconst 2 rfl dX11_between_1 (by decide) ?_
  refine ev_iload_n 3 rfl dX11_between_2 rfl rfl ?_
  obtain ⟨sd, H⟩ := H
  refine ev_imul 4 rfl dX11_between_3 sd ?_
  refine ev_iload_n 5 rfl dX11_between_4 rfl rfl ?_
  obtain ⟨sd, H⟩ := H
  refine ev_imul 6 rfl dX11_between_5 sd ?_
  refine ev_iload_n 7 rfl dX11_between_6 rfl rfl ?_
  obtain ⟨sd, H⟩ := H
  refine ev_iadd 8 rfl dX11_between_7 sd ?_
  refine ev_iconst 9 rfl dX11_between_8 (by decide) ?_
  refine ev_iload_n 10 rfl dX11_between_9 rfl rfl ?_
  obtain ⟨sd, H⟩ := H
  refine ev_imul 11 rfl dX11_between_10 sd ?_
  refine ev_cSI (As := [(0, (((2 * v2) * v1) + v3)), (0, (2 * v3))]) (rest := [(0, v0)]) 14 rfl dX11_between_11 lm_11_369 mm_J9_floorDiv_7cf53 rfl rfl (Nat.le_of_ble_eq_true rfl) (Nat.le_of_ble_eq_true rfl) (Nat.le_refl _) H ?_
  intro r2 h1 H
  obtain ⟨sd, H⟩ := H
  refine ev_iadd 15 rfl dX11_between_14 sd ?_
  exact ev_retI dX11_between_15 rfl H

set_option maxRecDepth 20000 in
theorem b_X11_fails {X : qX} {d : Nat} {sh : qS} {pt h : qM} {K : qM → Prop} {v1 v2 : Int} (hst : St sh pt)
    (H : (((h 78 67) ≤ 0 → ∀ h1 : qM, h1 = qup h 78 67 v1 → (0 ≤ v2 ∧ v2 < 60) ∧ ∀ h3 : qM, h3 = qup h1 78 68 (h1 98 v2) → K h3) ∧ (0 < (h 78 67) → K h))) :
    RunV X d mX11_fails [(2, 78), (0, v1), (0, v2)] sh pt h K := by
  show Ev X d 0 0 mX11_fails 0 [(2, 78), (0, v1), (0, v2)] [] (sh, pt, h) (qRV sh pt K)
  refine ev_aload_n 1 rfl dX11_fails_0 rfl rfl ?_
  refine ev_getI (ki := 67) 4 rfl dX11_fails_1 lf_11_374 (Or.inl rfl) (s_78 hst) (by decide) rfl ?_
  refine ev_if_le (tgt := 8) 7 rfl dX11_fails_4 (by decide) (fun cd => ?_) (fun cd => ?_)
  · have H := H.1 cd
    refine ev_aload_n 9 rfl dX11_fails_8 rfl rfl ?_
    refine ev_iload_n 10 rfl dX11_fails_9 rfl rfl ?_
    refine ev_putI (ki := 67) 13 rfl dX11_fails_10 lf_11_374 (Or.inl rfl) (s_78 hst) (by decide) rfl ?_
    obtain ⟨h1, eh1⟩ : ∃ z : qM, z = qup h 78 67 v1 := ⟨_, rfl⟩
    rw [← eh1]
    have H := H h1 eh1
    refine ev_aload_n 14 rfl dX11_fails_13 rfl rfl ?_
    refine ev_aload_n 15 rfl dX11_fails_14 rfl rfl ?_
    refine ev_getR (ki := 42) (v := 98) 18 rfl dX11_fails_15 lf_11_87 (s_78 hst) (by decide) rfl (p_78_42 hst) ?_
    refine ev_iload_n 19 rfl dX11_fails_18 rfl rfl ?_
    obtain ⟨b2, H⟩ := H
    refine ev_iaload 20 rfl dX11_fails_19 (s_98 hst) b2.1 b2.2 ?_
    refine ev_putI (ki := 68) 23 rfl dX11_fails_20 lf_11_377 (Or.inl rfl) (s_78 hst) (by decide) rfl ?_
    obtain ⟨h3, eh3⟩ : ∃ z : qM, z = qup h1 78 68 (h1 98 v2) := ⟨_, rfl⟩
    rw [← eh3]
    have H := H h3 eh3
    exact ev_retV dX11_fails_23 rfl H
  · have H := H.2 cd
    exact ev_retV dX11_fails_7 rfl H

set_option maxRecDepth 20000 in
theorem b_X11_runOrders {X : qX} {d : Nat} {sh : qS} {pt h : qM} {K : qM → Prop} {v1 v2 : Int} (hst : St sh pt)
    (H : EvV X (d + 1) mX11_runOrders 2 [(2, 78), (8, -1), (0, v2), (0, v1), (8, -1)] [] sh pt h K) :
    RunV X (d + 1) mX11_runOrders [(2, 78), (0, v1), (0, v2)] sh pt h K := by
  show Ev X (d + 1) 0 0 mX11_runOrders 0 [(2, 78), (0, v1), (0, v2), (8, -1), (8, -1)] [] (sh, pt, h) (qRV sh pt K)
  refine ev_iload_n 1 rfl dX11_runOrders_0 rfl rfl ?_
  refine ev_istore_n (L1 := [(2, 78), (0, v1), (0, v2), (0, v1), (8, -1)]) 2 rfl dX11_runOrders_1 rfl (Nat.le_of_ble_eq_true rfl) rfl ?_
  refine Ev.drop [1] rfl ?_
  exact H

set_option maxRecDepth 20000 in
theorem b_X11_runOrders_2 {X : qX} {d : Nat} {sh : qS} {pt h : qM} {K : qM → Prop} {v2 v3 : Int} (hst : St sh pt)
    (H : ((v2 ≤ v3 → K h) ∧ (v3 < v2 → ((¬ (h 78 67) = 0 → K h) ∧ ((h 78 67) = 0 → ((¬ (h 78 64) = 500 → (qI ((h 78 64) + 1)) ∧ ∀ h1 : qM, h1 = qup h 78 64 ((h 78 64) + 1) → (0 ≤ v3 ∧ v3 < 60) ∧ ((¬ (h1 94 v3) = 10 → (0 ≤ v3 ∧ v3 < 60) ∧ ((¬ (h1 94 v3) = 5 → RunV X d mX11_goes [(2, 78), (0, v3)] sh pt h1 (fun h4 => (0 ≤ v3 ∧ v3 < 60) ∧ EvV X (d + 1) mX11_runOrders 2 [(2, 78), (8, -1), (0, v2), (0, (h4 99 v3)), (8, -1)] [] sh pt h4 K)) ∧ ((h1 94 v3) = 5 → (0 ≤ v3 ∧ v3 < 60) ∧ RunV X d mX11_turns [(2, 78), (0, (h1 95 v3))] sh pt h1 (fun h7 => (0 ≤ v3 ∧ v3 < 60) ∧ EvV X (d + 1) mX11_runOrders 2 [(2, 78), (8, -1), (0, v2), (0, (h7 99 v3)), (8, -1)] [] sh pt h7 K)))) ∧ ((h1 94 v3) = 10 → EvV X (d + 1) mX11_runOrders 57 [(2, 78), (8, -1), (0, v2), (0, v3), (0, 0)] [] sh pt h1 K))) ∧ ((h 78 64) = 500 → RunV X d mX11_fails [(2, 78), (0, 1), (0, v3)] sh pt h (fun h9 => (0 ≤ v3 ∧ v3 < 60) ∧ EvV X (d + 1) mX11_runOrders 2 [(2, 78), (8, -1), (0, v2), (0, (h9 99 v3)), (8, -1)] [] sh pt h9 K)))))))) :
    EvV X (d + 1) mX11_runOrders 2 [(2, 78), (8, -1), (0, v2), (0, v3), (8, -1)] [] sh pt h K := by
  show Ev X (d + 1) 0 0 mX11_runOrders 2 [(2, 78), (8, -1), (0, v2), (0, v3), (8, -1)] [] (sh, pt, h) (qRV sh pt K)
  refine ev_iload_n 3 rfl dX11_runOrders_2 rfl rfl ?_
  refine ev_iload_n 4 rfl dX11_runOrders_3 rfl rfl ?_
  refine ev_icmp_ge (tgt := 135) 7 rfl dX11_runOrders_4 (by decide) (fun cd => ?_) (fun cd => ?_)
  · have H := H.1 cd
    exact ev_retV dX11_runOrders_135 rfl H
  · have H := H.2 cd
    refine ev_aload_n 8 rfl dX11_runOrders_7 rfl rfl ?_
    refine ev_getI (ki := 67) 11 rfl dX11_runOrders_8 lf_11_374 (Or.inl rfl) (s_78 hst) (by decide) rfl ?_
    refine ev_if_ne (tgt := 135) 14 rfl dX11_runOrders_11 (by decide) (fun cd => ?_) (fun cd => ?_)
    · have H := H.1 cd
      exact ev_retV dX11_runOrders_135 rfl H
    · have H := H.2 cd
      refine ev_aload_n 15 rfl dX11_runOrders_14 rfl rfl ?_
      refine ev_getI (ki := 64) 18 rfl dX11_runOrders_15 lf_11_380 (Or.inl rfl) (s_78 hst) (by decide) rfl ?_
      refine ev_sipush 21 rfl dX11_runOrders_18 (by decide) (by decide) ?_
      refine ev_icmp_ne (tgt := 33) 24 rfl dX11_runOrders_21 (by decide) (fun cd => ?_) (fun cd => ?_)
      · have H := H.1 cd
        refine ev_aload_n 34 rfl dX11_runOrders_33 rfl rfl ?_
        refine ev_dup 35 rfl dX11_runOrders_34 q21 ?_
        refine ev_getI (ki := 64) 38 rfl dX11_runOrders_35 lf_11_380 (Or.inl rfl) (s_78 hst) (by decide) rfl ?_
        refine ev_iconst 39 rfl dX11_runOrders_38 (by decide) ?_
        obtain ⟨sd, H⟩ := H
        refine ev_iadd 40 rfl dX11_runOrders_39 sd ?_
        refine ev_putI (ki := 64) 43 rfl dX11_runOrders_40 lf_11_380 (Or.inl rfl) (s_78 hst) (by decide) rfl ?_
        obtain ⟨h1, eh1⟩ : ∃ z : qM, z = qup h 78 64 ((h 78 64) + 1) := ⟨_, rfl⟩
        rw [← eh1]
        have H := H h1 eh1
        refine ev_aload_n 44 rfl dX11_runOrders_43 rfl rfl ?_
        refine ev_getR (ki := 38) (v := 94) 47 rfl dX11_runOrders_44 lf_11_75 (s_78 hst) (by decide) rfl (p_78_38 hst) ?_
        refine ev_iload_n 48 rfl dX11_runOrders_47 rfl rfl ?_
        obtain ⟨b2, H⟩ := H
        refine ev_iaload 49 rfl dX11_runOrders_48 (s_94 hst) b2.1 b2.2 ?_
        refine ev_bipush 51 rfl dX11_runOrders_49 (by decide) (by decide) ?_
        refine ev_icmp_ne (tgt := 97) 54 rfl dX11_runOrders_51 (by decide) (fun cd => ?_) (fun cd => ?_)
        · have H := H.1 cd
          refine ev_aload_n 98 rfl dX11_runOrders_97 rfl rfl ?_
          refine ev_getR (ki := 38) (v := 94) 101 rfl dX11_runOrders_98 lf_11_75 (s_78 hst) (by decide) rfl (p_78_38 hst) ?_
          refine ev_iload_n 102 rfl dX11_runOrders_101 rfl rfl ?_
          obtain ⟨b3, H⟩ := H
          refine ev_iaload 103 rfl dX11_runOrders_102 (s_94 hst) b3.1 b3.2 ?_
          refine ev_iconst 104 rfl dX11_runOrders_103 (by decide) ?_
          refine ev_icmp_ne (tgt := 120) 107 rfl dX11_runOrders_104 (by decide) (fun cd => ?_) (fun cd => ?_)
          · have H := H.1 cd
            refine ev_aload_n 121 rfl dX11_runOrders_120 rfl rfl ?_
            refine ev_iload_n 122 rfl dX11_runOrders_121 rfl rfl ?_
            refine ev_cVV (As := [(0, v3)]) (rest := []) 125 rfl dX11_runOrders_122 lm_11_391 mm_X11_goes (s_78 hst) rfl rfl (Nat.le_of_ble_eq_true rfl) (Nat.le_of_ble_eq_true rfl) (Nat.le_refl _) H ?_
            intro h4 H
            refine ev_aload_n 126 rfl dX11_runOrders_125 rfl rfl ?_
            refine ev_getR (ki := 43) (v := 99) 129 rfl dX11_runOrders_126 lf_11_90 (s_78 hst) (by decide) rfl (p_78_43 hst) ?_
            refine ev_iload_n 130 rfl dX11_runOrders_129 rfl rfl ?_
            obtain ⟨b5, H⟩ := H
            refine ev_iaload 131 rfl dX11_runOrders_130 (s_99 hst) b5.1 b5.2 ?_
            refine ev_istore_n (L1 := [(2, 78), (8, -1), (0, v2), (0, (h4 99 v3)), (8, -1)]) 132 rfl dX11_runOrders_131 rfl (Nat.le_of_ble_eq_true rfl) rfl ?_
            refine ev_goto (tgt := 2) dX11_runOrders_132 (by decide) ?_
            exact H
          · have H := H.2 cd
            refine ev_aload_n 108 rfl dX11_runOrders_107 rfl rfl ?_
            refine ev_aload_n 109 rfl dX11_runOrders_108 rfl rfl ?_
            refine ev_getR (ki := 39) (v := 95) 112 rfl dX11_runOrders_109 lf_11_78 (s_78 hst) (by decide) rfl (p_78_39 hst) ?_
            refine ev_iload_n 113 rfl dX11_runOrders_112 rfl rfl ?_
            obtain ⟨b6, H⟩ := H
            refine ev_iaload 114 rfl dX11_runOrders_113 (s_95 hst) b6.1 b6.2 ?_
            refine ev_cVV (As := [(0, (h1 95 v3))]) (rest := []) 117 rfl dX11_runOrders_114 lm_11_388 mm_X11_turns (s_78 hst) rfl rfl (Nat.le_of_ble_eq_true rfl) (Nat.le_of_ble_eq_true rfl) (Nat.le_refl _) H ?_
            intro h7 H
            refine ev_goto (tgt := 125) dX11_runOrders_117 (by decide) ?_
            refine ev_aload_n 126 rfl dX11_runOrders_125 rfl rfl ?_
            refine ev_getR (ki := 43) (v := 99) 129 rfl dX11_runOrders_126 lf_11_90 (s_78 hst) (by decide) rfl (p_78_43 hst) ?_
            refine ev_iload_n 130 rfl dX11_runOrders_129 rfl rfl ?_
            obtain ⟨b8, H⟩ := H
            refine ev_iaload 131 rfl dX11_runOrders_130 (s_99 hst) b8.1 b8.2 ?_
            refine ev_istore_n (L1 := [(2, 78), (8, -1), (0, v2), (0, (h7 99 v3)), (8, -1)]) 132 rfl dX11_runOrders_131 rfl (Nat.le_of_ble_eq_true rfl) rfl ?_
            refine ev_goto (tgt := 2) dX11_runOrders_132 (by decide) ?_
            exact H
        · have H := H.2 cd
          refine ev_iconst 55 rfl dX11_runOrders_54 (by decide) ?_
          refine ev_istore (L1 := [(2, 78), (8, -1), (0, v2), (0, v3), (0, 0)]) 57 rfl dX11_runOrders_55 (Nat.le_of_ble_eq_true rfl) rfl ?_
          exact H
      · have H := H.2 cd
        refine ev_aload_n 25 rfl dX11_runOrders_24 rfl rfl ?_
        refine ev_iconst 26 rfl dX11_runOrders_25 (by decide) ?_
        refine ev_iload_n 27 rfl dX11_runOrders_26 rfl rfl ?_
        refine ev_cVV (As := [(0, 1), (0, v3)]) (rest := []) 30 rfl dX11_runOrders_27 lm_11_383 mm_X11_fails (s_78 hst) rfl rfl (Nat.le_of_ble_eq_true rfl) (Nat.le_of_ble_eq_true rfl) (Nat.le_refl _) H ?_
        intro h9 H
        refine ev_goto (tgt := 125) dX11_runOrders_30 (by decide) ?_
        refine ev_aload_n 126 rfl dX11_runOrders_125 rfl rfl ?_
        refine ev_getR (ki := 43) (v := 99) 129 rfl dX11_runOrders_126 lf_11_90 (s_78 hst) (by decide) rfl (p_78_43 hst) ?_
        refine ev_iload_n 130 rfl dX11_runOrders_129 rfl rfl ?_
        obtain ⟨b10, H⟩ := H
        refine ev_iaload 131 rfl dX11_runOrders_130 (s_99 hst) b10.1 b10.2 ?_
        refine ev_istore_n (L1 := [(2, 78), (8, -1), (0, v2), (0, (h9 99 v3)), (8, -1)]) 132 rfl dX11_runOrders_131 rfl (Nat.le_of_ble_eq_true rfl) rfl ?_
        refine ev_goto (tgt := 2) dX11_runOrders_132 (by decide) ?_
        exact H

set_option maxRecDepth 20000 in
theorem b_X11_runOrders_57 {X : qX} {d : Nat} {sh : qS} {pt h : qM} {K : qM → Prop} {v2 v3 v4 : Int} (hst : St sh pt)
    (H : (0 ≤ v3 ∧ v3 < 60) ∧ (((h 95 v3) ≤ v4 → (0 ≤ v3 ∧ v3 < 60) ∧ EvV X (d + 1) mX11_runOrders 2 [(2, 78), (8, -1), (0, v2), (0, (h 99 v3)), (8, -1)] [] sh pt h K) ∧ (v4 < (h 95 v3) → ((¬ (h 78 67) = 0 → (0 ≤ v3 ∧ v3 < 60) ∧ EvV X (d + 1) mX11_runOrders 2 [(2, 78), (8, -1), (0, v2), (0, (h 99 v3)), (8, -1)] [] sh pt h K) ∧ ((h 78 67) = 0 → (qI (v3 + 1)) ∧ (0 ≤ v3 ∧ v3 < 60) ∧ RunV X d mX11_runOrders [(2, 78), (0, (v3 + 1)), (0, (h 99 v3))] sh pt h (fun h5 => (qI (v4 + 1)) ∧ EvV X (d + 1) mX11_runOrders 57 [(2, 78), (8, -1), (0, v2), (0, v3), (0, (v4 + 1))] [] sh pt h5 K)))))) :
    EvV X (d + 1) mX11_runOrders 57 [(2, 78), (8, -1), (0, v2), (0, v3), (0, v4)] [] sh pt h K := by
  show Ev X (d + 1) 0 0 mX11_runOrders 57 [(2, 78), (8, -1), (0, v2), (0, v3), (0, v4)] [] (sh, pt, h) (qRV sh pt K)
  refine ev_iload 59 rfl dX11_runOrders_57 rfl ?_
  refine ev_aload_n 60 rfl dX11_runOrders_59 rfl rfl ?_
  refine ev_getR (ki := 39) (v := 95) 63 rfl dX11_runOrders_60 lf_11_78 (s_78 hst) (by decide) rfl (p_78_39 hst) ?_
  refine ev_iload_n 64 rfl dX11_runOrders_63 rfl rfl ?_
  obtain ⟨b1, H⟩ := H
  refine ev_iaload 65 rfl dX11_runOrders_64 (s_95 hst) b1.1 b1.2 ?_
  refine ev_icmp_ge (tgt := 94) 68 rfl dX11_runOrders_65 (by decide) (fun cd => ?_) (fun cd => ?_)
  · have H := H.1 cd
    refine ev_goto (tgt := 125) dX11_runOrders_94 (by decide) ?_
    refine ev_aload_n 126 rfl dX11_runOrders_125 rfl rfl ?_
    refine ev_getR (ki := 43) (v := 99) 129 rfl dX11_runOrders_126 lf_11_90 (s_78 hst) (by decide) rfl (p_78_43 hst) ?_
    refine ev_iload_n 130 rfl dX11_runOrders_129 rfl rfl ?_
    obtain ⟨b2, H⟩ := H
    refine ev_iaload 131 rfl dX11_runOrders_130 (s_99 hst) b2.1 b2.2 ?_
    refine ev_istore_n (L1 := [(2, 78), (8, -1), (0, v2), (0, (h 99 v3)), (0, v4)]) 132 rfl dX11_runOrders_131 rfl (Nat.le_of_ble_eq_true rfl) rfl ?_
    refine ev_goto (tgt := 2) dX11_runOrders_132 (by decide) ?_
    refine Ev.drop [4] rfl ?_
    exact H
  · have H := H.2 cd
    refine ev_aload_n 69 rfl dX11_runOrders_68 rfl rfl ?_
    refine ev_getI (ki := 67) 72 rfl dX11_runOrders_69 lf_11_374 (Or.inl rfl) (s_78 hst) (by decide) rfl ?_
    refine ev_if_ne (tgt := 94) 75 rfl dX11_runOrders_72 (by decide) (fun cd => ?_) (fun cd => ?_)
    · have H := H.1 cd
      refine ev_goto (tgt := 125) dX11_runOrders_94 (by decide) ?_
      refine ev_aload_n 126 rfl dX11_runOrders_125 rfl rfl ?_
      refine ev_getR (ki := 43) (v := 99) 129 rfl dX11_runOrders_126 lf_11_90 (s_78 hst) (by decide) rfl (p_78_43 hst) ?_
      refine ev_iload_n 130 rfl dX11_runOrders_129 rfl rfl ?_
      obtain ⟨b3, H⟩ := H
      refine ev_iaload 131 rfl dX11_runOrders_130 (s_99 hst) b3.1 b3.2 ?_
      refine ev_istore_n (L1 := [(2, 78), (8, -1), (0, v2), (0, (h 99 v3)), (0, v4)]) 132 rfl dX11_runOrders_131 rfl (Nat.le_of_ble_eq_true rfl) rfl ?_
      refine ev_goto (tgt := 2) dX11_runOrders_132 (by decide) ?_
      refine Ev.drop [4] rfl ?_
      exact H
    · have H := H.2 cd
      refine ev_aload_n 76 rfl dX11_runOrders_75 rfl rfl ?_
      refine ev_iload_n 77 rfl dX11_runOrders_76 rfl rfl ?_
      refine ev_iconst 78 rfl dX11_runOrders_77 (by decide) ?_
      obtain ⟨sd, H⟩ := H
      refine ev_iadd 79 rfl dX11_runOrders_78 sd ?_
      refine ev_aload_n 80 rfl dX11_runOrders_79 rfl rfl ?_
      refine ev_getR (ki := 43) (v := 99) 83 rfl dX11_runOrders_80 lf_11_90 (s_78 hst) (by decide) rfl (p_78_43 hst) ?_
      refine ev_iload_n 84 rfl dX11_runOrders_83 rfl rfl ?_
      obtain ⟨b4, H⟩ := H
      refine ev_iaload 85 rfl dX11_runOrders_84 (s_99 hst) b4.1 b4.2 ?_
      refine ev_cVV (As := [(0, (v3 + 1)), (0, (h 99 v3))]) (rest := []) 88 rfl dX11_runOrders_85 lm_11_385 mm_X11_runOrders (s_78 hst) rfl rfl (Nat.le_of_ble_eq_true rfl) (Nat.le_of_ble_eq_true rfl) (Nat.le_refl _) H ?_
      intro h5 H
      obtain ⟨sd, H⟩ := H
      refine ev_iinc (L1 := [(2, 78), (8, -1), (0, v2), (0, v3), (0, (v4 + 1))]) 91 rfl dX11_runOrders_88 rfl sd (Nat.le_of_ble_eq_true rfl) rfl ?_
      refine ev_goto (tgt := 57) dX11_runOrders_91 (by decide) ?_
      exact H

set_option maxRecDepth 20000 in
theorem b_X11_turns {X : qX} {d : Nat} {sh : qS} {pt h : qM} {K : qM → Prop} {v1 : Int} (hst : St sh pt)
    (H : (((h 78 65) = 0 → EvV X (d + 1) mX11_turns 41 [(2, 78), (0, v1), (8, -1), (8, -1), (8, -1)] [(0, 1)] sh pt h K) ∧ (¬ (h 78 65) = 0 → ((v1 = 4 → EvV X (d + 1) mX11_turns 41 [(2, 78), (0, v1), (8, -1), (8, -1), (8, -1)] [(0, 1)] sh pt h K) ∧ (¬ v1 = 4 → ((4 ≤ v1 → ((¬ (h 78 65) = 2 → EvV X (d + 1) mX11_turns 41 [(2, 78), (0, v1), (8, -1), (8, -1), (8, -1)] [(0, 0)] sh pt h K) ∧ ((h 78 65) = 2 → EvV X (d + 1) mX11_turns 41 [(2, 78), (0, v1), (8, -1), (8, -1), (8, -1)] [(0, 1)] sh pt h K))) ∧ (v1 < 4 → ((¬ (h 78 65) = 1 → EvV X (d + 1) mX11_turns 41 [(2, 78), (0, v1), (8, -1), (8, -1), (8, -1)] [(0, 0)] sh pt h K) ∧ ((h 78 65) = 1 → EvV X (d + 1) mX11_turns 41 [(2, 78), (0, v1), (8, -1), (8, -1), (8, -1)] [(0, 1)] sh pt h K))))))))) :
    RunV X (d + 1) mX11_turns [(2, 78), (0, v1)] sh pt h K := by
  show Ev X (d + 1) 0 0 mX11_turns 0 [(2, 78), (0, v1), (8, -1), (8, -1), (8, -1)] [] (sh, pt, h) (qRV sh pt K)
  refine ev_aload_n 1 rfl dX11_turns_0 rfl rfl ?_
  refine ev_getI (ki := 65) 4 rfl dX11_turns_1 lf_11_394 (Or.inl rfl) (s_78 hst) (by decide) rfl ?_
  refine ev_if_eq (tgt := 36) 7 rfl dX11_turns_4 (by decide) (fun cd => ?_) (fun cd => ?_)
  · have H := H.1 cd
    refine ev_iconst 37 rfl dX11_turns_36 (by decide) ?_
    refine ev_goto (tgt := 41) dX11_turns_37 (by decide) ?_
    exact H
  · have H := H.2 cd
    refine ev_iload_n 8 rfl dX11_turns_7 rfl rfl ?_
    refine ev_iconst 9 rfl dX11_turns_8 (by decide) ?_
    refine ev_icmp_eq (tgt := 36) 12 rfl dX11_turns_9 (by decide) (fun cd => ?_) (fun cd => ?_)
    · have H := H.1 cd
      refine ev_iconst 37 rfl dX11_turns_36 (by decide) ?_
      refine ev_goto (tgt := 41) dX11_turns_37 (by decide) ?_
      exact H
    · have H := H.2 cd
      refine ev_iload_n 13 rfl dX11_turns_12 rfl rfl ?_
      refine ev_iconst 14 rfl dX11_turns_13 (by decide) ?_
      refine ev_icmp_ge (tgt := 28) 17 rfl dX11_turns_14 (by decide) (fun cd => ?_) (fun cd => ?_)
      · have H := H.1 cd
        refine ev_aload_n 29 rfl dX11_turns_28 rfl rfl ?_
        refine ev_getI (ki := 65) 32 rfl dX11_turns_29 lf_11_394 (Or.inl rfl) (s_78 hst) (by decide) rfl ?_
        refine ev_iconst 33 rfl dX11_turns_32 (by decide) ?_
        refine ev_icmp_ne (tgt := 40) 36 rfl dX11_turns_33 (by decide) (fun cd => ?_) (fun cd => ?_)
        · have H := H.1 cd
          refine ev_iconst 41 rfl dX11_turns_40 (by decide) ?_
          exact H
        · have H := H.2 cd
          refine ev_iconst 37 rfl dX11_turns_36 (by decide) ?_
          refine ev_goto (tgt := 41) dX11_turns_37 (by decide) ?_
          exact H
      · have H := H.2 cd
        refine ev_aload_n 18 rfl dX11_turns_17 rfl rfl ?_
        refine ev_getI (ki := 65) 21 rfl dX11_turns_18 lf_11_394 (Or.inl rfl) (s_78 hst) (by decide) rfl ?_
        refine ev_iconst 22 rfl dX11_turns_21 (by decide) ?_
        refine ev_icmp_ne (tgt := 40) 25 rfl dX11_turns_22 (by decide) (fun cd => ?_) (fun cd => ?_)
        · have H := H.1 cd
          refine ev_iconst 41 rfl dX11_turns_40 (by decide) ?_
          exact H
        · have H := H.2 cd
          refine ev_goto (tgt := 36) dX11_turns_25 (by decide) ?_
          refine ev_iconst 37 rfl dX11_turns_36 (by decide) ?_
          refine ev_goto (tgt := 41) dX11_turns_37 (by decide) ?_
          exact H

set_option maxRecDepth 20000 in
theorem b_X11_turns_41 {X : qX} {d : Nat} {sh : qS} {pt h : qM} {K : qM → Prop} {v1 u0 : Int} (hst : St sh pt)
    (H : ((u0 = 0 → (qI ((h 78 66) + 1)) ∧ ∀ h1 : qM, h1 = qup h 78 66 ((h 78 66) + 1) → EvV X (d + 1) mX11_turns 62 [(2, 78), (0, v1), (8, -1), (0, 0), (8, -1)] [] sh pt h1 K) ∧ (¬ u0 = 0 → (qI ((h 78 66) + 0)) ∧ ∀ h2 : qM, h2 = qup h 78 66 ((h 78 66) + 0) → EvV X (d + 1) mX11_turns 62 [(2, 78), (0, v1), (8, -1), (0, 0), (8, -1)] [] sh pt h2 K))) :
    EvV X (d + 1) mX11_turns 41 [(2, 78), (0, v1), (8, -1), (8, -1), (8, -1)] [(0, u0)] sh pt h K := by
  show Ev X (d + 1) 0 0 mX11_turns 41 [(2, 78), (0, v1), (8, -1), (8, -1), (8, -1)] [(0, u0)] (sh, pt, h) (qRV sh pt K)
  refine ev_istore_n (L1 := [(2, 78), (0, v1), (0, u0), (8, -1), (8, -1)]) 42 rfl dX11_turns_41 rfl (Nat.le_of_ble_eq_true rfl) rfl ?_
  refine ev_aload_n 43 rfl dX11_turns_42 rfl rfl ?_
  refine ev_dup 44 rfl dX11_turns_43 q21 ?_
  refine ev_getI (ki := 66) 47 rfl dX11_turns_44 lf_11_397 (Or.inl rfl) (s_78 hst) (by decide) rfl ?_
  refine ev_iload_n 48 rfl dX11_turns_47 rfl rfl ?_
  refine ev_if_eq (tgt := 55) 51 rfl dX11_turns_48 (by decide) (fun cd => ?_) (fun cd => ?_)
  · have H := H.1 cd
    refine ev_iconst 56 rfl dX11_turns_55 (by decide) ?_
    obtain ⟨sd, H⟩ := H
    refine ev_iadd 57 rfl dX11_turns_56 sd ?_
    refine ev_putI (ki := 66) 60 rfl dX11_turns_57 lf_11_397 (Or.inl rfl) (s_78 hst) (by decide) rfl ?_
    obtain ⟨h1, eh1⟩ : ∃ z : qM, z = qup h 78 66 ((h 78 66) + 1) := ⟨_, rfl⟩
    rw [← eh1]
    have H := H h1 eh1
    refine ev_iconst 61 rfl dX11_turns_60 (by decide) ?_
    refine ev_istore_n (L1 := [(2, 78), (0, v1), (0, u0), (0, 0), (8, -1)]) 62 rfl dX11_turns_61 rfl (Nat.le_of_ble_eq_true rfl) rfl ?_
    refine Ev.drop [2] rfl ?_
    exact H
  · have H := H.2 cd
    refine ev_iconst 52 rfl dX11_turns_51 (by decide) ?_
    refine ev_goto (tgt := 56) dX11_turns_52 (by decide) ?_
    obtain ⟨sd, H⟩ := H
    refine ev_iadd 57 rfl dX11_turns_56 sd ?_
    refine ev_putI (ki := 66) 60 rfl dX11_turns_57 lf_11_397 (Or.inl rfl) (s_78 hst) (by decide) rfl ?_
    obtain ⟨h2, eh2⟩ : ∃ z : qM, z = qup h 78 66 ((h 78 66) + 0) := ⟨_, rfl⟩
    rw [← eh2]
    have H := H h2 eh2
    refine ev_iconst 61 rfl dX11_turns_60 (by decide) ?_
    refine ev_istore_n (L1 := [(2, 78), (0, v1), (0, u0), (0, 0), (8, -1)]) 62 rfl dX11_turns_61 rfl (Nat.le_of_ble_eq_true rfl) rfl ?_
    refine Ev.drop [2] rfl ?_
    exact H

set_option maxRecDepth 20000 in
theorem b_X11_turns_62 {X : qX} {d : Nat} {sh : qS} {pt h : qM} {K : qM → Prop} {v1 v3 : Int} (hst : St sh pt)
    (H : (((h 78 62) ≤ v3 → K h) ∧ (v3 < (h 78 62) → (0 ≤ v3 ∧ v3 < 20) ∧ RunI X d mX11_cell [(0, (h 78 63)), (0, (h 112 v3))] sh pt h (fun r3 h2 => (0 ≤ r3 ∧ r3 < 3020) ∧ (qI ((h2 111 r3) + v1)) ∧ (0 ≤ ((h2 111 r3) + v1)) ∧ (0 ≤ r3 ∧ r3 < 3020) ∧ ∀ h6 : qM, h6 = qup h2 111 r3 (((h2 111 r3) + v1) % 8) → (qI (v3 + 1)) ∧ EvV X (d + 1) mX11_turns 62 [(2, 78), (0, v1), (8, -1), (0, (v3 + 1)), (8, -1)] [] sh pt h6 K)))) :
    EvV X (d + 1) mX11_turns 62 [(2, 78), (0, v1), (8, -1), (0, v3), (8, -1)] [] sh pt h K := by
  show Ev X (d + 1) 0 0 mX11_turns 62 [(2, 78), (0, v1), (8, -1), (0, v3), (8, -1)] [] (sh, pt, h) (qRV sh pt K)
  refine ev_iload_n 63 rfl dX11_turns_62 rfl rfl ?_
  refine ev_aload_n 64 rfl dX11_turns_63 rfl rfl ?_
  refine ev_getI (ki := 62) 67 rfl dX11_turns_64 lf_11_400 (Or.inl rfl) (s_78 hst) (by decide) rfl ?_
  refine ev_icmp_ge (tgt := 110) 70 rfl dX11_turns_67 (by decide) (fun cd => ?_) (fun cd => ?_)
  · have H := H.1 cd
    exact ev_retV dX11_turns_110 rfl H
  · have H := H.2 cd
    refine ev_aload_n 71 rfl dX11_turns_70 rfl rfl ?_
    refine ev_getI (ki := 63) 74 rfl dX11_turns_71 lf_11_403 (Or.inl rfl) (s_78 hst) (by decide) rfl ?_
    refine ev_aload_n 75 rfl dX11_turns_74 rfl rfl ?_
    refine ev_getR (ki := 61) (v := 112) 78 rfl dX11_turns_75 lf_11_138 (s_78 hst) (by decide) rfl (p_78_61 hst) ?_
    refine ev_iload_n 79 rfl dX11_turns_78 rfl rfl ?_
    obtain ⟨b1, H⟩ := H
    refine ev_iaload 80 rfl dX11_turns_79 (s_112 hst) b1.1 b1.2 ?_
    refine ev_cSI (As := [(0, (h 78 63)), (0, (h 112 v3))]) (rest := []) 83 rfl dX11_turns_80 lm_11_405 mm_X11_cell rfl rfl (Nat.le_of_ble_eq_true rfl) (Nat.le_of_ble_eq_true rfl) (Nat.le_refl _) H ?_
    intro r3 h2 H
    refine ev_istore (L1 := [(2, 78), (0, v1), (8, -1), (0, v3), (0, r3)]) 85 rfl dX11_turns_83 (Nat.le_of_ble_eq_true rfl) rfl ?_
    refine ev_aload_n 86 rfl dX11_turns_85 rfl rfl ?_
    refine ev_getR (ki := 60) (v := 111) 89 rfl dX11_turns_86 lf_11_135 (s_78 hst) (by decide) rfl (p_78_60 hst) ?_
    refine ev_iload 91 rfl dX11_turns_89 rfl ?_
    refine ev_aload_n 92 rfl dX11_turns_91 rfl rfl ?_
    refine ev_getR (ki := 60) (v := 111) 95 rfl dX11_turns_92 lf_11_135 (s_78 hst) (by decide) rfl (p_78_60 hst) ?_
    refine ev_iload 97 rfl dX11_turns_95 rfl ?_
    obtain ⟨b4, H⟩ := H
    refine ev_iaload 98 rfl dX11_turns_97 (s_111 hst) b4.1 b4.2 ?_
    refine ev_iload_n 99 rfl dX11_turns_98 rfl rfl ?_
    obtain ⟨sd, H⟩ := H
    refine ev_iadd 100 rfl dX11_turns_99 sd ?_
    refine ev_bipush 102 rfl dX11_turns_100 (by decide) (by decide) ?_
    obtain ⟨sd, H⟩ := H
    refine ev_iremP 103 rfl dX11_turns_102 ⟨sd, by decide⟩ ?_
    obtain ⟨b5, H⟩ := H
    refine ev_iastore 104 rfl dX11_turns_103 (s_111 hst) b5.1 b5.2 ?_
    obtain ⟨h6, eh6⟩ : ∃ z : qM, z = qup h2 111 r3 (((h2 111 r3) + v1) % 8) := ⟨_, rfl⟩
    rw [← eh6]
    have H := H h6 eh6
    obtain ⟨sd, H⟩ := H
    refine ev_iinc (L1 := [(2, 78), (0, v1), (8, -1), (0, (v3 + 1)), (0, r3)]) 107 rfl dX11_turns_104 rfl sd (Nat.le_of_ble_eq_true rfl) rfl ?_
    refine ev_goto (tgt := 62) dX11_turns_107 (by decide) ?_
    refine Ev.drop [4] rfl ?_
    exact H

set_option maxRecDepth 20000 in
theorem b_X11_steps_ {X : qX} {d : Nat} {sh : qS} {pt h : qM} {K : qM → Prop} (hst : St sh pt)
    (H : ((¬ (h 78 65) = 1 → ∀ h1 : qM, h1 = qup h 78 65 1 → K h1) ∧ ((h 78 65) = 1 → ∀ h2 : qM, h2 = qup h 78 65 2 → K h2))) :
    RunV X d mX11_steps_ [(2, 78)] sh pt h K := by
  show Ev X d 0 0 mX11_steps_ 0 [(2, 78)] [] (sh, pt, h) (qRV sh pt K)
  refine ev_aload_n 1 rfl dX11_steps__0 rfl rfl ?_
  refine ev_aload_n 2 rfl dX11_steps__1 rfl rfl ?_
  refine ev_getI (ki := 65) 5 rfl dX11_steps__2 lf_11_394 (Or.inl rfl) (s_78 hst) (by decide) rfl ?_
  refine ev_iconst 6 rfl dX11_steps__5 (by decide) ?_
  refine ev_icmp_ne (tgt := 13) 9 rfl dX11_steps__6 (by decide) (fun cd => ?_) (fun cd => ?_)
  · have H := H.1 cd
    refine ev_iconst 14 rfl dX11_steps__13 (by decide) ?_
    refine ev_putI (ki := 65) 17 rfl dX11_steps__14 lf_11_394 (Or.inl rfl) (s_78 hst) (by decide) rfl ?_
    obtain ⟨h1, eh1⟩ : ∃ z : qM, z = qup h 78 65 1 := ⟨_, rfl⟩
    rw [← eh1]
    have H := H h1 eh1
    exact ev_retV dX11_steps__17 rfl H
  · have H := H.2 cd
    refine ev_iconst 10 rfl dX11_steps__9 (by decide) ?_
    refine ev_goto (tgt := 14) dX11_steps__10 (by decide) ?_
    refine ev_putI (ki := 65) 17 rfl dX11_steps__14 lf_11_394 (Or.inl rfl) (s_78 hst) (by decide) rfl ?_
    obtain ⟨h2, eh2⟩ : ∃ z : qM, z = qup h 78 65 2 := ⟨_, rfl⟩
    rw [← eh2]
    have H := H h2 eh2
    exact ev_retV dX11_steps__17 rfl H

set_option maxRecDepth 20000 in
theorem b_X11_goes {X : qX} {d : Nat} {sh : qS} {pt h : qM} {K : qM → Prop} {v1 : Int} (hst : St sh pt)
    (H : (0 ≤ v1 ∧ v1 < 60) ∧ (qI ((h 78 63) + (h 95 v1))) ∧ ((((h 78 63) + (h 95 v1)) ≤ 150 → EvV X (d + 1) mX11_goes 25 [(2, 78), (0, v1), (0, (h 95 v1)), (8, -1), (8, -1)] [] sh pt h K) ∧ (150 < ((h 78 63) + (h 95 v1)) → RunV X d mX11_fails [(2, 78), (0, 2), (0, v1)] sh pt h (fun h2 => EvV X (d + 1) mX11_goes 25 [(2, 78), (0, v1), (0, (h 95 v1)), (8, -1), (8, -1)] [] sh pt h2 K)))) :
    RunV X (d + 1) mX11_goes [(2, 78), (0, v1)] sh pt h K := by
  show Ev X (d + 1) 0 0 mX11_goes 0 [(2, 78), (0, v1), (8, -1), (8, -1), (8, -1)] [] (sh, pt, h) (qRV sh pt K)
  refine ev_aload_n 1 rfl dX11_goes_0 rfl rfl ?_
  refine ev_getR (ki := 39) (v := 95) 4 rfl dX11_goes_1 lf_11_78 (s_78 hst) (by decide) rfl (p_78_39 hst) ?_
  refine ev_iload_n 5 rfl dX11_goes_4 rfl rfl ?_
  obtain ⟨b1, H⟩ := H
  refine ev_iaload 6 rfl dX11_goes_5 (s_95 hst) b1.1 b1.2 ?_
  refine ev_istore_n (L1 := [(2, 78), (0, v1), (0, (h 95 v1)), (8, -1), (8, -1)]) 7 rfl dX11_goes_6 rfl (Nat.le_of_ble_eq_true rfl) rfl ?_
  refine ev_aload_n 8 rfl dX11_goes_7 rfl rfl ?_
  refine ev_getI (ki := 63) 11 rfl dX11_goes_8 lf_11_403 (Or.inl rfl) (s_78 hst) (by decide) rfl ?_
  refine ev_iload_n 12 rfl dX11_goes_11 rfl rfl ?_
  obtain ⟨sd, H⟩ := H
  refine ev_iadd 13 rfl dX11_goes_12 sd ?_
  refine ev_sipush 16 rfl dX11_goes_13 (by decide) (by decide) ?_
  refine ev_icmp_le (tgt := 25) 19 rfl dX11_goes_16 (by decide) (fun cd => ?_) (fun cd => ?_)
  · have H := H.1 cd
    exact H
  · have H := H.2 cd
    refine ev_aload_n 20 rfl dX11_goes_19 rfl rfl ?_
    refine ev_iconst 21 rfl dX11_goes_20 (by decide) ?_
    refine ev_iload_n 22 rfl dX11_goes_21 rfl rfl ?_
    refine ev_cVV (As := [(0, 2), (0, v1)]) (rest := []) 25 rfl dX11_goes_22 lm_11_383 mm_X11_fails (s_78 hst) rfl rfl (Nat.le_of_ble_eq_true rfl) (Nat.le_of_ble_eq_true rfl) (Nat.le_refl _) H ?_
    intro h2 H
    exact H

set_option maxRecDepth 20000 in
theorem b_X11_goes_25 {X : qX} {d : Nat} {sh : qS} {pt h : qM} {K : qM → Prop} {v1 v2 : Int} (hst : St sh pt)
    (H : (0 ≤ v1 ∧ v1 < 60) ∧ ((¬ (h 94 v1) = 8 → (((h 78 67) ≤ 0 → EvV X (d + 1) mX11_goes 65 [(2, 78), (0, v1), (0, v2), (0, 1), (8, -1)] [] sh pt h K) ∧ (0 < (h 78 67) → K h))) ∧ ((h 94 v1) = 8 → (0 ≤ v1 ∧ v1 < 60) ∧ RunI X d mX11_isWhole [(2, 78), (0, (h 96 v1))] sh pt h (fun r4 h3 => ((¬ r4 = 0 → (((h3 78 67) ≤ 0 → EvV X (d + 1) mX11_goes 65 [(2, 78), (0, v1), (0, v2), (0, 1), (8, -1)] [] sh pt h3 K) ∧ (0 < (h3 78 67) → K h3))) ∧ (r4 = 0 → RunV X d mX11_fails [(2, 78), (0, 3), (0, v1)] sh pt h3 (fun h5 => (((h5 78 67) ≤ 0 → EvV X (d + 1) mX11_goes 65 [(2, 78), (0, v1), (0, v2), (0, 1), (8, -1)] [] sh pt h5 K) ∧ (0 < (h5 78 67) → K h5))))))))) :
    EvV X (d + 1) mX11_goes 25 [(2, 78), (0, v1), (0, v2), (8, -1), (8, -1)] [] sh pt h K := by
  show Ev X (d + 1) 0 0 mX11_goes 25 [(2, 78), (0, v1), (0, v2), (8, -1), (8, -1)] [] (sh, pt, h) (qRV sh pt K)
  refine ev_aload_n 26 rfl dX11_goes_25 rfl rfl ?_
  refine ev_getR (ki := 38) (v := 94) 29 rfl dX11_goes_26 lf_11_75 (s_78 hst) (by decide) rfl (p_78_38 hst) ?_
  refine ev_iload_n 30 rfl dX11_goes_29 rfl rfl ?_
  obtain ⟨b1, H⟩ := H
  refine ev_iaload 31 rfl dX11_goes_30 (s_94 hst) b1.1 b1.2 ?_
  refine ev_bipush 33 rfl dX11_goes_31 (by decide) (by decide) ?_
  refine ev_icmp_ne (tgt := 55) 36 rfl dX11_goes_33 (by decide) (fun cd => ?_) (fun cd => ?_)
  · have H := H.1 cd
    refine ev_aload_n 56 rfl dX11_goes_55 rfl rfl ?_
    refine ev_getI (ki := 67) 59 rfl dX11_goes_56 lf_11_374 (Or.inl rfl) (s_78 hst) (by decide) rfl ?_
    refine ev_if_le (tgt := 63) 62 rfl dX11_goes_59 (by decide) (fun cd => ?_) (fun cd => ?_)
    · have H := H.1 cd
      refine ev_iconst 64 rfl dX11_goes_63 (by decide) ?_
      refine ev_istore_n (L1 := [(2, 78), (0, v1), (0, v2), (0, 1), (8, -1)]) 65 rfl dX11_goes_64 rfl (Nat.le_of_ble_eq_true rfl) rfl ?_
      exact H
    · have H := H.2 cd
      exact ev_retV dX11_goes_62 rfl H
  · have H := H.2 cd
    refine ev_aload_n 37 rfl dX11_goes_36 rfl rfl ?_
    refine ev_aload_n 38 rfl dX11_goes_37 rfl rfl ?_
    refine ev_getR (ki := 40) (v := 96) 41 rfl dX11_goes_38 lf_11_81 (s_78 hst) (by decide) rfl (p_78_40 hst) ?_
    refine ev_iload_n 42 rfl dX11_goes_41 rfl rfl ?_
    obtain ⟨b2, H⟩ := H
    refine ev_iaload 43 rfl dX11_goes_42 (s_96 hst) b2.1 b2.2 ?_
    refine ev_cVI (As := [(0, (h 96 v1))]) (rest := []) 46 rfl dX11_goes_43 lm_11_408 mm_X11_isWhole (s_78 hst) rfl rfl (Nat.le_of_ble_eq_true rfl) (Nat.le_of_ble_eq_true rfl) (Nat.le_refl _) H ?_
    intro r4 h3 H
    refine ev_if_ne (tgt := 55) 49 rfl dX11_goes_46 (by decide) (fun cd => ?_) (fun cd => ?_)
    · have H := H.1 cd
      refine ev_aload_n 56 rfl dX11_goes_55 rfl rfl ?_
      refine ev_getI (ki := 67) 59 rfl dX11_goes_56 lf_11_374 (Or.inl rfl) (s_78 hst) (by decide) rfl ?_
      refine ev_if_le (tgt := 63) 62 rfl dX11_goes_59 (by decide) (fun cd => ?_) (fun cd => ?_)
      · have H := H.1 cd
        refine ev_iconst 64 rfl dX11_goes_63 (by decide) ?_
        refine ev_istore_n (L1 := [(2, 78), (0, v1), (0, v2), (0, 1), (8, -1)]) 65 rfl dX11_goes_64 rfl (Nat.le_of_ble_eq_true rfl) rfl ?_
        exact H
      · have H := H.2 cd
        exact ev_retV dX11_goes_62 rfl H
    · have H := H.2 cd
      refine ev_aload_n 50 rfl dX11_goes_49 rfl rfl ?_
      refine ev_iconst 51 rfl dX11_goes_50 (by decide) ?_
      refine ev_iload_n 52 rfl dX11_goes_51 rfl rfl ?_
      refine ev_cVV (As := [(0, 3), (0, v1)]) (rest := []) 55 rfl dX11_goes_52 lm_11_383 mm_X11_fails (s_78 hst) rfl rfl (Nat.le_of_ble_eq_true rfl) (Nat.le_of_ble_eq_true rfl) (Nat.le_refl _) H ?_
      intro h5 H
      refine ev_aload_n 56 rfl dX11_goes_55 rfl rfl ?_
      refine ev_getI (ki := 67) 59 rfl dX11_goes_56 lf_11_374 (Or.inl rfl) (s_78 hst) (by decide) rfl ?_
      refine ev_if_le (tgt := 63) 62 rfl dX11_goes_59 (by decide) (fun cd => ?_) (fun cd => ?_)
      · have H := H.1 cd
        refine ev_iconst 64 rfl dX11_goes_63 (by decide) ?_
        refine ev_istore_n (L1 := [(2, 78), (0, v1), (0, v2), (0, 1), (8, -1)]) 65 rfl dX11_goes_64 rfl (Nat.le_of_ble_eq_true rfl) rfl ?_
        exact H
      · have H := H.2 cd
        exact ev_retV dX11_goes_62 rfl H

set_option maxRecDepth 20000 in
theorem b_X11_goes_65 {X : qX} {d : Nat} {sh : qS} {pt h : qM} {K : qM → Prop} {v1 v2 v3 : Int} (hst : St sh pt)
    (H : ((v2 < v3 → (0 ≤ v1 ∧ v1 < 60) ∧ ((¬ (h 94 v1) = 6 → (qI ((h 78 63) + v2)) ∧ ∀ h2 : qM, h2 = qup h 78 63 ((h 78 63) + v2) → K h2) ∧ ((h 94 v1) = 6 → EvV X (d + 1) mX11_goes 192 [(2, 78), (0, v1), (0, v2), (0, 0), (8, -1)] [] sh pt h K))) ∧ (v3 ≤ v2 → EvV X (d + 1) mX11_goes 73 [(2, 78), (0, v1), (0, v2), (0, v3), (0, 0)] [] sh pt h K))) :
    EvV X (d + 1) mX11_goes 65 [(2, 78), (0, v1), (0, v2), (0, v3), (8, -1)] [] sh pt h K := by
  show Ev X (d + 1) 0 0 mX11_goes 65 [(2, 78), (0, v1), (0, v2), (0, v3), (8, -1)] [] (sh, pt, h) (qRV sh pt K)
  refine ev_iload_n 66 rfl dX11_goes_65 rfl rfl ?_
  refine ev_iload_n 67 rfl dX11_goes_66 rfl rfl ?_
  refine ev_icmp_gt (tgt := 179) 70 rfl dX11_goes_67 (by decide) (fun cd => ?_) (fun cd => ?_)
  · have H := H.1 cd
    refine ev_aload_n 180 rfl dX11_goes_179 rfl rfl ?_
    refine ev_getR (ki := 38) (v := 94) 183 rfl dX11_goes_180 lf_11_75 (s_78 hst) (by decide) rfl (p_78_38 hst) ?_
    refine ev_iload_n 184 rfl dX11_goes_183 rfl rfl ?_
    obtain ⟨b1, H⟩ := H
    refine ev_iaload 185 rfl dX11_goes_184 (s_94 hst) b1.1 b1.2 ?_
    refine ev_bipush 187 rfl dX11_goes_185 (by decide) (by decide) ?_
    refine ev_icmp_ne (tgt := 252) 190 rfl dX11_goes_187 (by decide) (fun cd => ?_) (fun cd => ?_)
    · have H := H.1 cd
      refine ev_aload_n 253 rfl dX11_goes_252 rfl rfl ?_
      refine ev_dup 254 rfl dX11_goes_253 q21 ?_
      refine ev_getI (ki := 63) 257 rfl dX11_goes_254 lf_11_403 (Or.inl rfl) (s_78 hst) (by decide) rfl ?_
      refine ev_iload_n 258 rfl dX11_goes_257 rfl rfl ?_
      obtain ⟨sd, H⟩ := H
      refine ev_iadd 259 rfl dX11_goes_258 sd ?_
      refine ev_putI (ki := 63) 262 rfl dX11_goes_259 lf_11_403 (Or.inl rfl) (s_78 hst) (by decide) rfl ?_
      obtain ⟨h2, eh2⟩ : ∃ z : qM, z = qup h 78 63 ((h 78 63) + v2) := ⟨_, rfl⟩
      rw [← eh2]
      have H := H h2 eh2
      exact ev_retV dX11_goes_262 rfl H
    · have H := H.2 cd
      refine ev_iconst 191 rfl dX11_goes_190 (by decide) ?_
      refine ev_istore_n (L1 := [(2, 78), (0, v1), (0, v2), (0, 0), (8, -1)]) 192 rfl dX11_goes_191 rfl (Nat.le_of_ble_eq_true rfl) rfl ?_
      exact H
  · have H := H.2 cd
    refine ev_iconst 71 rfl dX11_goes_70 (by decide) ?_
    refine ev_istore (L1 := [(2, 78), (0, v1), (0, v2), (0, v3), (0, 0)]) 73 rfl dX11_goes_71 (Nat.le_of_ble_eq_true rfl) rfl ?_
    exact H

set_option maxRecDepth 20000 in
theorem b_X11_goes_192 {X : qX} {d : Nat} {sh : qS} {pt h : qM} {K : qM → Prop} {v1 v2 v3 : Int} (hst : St sh pt)
    (H : (((h 78 62) ≤ v3 → (qI ((h 78 63) + v2)) ∧ ∀ h1 : qM, h1 = qup h 78 63 ((h 78 63) + v2) → K h1) ∧ (v3 < (h 78 62) → (qI ((h 78 63) + v2)) ∧ (0 ≤ v3 ∧ v3 < 20) ∧ RunI X d mX11_cell [(0, ((h 78 63) + v2)), (0, (h 112 v3))] sh pt h (fun r4 h3 => (0 ≤ r4 ∧ r4 < 3020) ∧ (qI ((h3 111 r4) + 8)) ∧ (0 ≤ v1 ∧ v1 < 60) ∧ (qI (2 * (h3 96 v1))) ∧ (qI (((h3 111 r4) + 8) + (2 * (h3 96 v1)))) ∧ (0 ≤ (((h3 111 r4) + 8) + (2 * (h3 96 v1)))) ∧ (0 ≤ r4 ∧ r4 < 3020) ∧ ∀ h8 : qM, h8 = qup h3 111 r4 ((((h3 111 r4) + 8) + (2 * (h3 96 v1))) % 8) → (qI (v3 + 1)) ∧ EvV X (d + 1) mX11_goes 192 [(2, 78), (0, v1), (0, v2), (0, (v3 + 1)), (8, -1)] [] sh pt h8 K)))) :
    EvV X (d + 1) mX11_goes 192 [(2, 78), (0, v1), (0, v2), (0, v3), (8, -1)] [] sh pt h K := by
  show Ev X (d + 1) 0 0 mX11_goes 192 [(2, 78), (0, v1), (0, v2), (0, v3), (8, -1)] [] (sh, pt, h) (qRV sh pt K)
  refine ev_iload_n 193 rfl dX11_goes_192 rfl rfl ?_
  refine ev_aload_n 194 rfl dX11_goes_193 rfl rfl ?_
  refine ev_getI (ki := 62) 197 rfl dX11_goes_194 lf_11_400 (Or.inl rfl) (s_78 hst) (by decide) rfl ?_
  refine ev_icmp_ge (tgt := 252) 200 rfl dX11_goes_197 (by decide) (fun cd => ?_) (fun cd => ?_)
  · have H := H.1 cd
    refine ev_aload_n 253 rfl dX11_goes_252 rfl rfl ?_
    refine ev_dup 254 rfl dX11_goes_253 q21 ?_
    refine ev_getI (ki := 63) 257 rfl dX11_goes_254 lf_11_403 (Or.inl rfl) (s_78 hst) (by decide) rfl ?_
    refine ev_iload_n 258 rfl dX11_goes_257 rfl rfl ?_
    obtain ⟨sd, H⟩ := H
    refine ev_iadd 259 rfl dX11_goes_258 sd ?_
    refine ev_putI (ki := 63) 262 rfl dX11_goes_259 lf_11_403 (Or.inl rfl) (s_78 hst) (by decide) rfl ?_
    obtain ⟨h1, eh1⟩ : ∃ z : qM, z = qup h 78 63 ((h 78 63) + v2) := ⟨_, rfl⟩
    rw [← eh1]
    have H := H h1 eh1
    exact ev_retV dX11_goes_262 rfl H
  · have H := H.2 cd
    refine ev_aload_n 201 rfl dX11_goes_200 rfl rfl ?_
    refine ev_getI (ki := 63) 204 rfl dX11_goes_201 lf_11_403 (Or.inl rfl) (s_78 hst) (by decide) rfl ?_
    refine ev_iload_n 205 rfl dX11_goes_204 rfl rfl ?_
    obtain ⟨sd, H⟩ := H
    refine ev_iadd 206 rfl dX11_goes_205 sd ?_
    refine ev_aload_n 207 rfl dX11_goes_206 rfl rfl ?_
    refine ev_getR (ki := 61) (v := 112) 210 rfl dX11_goes_207 lf_11_138 (s_78 hst) (by decide) rfl (p_78_61 hst) ?_
    refine ev_iload_n 211 rfl dX11_goes_210 rfl rfl ?_
    obtain ⟨b2, H⟩ := H
    refine ev_iaload 212 rfl dX11_goes_211 (s_112 hst) b2.1 b2.2 ?_
    refine ev_cSI (As := [(0, ((h 78 63) + v2)), (0, (h 112 v3))]) (rest := []) 215 rfl dX11_goes_212 lm_11_405 mm_X11_cell rfl rfl (Nat.le_of_ble_eq_true rfl) (Nat.le_of_ble_eq_true rfl) (Nat.le_refl _) H ?_
    intro r4 h3 H
    refine ev_istore (L1 := [(2, 78), (0, v1), (0, v2), (0, v3), (0, r4)]) 217 rfl dX11_goes_215 (Nat.le_of_ble_eq_true rfl) rfl ?_
    refine ev_aload_n 218 rfl dX11_goes_217 rfl rfl ?_
    refine ev_getR (ki := 60) (v := 111) 221 rfl dX11_goes_218 lf_11_135 (s_78 hst) (by decide) rfl (p_78_60 hst) ?_
    refine ev_iload 223 rfl dX11_goes_221 rfl ?_
    refine ev_aload_n 224 rfl dX11_goes_223 rfl rfl ?_
    refine ev_getR (ki := 60) (v := 111) 227 rfl dX11_goes_224 lf_11_135 (s_78 hst) (by decide) rfl (p_78_60 hst) ?_
    refine ev_iload 229 rfl dX11_goes_227 rfl ?_
    obtain ⟨b5, H⟩ := H
    refine ev_iaload 230 rfl dX11_goes_229 (s_111 hst) b5.1 b5.2 ?_
    refine ev_bipush 232 rfl dX11_goes_230 (by decide) (by decide) ?_
    obtain ⟨sd, H⟩ := H
    refine ev_iadd 233 rfl dX11_goes_232 sd ?_
    refine ev_iconst 234 rfl dX11_goes_233 (by decide) ?_
    refine ev_aload_n 235 rfl dX11_goes_234 rfl rfl ?_
    refine ev_getR (ki := 40) (v := 96) 238 rfl dX11_goes_235 lf_11_81 (s_78 hst) (by decide) rfl (p_78_40 hst) ?_
    refine ev_iload_n 239 rfl dX11_goes_238 rfl rfl ?_
    obtain ⟨b6, H⟩ := H
    refine ev_iaload 240 rfl dX11_goes_239 (s_96 hst) b6.1 b6.2 ?_
    obtain ⟨sd, H⟩ := H
    refine ev_imul 241 rfl dX11_goes_240 sd ?_
    obtain ⟨sd, H⟩ := H
    refine ev_iadd 242 rfl dX11_goes_241 sd ?_
    refine ev_bipush 244 rfl dX11_goes_242 (by decide) (by decide) ?_
    obtain ⟨sd, H⟩ := H
    refine ev_iremP 245 rfl dX11_goes_244 ⟨sd, by decide⟩ ?_
    obtain ⟨b7, H⟩ := H
    refine ev_iastore 246 rfl dX11_goes_245 (s_111 hst) b7.1 b7.2 ?_
    obtain ⟨h8, eh8⟩ : ∃ z : qM, z = qup h3 111 r4 ((((h3 111 r4) + 8) + (2 * (h3 96 v1))) % 8) := ⟨_, rfl⟩
    rw [← eh8]
    have H := H h8 eh8
    obtain ⟨sd, H⟩ := H
    refine ev_iinc (L1 := [(2, 78), (0, v1), (0, v2), (0, (v3 + 1)), (0, r4)]) 249 rfl dX11_goes_246 rfl sd (Nat.le_of_ble_eq_true rfl) rfl ?_
    refine ev_goto (tgt := 192) dX11_goes_249 (by decide) ?_
    refine Ev.drop [4] rfl ?_
    exact H

set_option maxRecDepth 20000 in
theorem b_X11_goes_73 {X : qX} {d : Nat} {sh : qS} {pt h : qM} {K : qM → Prop} {v1 v2 v3 v4 : Int} (hst : St sh pt)
    (H : (((h 78 62) ≤ v4 → (0 ≤ v1 ∧ v1 < 60) ∧ ((¬ (h 94 v1) = 3 → RunV X d mX11_steps_ [(2, 78)] sh pt h (fun h2 => (qI (v3 + 1)) ∧ EvV X (d + 1) mX11_goes 65 [(2, 78), (0, v1), (0, v2), (0, (v3 + 1)), (8, -1)] [] sh pt h2 K)) ∧ ((h 94 v1) = 3 → ∀ h3 : qM, h3 = qup h 78 65 0 → (qI (v3 + 1)) ∧ EvV X (d + 1) mX11_goes 65 [(2, 78), (0, v1), (0, v2), (0, (v3 + 1)), (8, -1)] [] sh pt h3 K))) ∧ (v4 < (h 78 62) → RunV X d mX11_goesOne [(2, 78), (0, v1), (0, v4), (0, v3), (0, v2)] sh pt h (fun h4 => (qI ((h4 78 63) + v3)) ∧ (0 ≤ v4 ∧ v4 < 20) ∧ RunI X d mX11_cell [(0, ((h4 78 63) + v3)), (0, (h4 112 v4))] sh pt h4 (fun r7 h6 => (0 ≤ r7 ∧ r7 < 3020) ∧ (qI ((h6 78 63) + v3)) ∧ (0 ≤ v4 ∧ v4 < 20) ∧ RunI X d mX11_cell [(0, ((h6 78 63) + v3)), (0, (h6 112 v4))] sh pt h6 (fun r11 h10 => (0 ≤ r11 ∧ r11 < 3020) ∧ RunI X d mX11_isSpot [(0, (h6 109 r7)), (0, (h10 110 r11))] sh pt h10 (fun r14 h13 => ((¬ r14 = 0 → (qI (v4 + 1)) ∧ EvV X (d + 1) mX11_goes 73 [(2, 78), (0, v1), (0, v2), (0, v3), (0, (v4 + 1))] [] sh pt h13 K) ∧ (r14 = 0 → RunV X d mX11_fails [(2, 78), (0, 4), (0, v1)] sh pt h13 (fun h15 => (qI (v4 + 1)) ∧ EvV X (d + 1) mX11_goes 73 [(2, 78), (0, v1), (0, v2), (0, v3), (0, (v4 + 1))] [] sh pt h15 K)))))))))) :
    EvV X (d + 1) mX11_goes 73 [(2, 78), (0, v1), (0, v2), (0, v3), (0, v4)] [] sh pt h K := by
  show Ev X (d + 1) 0 0 mX11_goes 73 [(2, 78), (0, v1), (0, v2), (0, v3), (0, v4)] [] (sh, pt, h) (qRV sh pt K)
  refine ev_iload 75 rfl dX11_goes_73 rfl ?_
  refine ev_aload_n 76 rfl dX11_goes_75 rfl rfl ?_
  refine ev_getI (ki := 62) 79 rfl dX11_goes_76 lf_11_400 (Or.inl rfl) (s_78 hst) (by decide) rfl ?_
  refine ev_icmp_ge (tgt := 151) 82 rfl dX11_goes_79 (by decide) (fun cd => ?_) (fun cd => ?_)
  · have H := H.1 cd
    refine ev_aload_n 152 rfl dX11_goes_151 rfl rfl ?_
    refine ev_getR (ki := 38) (v := 94) 155 rfl dX11_goes_152 lf_11_75 (s_78 hst) (by decide) rfl (p_78_38 hst) ?_
    refine ev_iload_n 156 rfl dX11_goes_155 rfl rfl ?_
    obtain ⟨b1, H⟩ := H
    refine ev_iaload 157 rfl dX11_goes_156 (s_94 hst) b1.1 b1.2 ?_
    refine ev_iconst 158 rfl dX11_goes_157 (by decide) ?_
    refine ev_icmp_ne (tgt := 169) 161 rfl dX11_goes_158 (by decide) (fun cd => ?_) (fun cd => ?_)
    · have H := H.1 cd
      refine ev_aload_n 170 rfl dX11_goes_169 rfl rfl ?_
      refine ev_cVV (As := []) (rest := []) 173 rfl dX11_goes_170 lm_11_415 mm_X11_steps_ (s_78 hst) rfl rfl (Nat.le_of_ble_eq_true rfl) (Nat.le_of_ble_eq_true rfl) (Nat.le_refl _) H ?_
      intro h2 H
      obtain ⟨sd, H⟩ := H
      refine ev_iinc (L1 := [(2, 78), (0, v1), (0, v2), (0, (v3 + 1)), (0, v4)]) 176 rfl dX11_goes_173 rfl sd (Nat.le_of_ble_eq_true rfl) rfl ?_
      refine ev_goto (tgt := 65) dX11_goes_176 (by decide) ?_
      refine Ev.drop [4] rfl ?_
      exact H
    · have H := H.2 cd
      refine ev_aload_n 162 rfl dX11_goes_161 rfl rfl ?_
      refine ev_iconst 163 rfl dX11_goes_162 (by decide) ?_
      refine ev_putI (ki := 65) 166 rfl dX11_goes_163 lf_11_394 (Or.inl rfl) (s_78 hst) (by decide) rfl ?_
      obtain ⟨h3, eh3⟩ : ∃ z : qM, z = qup h 78 65 0 := ⟨_, rfl⟩
      rw [← eh3]
      have H := H h3 eh3
      refine ev_goto (tgt := 173) dX11_goes_166 (by decide) ?_
      obtain ⟨sd, H⟩ := H
      refine ev_iinc (L1 := [(2, 78), (0, v1), (0, v2), (0, (v3 + 1)), (0, v4)]) 176 rfl dX11_goes_173 rfl sd (Nat.le_of_ble_eq_true rfl) rfl ?_
      refine ev_goto (tgt := 65) dX11_goes_176 (by decide) ?_
      refine Ev.drop [4] rfl ?_
      exact H
  · have H := H.2 cd
    refine ev_aload_n 83 rfl dX11_goes_82 rfl rfl ?_
    refine ev_iload_n 84 rfl dX11_goes_83 rfl rfl ?_
    refine ev_iload 86 rfl dX11_goes_84 rfl ?_
    refine ev_iload_n 87 rfl dX11_goes_86 rfl rfl ?_
    refine ev_iload_n 88 rfl dX11_goes_87 rfl rfl ?_
    refine ev_cVV (As := [(0, v1), (0, v4), (0, v3), (0, v2)]) (rest := []) 91 rfl dX11_goes_88 lm_11_411 mm_X11_goesOne (s_78 hst) rfl rfl (Nat.le_of_ble_eq_true rfl) (Nat.le_of_ble_eq_true rfl) (Nat.le_refl _) H ?_
    intro h4 H
    refine ev_aload_n 92 rfl dX11_goes_91 rfl rfl ?_
    refine ev_getR (ki := 58) (v := 109) 95 rfl dX11_goes_92 lf_11_129 (s_78 hst) (by decide) rfl (p_78_58 hst) ?_
    refine ev_aload_n 96 rfl dX11_goes_95 rfl rfl ?_
    refine ev_getI (ki := 63) 99 rfl dX11_goes_96 lf_11_403 (Or.inl rfl) (s_78 hst) (by decide) rfl ?_
    refine ev_iload_n 100 rfl dX11_goes_99 rfl rfl ?_
    obtain ⟨sd, H⟩ := H
    refine ev_iadd 101 rfl dX11_goes_100 sd ?_
    refine ev_aload_n 102 rfl dX11_goes_101 rfl rfl ?_
    refine ev_getR (ki := 61) (v := 112) 105 rfl dX11_goes_102 lf_11_138 (s_78 hst) (by decide) rfl (p_78_61 hst) ?_
    refine ev_iload 107 rfl dX11_goes_105 rfl ?_
    obtain ⟨b5, H⟩ := H
    refine ev_iaload 108 rfl dX11_goes_107 (s_112 hst) b5.1 b5.2 ?_
    refine ev_cSI (As := [(0, ((h4 78 63) + v3)), (0, (h4 112 v4))]) (rest := [(2, 109)]) 111 rfl dX11_goes_108 lm_11_405 mm_X11_cell rfl rfl (Nat.le_of_ble_eq_true rfl) (Nat.le_of_ble_eq_true rfl) (Nat.le_refl _) H ?_
    intro r7 h6 H
    obtain ⟨b8, H⟩ := H
    refine ev_iaload 112 rfl dX11_goes_111 (s_109 hst) b8.1 b8.2 ?_
    refine ev_aload_n 113 rfl dX11_goes_112 rfl rfl ?_
    refine ev_getR (ki := 59) (v := 110) 116 rfl dX11_goes_113 lf_11_132 (s_78 hst) (by decide) rfl (p_78_59 hst) ?_
    refine ev_aload_n 117 rfl dX11_goes_116 rfl rfl ?_
    refine ev_getI (ki := 63) 120 rfl dX11_goes_117 lf_11_403 (Or.inl rfl) (s_78 hst) (by decide) rfl ?_
    refine ev_iload_n 121 rfl dX11_goes_120 rfl rfl ?_
    obtain ⟨sd, H⟩ := H
    refine ev_iadd 122 rfl dX11_goes_121 sd ?_
    refine ev_aload_n 123 rfl dX11_goes_122 rfl rfl ?_
    refine ev_getR (ki := 61) (v := 112) 126 rfl dX11_goes_123 lf_11_138 (s_78 hst) (by decide) rfl (p_78_61 hst) ?_
    refine ev_iload 128 rfl dX11_goes_126 rfl ?_
    obtain ⟨b9, H⟩ := H
    refine ev_iaload 129 rfl dX11_goes_128 (s_112 hst) b9.1 b9.2 ?_
    refine ev_cSI (As := [(0, ((h6 78 63) + v3)), (0, (h6 112 v4))]) (rest := [(2, 110), (0, (h6 109 r7))]) 132 rfl dX11_goes_129 lm_11_405 mm_X11_cell rfl rfl (Nat.le_of_ble_eq_true rfl) (Nat.le_of_ble_eq_true rfl) (Nat.le_refl _) H ?_
    intro r11 h10 H
    obtain ⟨b12, H⟩ := H
    refine ev_iaload 133 rfl dX11_goes_132 (s_110 hst) b12.1 b12.2 ?_
    refine ev_cSI (As := [(0, (h6 109 r7)), (0, (h10 110 r11))]) (rest := []) 136 rfl dX11_goes_133 lm_11_248 mm_X11_isSpot rfl rfl (Nat.le_of_ble_eq_true rfl) (Nat.le_of_ble_eq_true rfl) (Nat.le_refl _) H ?_
    intro r14 h13 H
    refine ev_if_ne (tgt := 145) 139 rfl dX11_goes_136 (by decide) (fun cd => ?_) (fun cd => ?_)
    · have H := H.1 cd
      obtain ⟨sd, H⟩ := H
      refine ev_iinc (L1 := [(2, 78), (0, v1), (0, v2), (0, v3), (0, (v4 + 1))]) 148 rfl dX11_goes_145 rfl sd (Nat.le_of_ble_eq_true rfl) rfl ?_
      refine ev_goto (tgt := 73) dX11_goes_148 (by decide) ?_
      exact H
    · have H := H.2 cd
      refine ev_aload_n 140 rfl dX11_goes_139 rfl rfl ?_
      refine ev_iconst 141 rfl dX11_goes_140 (by decide) ?_
      refine ev_iload_n 142 rfl dX11_goes_141 rfl rfl ?_
      refine ev_cVV (As := [(0, 4), (0, v1)]) (rest := []) 145 rfl dX11_goes_142 lm_11_383 mm_X11_fails (s_78 hst) rfl rfl (Nat.le_of_ble_eq_true rfl) (Nat.le_of_ble_eq_true rfl) (Nat.le_refl _) H ?_
      intro h15 H
      obtain ⟨sd, H⟩ := H
      refine ev_iinc (L1 := [(2, 78), (0, v1), (0, v2), (0, v3), (0, (v4 + 1))]) 148 rfl dX11_goes_145 rfl sd (Nat.le_of_ble_eq_true rfl) rfl ?_
      refine ev_goto (tgt := 73) dX11_goes_148 (by decide) ?_
      exact H

set_option maxRecDepth 20000 in
theorem b_X11_isWhole {X : qX} {d : Nat} {sh : qS} {pt h : qM} {K : Int → qM → Prop} {v1 : Int} (hst : St sh pt)
    (H : EvI X (d + 1) mX11_isWhole 2 [(2, 78), (0, v1), (0, 0)] [] sh pt h K) :
    RunI X (d + 1) mX11_isWhole [(2, 78), (0, v1)] sh pt h K := by
  show Ev X (d + 1) 0 0 mX11_isWhole 0 [(2, 78), (0, v1), (8, -1)] [] (sh, pt, h) (qRI sh pt K)
  refine ev_iconst 1 rfl dX11_isWhole_0 (by decide) ?_
  refine ev_istore_n (L1 := [(2, 78), (0, v1), (0, 0)]) 2 rfl dX11_isWhole_1 rfl (Nat.le_of_ble_eq_true rfl) rfl ?_
  exact H

set_option maxRecDepth 20000 in
theorem b_X11_isWhole_2 {X : qX} {d : Nat} {sh : qS} {pt h : qM} {K : Int → qM → Prop} {v1 v2 : Int} (hst : St sh pt)
    (H : (((h 78 62) ≤ v2 → K 1 h) ∧ (v2 < (h 78 62) → (0 ≤ v2 ∧ v2 < 20) ∧ RunI X d mX11_cell [(0, (h 78 63)), (0, (h 112 v2))] sh pt h (fun r3 h2 => (0 ≤ r3 ∧ r3 < 3020) ∧ RunI X d mX11_cell [(0, (h2 78 63)), (0, (h2 112 0))] sh pt h2 (fun r6 h5 => (0 ≤ r6 ∧ r6 < 3020) ∧ (qI ((h2 109 r3) - (h5 109 r6))) ∧ (v1 ≠ 0) ∧ (((((h2 109 r3) - (h5 109 r6)).tmod v1) = 0 → (0 ≤ v2 ∧ v2 < 20) ∧ RunI X d mX11_cell [(0, (h5 78 63)), (0, (h5 112 v2))] sh pt h5 (fun r10 h9 => (0 ≤ r10 ∧ r10 < 3020) ∧ RunI X d mX11_cell [(0, (h9 78 63)), (0, (h9 112 0))] sh pt h9 (fun r13 h12 => (0 ≤ r13 ∧ r13 < 3020) ∧ (qI ((h9 110 r10) - (h12 110 r13))) ∧ (v1 ≠ 0) ∧ (((((h9 110 r10) - (h12 110 r13)).tmod v1) = 0 → (qI (v2 + 1)) ∧ EvI X (d + 1) mX11_isWhole 2 [(2, 78), (0, v1), (0, (v2 + 1))] [] sh pt h12 K) ∧ (¬ (((h9 110 r10) - (h12 110 r13)).tmod v1) = 0 → K 0 h12))))) ∧ (¬ (((h2 109 r3) - (h5 109 r6)).tmod v1) = 0 → K 0 h5))))))) :
    EvI X (d + 1) mX11_isWhole 2 [(2, 78), (0, v1), (0, v2)] [] sh pt h K := by
  show Ev X (d + 1) 0 0 mX11_isWhole 2 [(2, 78), (0, v1), (0, v2)] [] (sh, pt, h) (qRI sh pt K)
  refine ev_iload_n 3 rfl dX11_isWhole_2 rfl rfl ?_
  refine ev_aload_n 4 rfl dX11_isWhole_3 rfl rfl ?_
  refine ev_getI (ki := 62) 7 rfl dX11_isWhole_4 lf_11_400 (Or.inl rfl) (s_78 hst) (by decide) rfl ?_
  refine ev_icmp_ge (tgt := 104) 10 rfl dX11_isWhole_7 (by decide) (fun cd => ?_) (fun cd => ?_)
  · have H := H.1 cd
    refine ev_iconst 105 rfl dX11_isWhole_104 (by decide) ?_
    exact ev_retZ dX11_isWhole_105 rfl (by decide) H
  · have H := H.2 cd
    refine ev_aload_n 11 rfl dX11_isWhole_10 rfl rfl ?_
    refine ev_getR (ki := 58) (v := 109) 14 rfl dX11_isWhole_11 lf_11_129 (s_78 hst) (by decide) rfl (p_78_58 hst) ?_
    refine ev_aload_n 15 rfl dX11_isWhole_14 rfl rfl ?_
    refine ev_getI (ki := 63) 18 rfl dX11_isWhole_15 lf_11_403 (Or.inl rfl) (s_78 hst) (by decide) rfl ?_
    refine ev_aload_n 19 rfl dX11_isWhole_18 rfl rfl ?_
    refine ev_getR (ki := 61) (v := 112) 22 rfl dX11_isWhole_19 lf_11_138 (s_78 hst) (by decide) rfl (p_78_61 hst) ?_
    refine ev_iload_n 23 rfl dX11_isWhole_22 rfl rfl ?_
    obtain ⟨b1, H⟩ := H
    refine ev_iaload 24 rfl dX11_isWhole_23 (s_112 hst) b1.1 b1.2 ?_
    refine ev_cSI (As := [(0, (h 78 63)), (0, (h 112 v2))]) (rest := [(2, 109)]) 27 rfl dX11_isWhole_24 lm_11_405 mm_X11_cell rfl rfl (Nat.le_of_ble_eq_true rfl) (Nat.le_of_ble_eq_true rfl) (Nat.le_refl _) H ?_
    intro r3 h2 H
    obtain ⟨b4, H⟩ := H
    refine ev_iaload 28 rfl dX11_isWhole_27 (s_109 hst) b4.1 b4.2 ?_
    refine ev_aload_n 29 rfl dX11_isWhole_28 rfl rfl ?_
    refine ev_getR (ki := 58) (v := 109) 32 rfl dX11_isWhole_29 lf_11_129 (s_78 hst) (by decide) rfl (p_78_58 hst) ?_
    refine ev_aload_n 33 rfl dX11_isWhole_32 rfl rfl ?_
    refine ev_getI (ki := 63) 36 rfl dX11_isWhole_33 lf_11_403 (Or.inl rfl) (s_78 hst) (by decide) rfl ?_
    refine ev_aload_n 37 rfl dX11_isWhole_36 rfl rfl ?_
    refine ev_getR (ki := 61) (v := 112) 40 rfl dX11_isWhole_37 lf_11_138 (s_78 hst) (by decide) rfl (p_78_61 hst) ?_
    refine ev_iconst 41 rfl dX11_isWhole_40 (by decide) ?_
    refine ev_iaload 42 rfl dX11_isWhole_41 (s_112 hst) (by decide) (by decide) ?_
    refine ev_cSI (As := [(0, (h2 78 63)), (0, (h2 112 0))]) (rest := [(2, 109), (0, (h2 109 r3))]) 45 rfl dX11_isWhole_42 lm_11_405 mm_X11_cell rfl rfl (Nat.le_of_ble_eq_true rfl) (Nat.le_of_ble_eq_true rfl) (Nat.le_refl _) H ?_
    intro r6 h5 H
    obtain ⟨b7, H⟩ := H
    refine ev_iaload 46 rfl dX11_isWhole_45 (s_109 hst) b7.1 b7.2 ?_
    obtain ⟨sd, H⟩ := H
    refine ev_isub 47 rfl dX11_isWhole_46 sd ?_
    refine ev_iload_n 48 rfl dX11_isWhole_47 rfl rfl ?_
    obtain ⟨sd, H⟩ := H
    refine ev_irem 49 rfl dX11_isWhole_48 sd ?_
    refine ev_if_eq (tgt := 54) 52 rfl dX11_isWhole_49 (by decide) (fun cd => ?_) (fun cd => ?_)
    · have H := H.1 cd
      refine ev_aload_n 55 rfl dX11_isWhole_54 rfl rfl ?_
      refine ev_getR (ki := 59) (v := 110) 58 rfl dX11_isWhole_55 lf_11_132 (s_78 hst) (by decide) rfl (p_78_59 hst) ?_
      refine ev_aload_n 59 rfl dX11_isWhole_58 rfl rfl ?_
      refine ev_getI (ki := 63) 62 rfl dX11_isWhole_59 lf_11_403 (Or.inl rfl) (s_78 hst) (by decide) rfl ?_
      refine ev_aload_n 63 rfl dX11_isWhole_62 rfl rfl ?_
      refine ev_getR (ki := 61) (v := 112) 66 rfl dX11_isWhole_63 lf_11_138 (s_78 hst) (by decide) rfl (p_78_61 hst) ?_
      refine ev_iload_n 67 rfl dX11_isWhole_66 rfl rfl ?_
      obtain ⟨b8, H⟩ := H
      refine ev_iaload 68 rfl dX11_isWhole_67 (s_112 hst) b8.1 b8.2 ?_
      refine ev_cSI (As := [(0, (h5 78 63)), (0, (h5 112 v2))]) (rest := [(2, 110)]) 71 rfl dX11_isWhole_68 lm_11_405 mm_X11_cell rfl rfl (Nat.le_of_ble_eq_true rfl) (Nat.le_of_ble_eq_true rfl) (Nat.le_refl _) H ?_
      intro r10 h9 H
      obtain ⟨b11, H⟩ := H
      refine ev_iaload 72 rfl dX11_isWhole_71 (s_110 hst) b11.1 b11.2 ?_
      refine ev_aload_n 73 rfl dX11_isWhole_72 rfl rfl ?_
      refine ev_getR (ki := 59) (v := 110) 76 rfl dX11_isWhole_73 lf_11_132 (s_78 hst) (by decide) rfl (p_78_59 hst) ?_
      refine ev_aload_n 77 rfl dX11_isWhole_76 rfl rfl ?_
      refine ev_getI (ki := 63) 80 rfl dX11_isWhole_77 lf_11_403 (Or.inl rfl) (s_78 hst) (by decide) rfl ?_
      refine ev_aload_n 81 rfl dX11_isWhole_80 rfl rfl ?_
      refine ev_getR (ki := 61) (v := 112) 84 rfl dX11_isWhole_81 lf_11_138 (s_78 hst) (by decide) rfl (p_78_61 hst) ?_
      refine ev_iconst 85 rfl dX11_isWhole_84 (by decide) ?_
      refine ev_iaload 86 rfl dX11_isWhole_85 (s_112 hst) (by decide) (by decide) ?_
      refine ev_cSI (As := [(0, (h9 78 63)), (0, (h9 112 0))]) (rest := [(2, 110), (0, (h9 110 r10))]) 89 rfl dX11_isWhole_86 lm_11_405 mm_X11_cell rfl rfl (Nat.le_of_ble_eq_true rfl) (Nat.le_of_ble_eq_true rfl) (Nat.le_refl _) H ?_
      intro r13 h12 H
      obtain ⟨b14, H⟩ := H
      refine ev_iaload 90 rfl dX11_isWhole_89 (s_110 hst) b14.1 b14.2 ?_
      obtain ⟨sd, H⟩ := H
      refine ev_isub 91 rfl dX11_isWhole_90 sd ?_
      refine ev_iload_n 92 rfl dX11_isWhole_91 rfl rfl ?_
      obtain ⟨sd, H⟩ := H
      refine ev_irem 93 rfl dX11_isWhole_92 sd ?_
      refine ev_if_eq (tgt := 98) 96 rfl dX11_isWhole_93 (by decide) (fun cd => ?_) (fun cd => ?_)
      · have H := H.1 cd
        obtain ⟨sd, H⟩ := H
        refine ev_iinc (L1 := [(2, 78), (0, v1), (0, (v2 + 1))]) 101 rfl dX11_isWhole_98 rfl sd (Nat.le_of_ble_eq_true rfl) rfl ?_
        refine ev_goto (tgt := 2) dX11_isWhole_101 (by decide) ?_
        exact H
      · have H := H.2 cd
        refine ev_iconst 97 rfl dX11_isWhole_96 (by decide) ?_
        exact ev_retZ dX11_isWhole_97 rfl (by decide) H
    · have H := H.2 cd
      refine ev_iconst 53 rfl dX11_isWhole_52 (by decide) ?_
      exact ev_retZ dX11_isWhole_53 rfl (by decide) H

set_option maxRecDepth 20000 in
theorem b_X11_goesOne {X : qX} {d : Nat} {sh : qS} {pt h : qM} {K : qM → Prop} {v1 v2 v3 v4 : Int} (hst : St sh pt)
    (H : (0 ≤ v2 ∧ v2 < 20) ∧ RunI X d mX11_cell [(0, (h 78 63)), (0, (h 112 v2))] sh pt h (fun r3 h2 => (qI ((h2 78 63) + v3)) ∧ (qI (((h2 78 63) + v3) - 1)) ∧ (0 ≤ v2 ∧ v2 < 20) ∧ RunI X d mX11_cell [(0, (((h2 78 63) + v3) - 1)), (0, (h2 112 v2))] sh pt h2 (fun r6 h5 => (qI ((h5 78 63) + v3)) ∧ (0 ≤ v2 ∧ v2 < 20) ∧ RunI X d mX11_cell [(0, ((h5 78 63) + v3)), (0, (h5 112 v2))] sh pt h5 (fun r9 h8 => RunI X d mX11_cell [(0, (h8 78 63)), (0, (h8 112 0))] sh pt h8 (fun r11 h10 => (0 ≤ r6 ∧ r6 < 3020) ∧ (0 ≤ r3 ∧ r3 < 3020) ∧ (0 ≤ r11 ∧ r11 < 3020) ∧ (qI ((h10 109 r3) - (h10 109 r11))) ∧ ∀ x15 : Int, x15 = ((h10 109 r3) - (h10 109 r11)) → (0 ≤ r3 ∧ r3 < 3020) ∧ (0 ≤ r11 ∧ r11 < 3020) ∧ (qI ((h10 110 r3) - (h10 110 r11))) ∧ ∀ x18 : Int, x18 = ((h10 110 r3) - (h10 110 r11)) → (0 ≤ r9 ∧ r9 < 3020) ∧ ∀ h20 : qM, h20 = qup h10 111 r9 (h10 111 r6) → (0 ≤ r6 ∧ r6 < 3020) ∧ (0 ≤ r6 ∧ r6 < 3020) ∧ (0 ≤ v1 ∧ v1 < 60) ∧ (((h20 94 v1) = 0 → RunI X d mX11_eastOf [(0, (h10 111 r6))] sh pt h20 (fun r25 h24 => (qI ((h20 109 r6) + r25)) ∧ RunI X d mX11_northOf [(0, (h10 111 r6))] sh pt h24 (fun r27 h26 => (qI ((h20 110 r6) + r27)) ∧ (0 ≤ r9 ∧ r9 < 3020) ∧ ∀ h29 : qM, h29 = qup h26 109 r9 ((h20 109 r6) + r25) → (0 ≤ r9 ∧ r9 < 3020) ∧ ∀ h31 : qM, h31 = qup h29 110 r9 ((h20 110 r6) + r27) → K h31))) ∧ ((h20 94 v1) = 1 → RunI X d mX11_eastOf [(0, (h10 111 r6))] sh pt h20 (fun r33 h32 => (qI ((h20 109 r6) - r33)) ∧ RunI X d mX11_northOf [(0, (h10 111 r6))] sh pt h32 (fun r35 h34 => (qI ((h20 110 r6) - r35)) ∧ (0 ≤ r9 ∧ r9 < 3020) ∧ ∀ h37 : qM, h37 = qup h34 109 r9 ((h20 109 r6) - r33) → (0 ≤ r9 ∧ r9 < 3020) ∧ ∀ h39 : qM, h39 = qup h37 110 r9 ((h20 110 r6) - r35) → K h39))) ∧ ((h20 94 v1) = 2 → (0 ≤ r9 ∧ r9 < 3020) ∧ ∀ h41 : qM, h41 = qup h20 109 r9 (h20 109 r6) → (0 ≤ r9 ∧ r9 < 3020) ∧ ∀ h43 : qM, h43 = qup h41 110 r9 (h20 110 r6) → K h43) ∧ ((h20 94 v1) = 3 → (0 ≤ r9 ∧ r9 < 3020) ∧ ∀ h45 : qM, h45 = qup h20 109 r9 (h20 109 r6) → (0 ≤ r9 ∧ r9 < 3020) ∧ ∀ h47 : qM, h47 = qup h45 110 r9 (h20 110 r6) → K h47) ∧ ((h20 94 v1) = 4 → ((¬ v2 = 0 → (qI ((h20 78 63) + v3)) ∧ (qI (((h20 78 63) + v3) - 1)) ∧ (qI (v2 - 1)) ∧ (0 ≤ (v2 - 1) ∧ (v2 - 1) < 20) ∧ RunI X d mX11_cell [(0, (((h20 78 63) + v3) - 1)), (0, (h20 112 (v2 - 1)))] sh pt h20 (fun r50 h49 => (0 ≤ r50 ∧ r50 < 3020) ∧ (0 ≤ r50 ∧ r50 < 3020) ∧ (0 ≤ r50 ∧ r50 < 3020) ∧ (0 ≤ r9 ∧ r9 < 3020) ∧ ∀ h55 : qM, h55 = qup h49 111 r9 (h49 111 r50) → (0 ≤ r9 ∧ r9 < 3020) ∧ ∀ h57 : qM, h57 = qup h55 109 r9 (h49 109 r50) → (0 ≤ r9 ∧ r9 < 3020) ∧ ∀ h59 : qM, h59 = qup h57 110 r9 (h49 110 r50) → K h59)) ∧ (v2 = 0 → RunI X d mX11_eastOf [(0, (h10 111 r6))] sh pt h20 (fun r61 h60 => (qI ((h20 109 r6) + r61)) ∧ RunI X d mX11_northOf [(0, (h10 111 r6))] sh pt h60 (fun r63 h62 => (qI ((h20 110 r6) + r63)) ∧ (0 ≤ r9 ∧ r9 < 3020) ∧ ∀ h65 : qM, h65 = qup h62 109 r9 ((h20 109 r6) + r61) → (0 ≤ r9 ∧ r9 < 3020) ∧ ∀ h67 : qM, h67 = qup h65 110 r9 ((h20 110 r6) + r63) → K h67))))) ∧ ((h20 94 v1) = 5 → (0 ≤ r9 ∧ r9 < 3020) ∧ ∀ h69 : qM, h69 = qup h20 109 r9 (h20 109 r6) → (0 ≤ r9 ∧ r9 < 3020) ∧ ∀ h71 : qM, h71 = qup h69 110 r9 (h20 110 r6) → K h71) ∧ ((h20 94 v1) = 6 → (0 ≤ r3 ∧ r3 < 3020) ∧ (0 ≤ v1 ∧ v1 < 60) ∧ (qI ((h20 96 v1) * x18)) ∧ (qI (((h20 96 v1) * x18) - x15)) ∧ RunI X d mX11_between [(0, (h20 109 r3)), (0, (((h20 96 v1) * x18) - x15)), (0, v3), (0, v4)] sh pt h20 (fun r75 h74 => (0 ≤ r3 ∧ r3 < 3020) ∧ (0 ≤ v1 ∧ v1 < 60) ∧ (qI (-(h74 96 v1))) ∧ (qI ((-(h74 96 v1)) * x15)) ∧ (qI (((-(h74 96 v1)) * x15) - x18)) ∧ RunI X d mX11_between [(0, (h74 110 r3)), (0, (((-(h74 96 v1)) * x15) - x18)), (0, v3), (0, v4)] sh pt h74 (fun r79 h78 => (0 ≤ r9 ∧ r9 < 3020) ∧ ∀ h81 : qM, h81 = qup h78 109 r9 r75 → (0 ≤ r9 ∧ r9 < 3020) ∧ ∀ h83 : qM, h83 = qup h81 110 r9 r79 → K h83))) ∧ ((h20 94 v1) = 7 → (0 ≤ r3 ∧ r3 < 3020) ∧ (0 ≤ v1 ∧ v1 < 60) ∧ (qI ((h20 96 v1) - 1)) ∧ (qI (((h20 96 v1) - 1) * x15)) ∧ RunI X d mX11_between [(0, (h20 109 r3)), (0, (((h20 96 v1) - 1) * x15)), (0, v3), (0, v4)] sh pt h20 (fun r87 h86 => (0 ≤ r3 ∧ r3 < 3020) ∧ (0 ≤ v1 ∧ v1 < 60) ∧ (qI ((h86 96 v1) - 1)) ∧ (qI (((h86 96 v1) - 1) * x18)) ∧ RunI X d mX11_between [(0, (h86 110 r3)), (0, (((h86 96 v1) - 1) * x18)), (0, v3), (0, v4)] sh pt h86 (fun r91 h90 => (0 ≤ r9 ∧ r9 < 3020) ∧ ∀ h93 : qM, h93 = qup h90 109 r9 r87 → (0 ≤ r9 ∧ r9 < 3020) ∧ ∀ h95 : qM, h95 = qup h93 110 r9 r91 → K h95))) ∧ ((h20 94 v1) = 8 → (0 ≤ r3 ∧ r3 < 3020) ∧ (0 ≤ v1 ∧ v1 < 60) ∧ ((h20 96 v1) ≠ 0 ∧ qI (x15.tdiv (h20 96 v1))) ∧ (qI ((x15.tdiv (h20 96 v1)) - x15)) ∧ RunI X d mX11_between [(0, (h20 109 r3)), (0, ((x15.tdiv (h20 96 v1)) - x15)), (0, v3), (0, v4)] sh pt h20 (fun r99 h98 => (0 ≤ r3 ∧ r3 < 3020) ∧ (0 ≤ v1 ∧ v1 < 60) ∧ ((h98 96 v1) ≠ 0 ∧ qI (x18.tdiv (h98 96 v1))) ∧ (qI ((x18.tdiv (h98 96 v1)) - x18)) ∧ RunI X d mX11_between [(0, (h98 110 r3)), (0, ((x18.tdiv (h98 96 v1)) - x18)), (0, v3), (0, v4)] sh pt h98 (fun r103 h102 => (0 ≤ r9 ∧ r9 < 3020) ∧ ∀ h105 : qM, h105 = qup h102 109 r9 r99 → (0 ≤ r9 ∧ r9 < 3020) ∧ ∀ h107 : qM, h107 = qup h105 110 r9 r103 → K h107))) ∧ ((h20 94 v1) = 9 → (0 ≤ r3 ∧ r3 < 3020) ∧ (0 ≤ v1 ∧ v1 < 60) ∧ RunI X d mX11_between [(0, (h20 109 r3)), (0, (h20 96 v1)), (0, v3), (0, v4)] sh pt h20 (fun r111 h110 => (0 ≤ r3 ∧ r3 < 3020) ∧ (0 ≤ v1 ∧ v1 < 60) ∧ RunI X d mX11_between [(0, (h110 110 r3)), (0, (h110 97 v1)), (0, v3), (0, v4)] sh pt h110 (fun r115 h114 => (0 ≤ r9 ∧ r9 < 3020) ∧ ∀ h117 : qM, h117 = qup h114 109 r9 r111 → (0 ≤ r9 ∧ r9 < 3020) ∧ ∀ h119 : qM, h119 = qup h117 110 r9 r115 → K h119))) ∧ (((h20 94 v1) < 0 ∨ 9 < (h20 94 v1)) → (0 ≤ r9 ∧ r9 < 3020) ∧ ∀ h121 : qM, h121 = qup h20 109 r9 (h20 109 r6) → (0 ≤ r9 ∧ r9 < 3020) ∧ ∀ h123 : qM, h123 = qup h121 110 r9 (h20 110 r6) → K h123))))))) :
    RunV X (d + 1) mX11_goesOne [(2, 78), (0, v1), (0, v2), (0, v3), (0, v4)] sh pt h K := by
  show Ev X (d + 1) 0 0 mX11_goesOne 0 [(2, 78), (0, v1), (0, v2), (0, v3), (0, v4), (8, -1), (8, -1), (8, -1), (8, -1), (8, -1), (8, -1), (8, -1), (8, -1), (8, -1), (8, -1)] [] (sh, pt, h) (qRV sh pt K)
  refine ev_aload_n 1 rfl dX11_goesOne_0 rfl rfl ?_
  refine ev_getI (ki := 63) 4 rfl dX11_goesOne_1 lf_11_403 (Or.inl rfl) (s_78 hst) (by decide) rfl ?_
  refine ev_aload_n 5 rfl dX11_goesOne_4 rfl rfl ?_
  refine ev_getR (ki := 61) (v := 112) 8 rfl dX11_goesOne_5 lf_11_138 (s_78 hst) (by decide) rfl (p_78_61 hst) ?_
  refine ev_iload_n 9 rfl dX11_goesOne_8 rfl rfl ?_
  obtain ⟨b1, H⟩ := H
  refine ev_iaload 10 rfl dX11_goesOne_9 (s_112 hst) b1.1 b1.2 ?_
  refine ev_cSI (As := [(0, (h 78 63)), (0, (h 112 v2))]) (rest := []) 13 rfl dX11_goesOne_10 lm_11_405 mm_X11_cell rfl rfl (Nat.le_of_ble_eq_true rfl) (Nat.le_of_ble_eq_true rfl) (Nat.le_refl _) H ?_
  intro r3 h2 H
  refine ev_istore (L1 := [(2, 78), (0, v1), (0, v2), (0, v3), (0, v4), (0, r3), (8, -1), (8, -1), (8, -1), (8, -1), (8, -1), (8, -1), (8, -1), (8, -1), (8, -1)]) 15 rfl dX11_goesOne_13 (Nat.le_of_ble_eq_true rfl) rfl ?_
  refine ev_aload_n 16 rfl dX11_goesOne_15 rfl rfl ?_
  refine ev_getI (ki := 63) 19 rfl dX11_goesOne_16 lf_11_403 (Or.inl rfl) (s_78 hst) (by decide) rfl ?_
  refine ev_iload_n 20 rfl dX11_goesOne_19 rfl rfl ?_
  obtain ⟨sd, H⟩ := H
  refine ev_iadd 21 rfl dX11_goesOne_20 sd ?_
  refine ev_iconst 22 rfl dX11_goesOne_21 (by decide) ?_
  obtain ⟨sd, H⟩ := H
  refine ev_isub 23 rfl dX11_goesOne_22 sd ?_
  refine ev_aload_n 24 rfl dX11_goesOne_23 rfl rfl ?_
  refine ev_getR (ki := 61) (v := 112) 27 rfl dX11_goesOne_24 lf_11_138 (s_78 hst) (by decide) rfl (p_78_61 hst) ?_
  refine ev_iload_n 28 rfl dX11_goesOne_27 rfl rfl ?_
  obtain ⟨b4, H⟩ := H
  refine ev_iaload 29 rfl dX11_goesOne_28 (s_112 hst) b4.1 b4.2 ?_
  refine ev_cSI (As := [(0, (((h2 78 63) + v3) - 1)), (0, (h2 112 v2))]) (rest := []) 32 rfl dX11_goesOne_29 lm_11_405 mm_X11_cell rfl rfl (Nat.le_of_ble_eq_true rfl) (Nat.le_of_ble_eq_true rfl) (Nat.le_refl _) H ?_
  intro r6 h5 H
  refine ev_istore (L1 := [(2, 78), (0, v1), (0, v2), (0, v3), (0, v4), (0, r3), (0, r6), (8, -1), (8, -1), (8, -1), (8, -1), (8, -1), (8, -1), (8, -1), (8, -1)]) 34 rfl dX11_goesOne_32 (Nat.le_of_ble_eq_true rfl) rfl ?_
  refine ev_aload_n 35 rfl dX11_goesOne_34 rfl rfl ?_
  refine ev_getI (ki := 63) 38 rfl dX11_goesOne_35 lf_11_403 (Or.inl rfl) (s_78 hst) (by decide) rfl ?_
  refine ev_iload_n 39 rfl dX11_goesOne_38 rfl rfl ?_
  obtain ⟨sd, H⟩ := H
  refine ev_iadd 40 rfl dX11_goesOne_39 sd ?_
  refine ev_aload_n 41 rfl dX11_goesOne_40 rfl rfl ?_
  refine ev_getR (ki := 61) (v := 112) 44 rfl dX11_goesOne_41 lf_11_138 (s_78 hst) (by decide) rfl (p_78_61 hst) ?_
  refine ev_iload_n 45 rfl dX11_goesOne_44 rfl rfl ?_
  obtain ⟨b7, H⟩ := H
  refine ev_iaload 46 rfl dX11_goesOne_45 (s_112 hst) b7.1 b7.2 ?_
  refine ev_cSI (As := [(0, ((h5 78 63) + v3)), (0, (h5 112 v2))]) (rest := []) 49 rfl dX11_goesOne_46 lm_11_405 mm_X11_cell rfl rfl (Nat.le_of_ble_eq_true rfl) (Nat.le_of_ble_eq_true rfl) (Nat.le_refl _) H ?_
  intro r9 h8 H
  refine ev_istore (L1 := [(2, 78), (0, v1), (0, v2), (0, v3), (0, v4), (0, r3), (0, r6), (0, r9), (8, -1), (8, -1), (8, -1), (8, -1), (8, -1), (8, -1), (8, -1)]) 51 rfl dX11_goesOne_49 (Nat.le_of_ble_eq_true rfl) rfl ?_
  refine ev_aload_n 52 rfl dX11_goesOne_51 rfl rfl ?_
  refine ev_getI (ki := 63) 55 rfl dX11_goesOne_52 lf_11_403 (Or.inl rfl) (s_78 hst) (by decide) rfl ?_
  refine ev_aload_n 56 rfl dX11_goesOne_55 rfl rfl ?_
  refine ev_getR (ki := 61) (v := 112) 59 rfl dX11_goesOne_56 lf_11_138 (s_78 hst) (by decide) rfl (p_78_61 hst) ?_
  refine ev_iconst 60 rfl dX11_goesOne_59 (by decide) ?_
  refine ev_iaload 61 rfl dX11_goesOne_60 (s_112 hst) (by decide) (by decide) ?_
  refine ev_cSI (As := [(0, (h8 78 63)), (0, (h8 112 0))]) (rest := []) 64 rfl dX11_goesOne_61 lm_11_405 mm_X11_cell rfl rfl (Nat.le_of_ble_eq_true rfl) (Nat.le_of_ble_eq_true rfl) (Nat.le_refl _) H ?_
  intro r11 h10 H
  refine ev_istore (L1 := [(2, 78), (0, v1), (0, v2), (0, v3), (0, v4), (0, r3), (0, r6), (0, r9), (0, r11), (8, -1), (8, -1), (8, -1), (8, -1), (8, -1), (8, -1)]) 66 rfl dX11_goesOne_64 (Nat.le_of_ble_eq_true rfl) rfl ?_
  refine ev_aload_n 67 rfl dX11_goesOne_66 rfl rfl ?_
  refine ev_getR (ki := 60) (v := 111) 70 rfl dX11_goesOne_67 lf_11_135 (s_78 hst) (by decide) rfl (p_78_60 hst) ?_
  refine ev_iload 72 rfl dX11_goesOne_70 rfl ?_
  obtain ⟨b12, H⟩ := H
  refine ev_iaload 73 rfl dX11_goesOne_72 (s_111 hst) b12.1 b12.2 ?_
  refine ev_istore (L1 := [(2, 78), (0, v1), (0, v2), (0, v3), (0, v4), (0, r3), (0, r6), (0, r9), (0, r11), (0, (h10 111 r6)), (8, -1), (8, -1), (8, -1), (8, -1), (8, -1)]) 75 rfl dX11_goesOne_73 (Nat.le_of_ble_eq_true rfl) rfl ?_
  refine ev_aload_n 76 rfl dX11_goesOne_75 rfl rfl ?_
  refine ev_getR (ki := 58) (v := 109) 79 rfl dX11_goesOne_76 lf_11_129 (s_78 hst) (by decide) rfl (p_78_58 hst) ?_
  refine ev_iload 81 rfl dX11_goesOne_79 rfl ?_
  obtain ⟨b13, H⟩ := H
  refine ev_iaload 82 rfl dX11_goesOne_81 (s_109 hst) b13.1 b13.2 ?_
  refine ev_aload_n 83 rfl dX11_goesOne_82 rfl rfl ?_
  refine ev_getR (ki := 58) (v := 109) 86 rfl dX11_goesOne_83 lf_11_129 (s_78 hst) (by decide) rfl (p_78_58 hst) ?_
  refine ev_iload 88 rfl dX11_goesOne_86 rfl ?_
  obtain ⟨b14, H⟩ := H
  refine ev_iaload 89 rfl dX11_goesOne_88 (s_109 hst) b14.1 b14.2 ?_
  obtain ⟨sd, H⟩ := H
  refine ev_isub 90 rfl dX11_goesOne_89 sd ?_
  obtain ⟨x15, ex15⟩ : ∃ z : Int, z = ((h10 109 r3) - (h10 109 r11)) := ⟨_, rfl⟩
  rw [← ex15]
  have H := H x15 ex15
  refine ev_istore (L1 := [(2, 78), (0, v1), (0, v2), (0, v3), (0, v4), (0, r3), (0, r6), (0, r9), (0, r11), (0, (h10 111 r6)), (0, x15), (8, -1), (8, -1), (8, -1), (8, -1)]) 92 rfl dX11_goesOne_90 (Nat.le_of_ble_eq_true rfl) rfl ?_
  refine ev_aload_n 93 rfl dX11_goesOne_92 rfl rfl ?_
  refine ev_getR (ki := 59) (v := 110) 96 rfl dX11_goesOne_93 lf_11_132 (s_78 hst) (by decide) rfl (p_78_59 hst) ?_
  refine ev_iload 98 rfl dX11_goesOne_96 rfl ?_
  obtain ⟨b16, H⟩ := H
  refine ev_iaload 99 rfl dX11_goesOne_98 (s_110 hst) b16.1 b16.2 ?_
  refine ev_aload_n 100 rfl dX11_goesOne_99 rfl rfl ?_
  refine ev_getR (ki := 59) (v := 110) 103 rfl dX11_goesOne_100 lf_11_132 (s_78 hst) (by decide) rfl (p_78_59 hst) ?_
  refine ev_iload 105 rfl dX11_goesOne_103 rfl ?_
  obtain ⟨b17, H⟩ := H
  refine ev_iaload 106 rfl dX11_goesOne_105 (s_110 hst) b17.1 b17.2 ?_
  obtain ⟨sd, H⟩ := H
  refine ev_isub 107 rfl dX11_goesOne_106 sd ?_
  obtain ⟨x18, ex18⟩ : ∃ z : Int, z = ((h10 110 r3) - (h10 110 r11)) := ⟨_, rfl⟩
  rw [← ex18]
  have H := H x18 ex18
  refine ev_istore (L1 := [(2, 78), (0, v1), (0, v2), (0, v3), (0, v4), (0, r3), (0, r6), (0, r9), (0, r11), (0, (h10 111 r6)), (0, x15), (0, x18), (8, -1), (8, -1), (8, -1)]) 109 rfl dX11_goesOne_107 (Nat.le_of_ble_eq_true rfl) rfl ?_
  refine ev_aload_n 110 rfl dX11_goesOne_109 rfl rfl ?_
  refine ev_getR (ki := 60) (v := 111) 113 rfl dX11_goesOne_110 lf_11_135 (s_78 hst) (by decide) rfl (p_78_60 hst) ?_
  refine ev_iload 115 rfl dX11_goesOne_113 rfl ?_
  refine ev_iload 117 rfl dX11_goesOne_115 rfl ?_
  obtain ⟨b19, H⟩ := H
  refine ev_iastore 118 rfl dX11_goesOne_117 (s_111 hst) b19.1 b19.2 ?_
  obtain ⟨h20, eh20⟩ : ∃ z : qM, z = qup h10 111 r9 (h10 111 r6) := ⟨_, rfl⟩
  rw [← eh20]
  have H := H h20 eh20
  refine ev_aload_n 119 rfl dX11_goesOne_118 rfl rfl ?_
  refine ev_getR (ki := 58) (v := 109) 122 rfl dX11_goesOne_119 lf_11_129 (s_78 hst) (by decide) rfl (p_78_58 hst) ?_
  refine ev_iload 124 rfl dX11_goesOne_122 rfl ?_
  obtain ⟨b21, H⟩ := H
  refine ev_iaload 125 rfl dX11_goesOne_124 (s_109 hst) b21.1 b21.2 ?_
  refine ev_istore (L1 := [(2, 78), (0, v1), (0, v2), (0, v3), (0, v4), (0, r3), (0, r6), (0, r9), (0, r11), (0, (h10 111 r6)), (0, x15), (0, x18), (0, (h20 109 r6)), (8, -1), (8, -1)]) 127 rfl dX11_goesOne_125 (Nat.le_of_ble_eq_true rfl) rfl ?_
  refine ev_aload_n 128 rfl dX11_goesOne_127 rfl rfl ?_
  refine ev_getR (ki := 59) (v := 110) 131 rfl dX11_goesOne_128 lf_11_132 (s_78 hst) (by decide) rfl (p_78_59 hst) ?_
  refine ev_iload 133 rfl dX11_goesOne_131 rfl ?_
  obtain ⟨b22, H⟩ := H
  refine ev_iaload 134 rfl dX11_goesOne_133 (s_110 hst) b22.1 b22.2 ?_
  refine ev_istore (L1 := [(2, 78), (0, v1), (0, v2), (0, v3), (0, v4), (0, r3), (0, r6), (0, r9), (0, r11), (0, (h10 111 r6)), (0, x15), (0, x18), (0, (h20 109 r6)), (0, (h20 110 r6)), (8, -1)]) 136 rfl dX11_goesOne_134 (Nat.le_of_ble_eq_true rfl) rfl ?_
  refine ev_aload_n 137 rfl dX11_goesOne_136 rfl rfl ?_
  refine ev_getR (ki := 38) (v := 94) 140 rfl dX11_goesOne_137 lf_11_75 (s_78 hst) (by decide) rfl (p_78_38 hst) ?_
  refine ev_iload_n 141 rfl dX11_goesOne_140 rfl rfl ?_
  obtain ⟨b23, H⟩ := H
  refine ev_iaload 142 rfl dX11_goesOne_141 (s_94 hst) b23.1 b23.2 ?_
  have hsw : (h20 94 v1) = 0 ∨ (h20 94 v1) = 1 ∨ (h20 94 v1) = 2 ∨ (h20 94 v1) = 3 ∨ (h20 94 v1) = 4 ∨ (h20 94 v1) = 5 ∨ (h20 94 v1) = 6 ∨ (h20 94 v1) = 7 ∨ (h20 94 v1) = 8 ∨ (h20 94 v1) = 9 ∨ ((h20 94 v1) < 0 ∨ 9 < (h20 94 v1)) := by omega
  rcases hsw with cd | cd | cd | cd | cd | cd | cd | cd | cd | cd | cd
  · have H := H.1 cd
    refine ev_tableIn (off := 54) (tgt := 196) dX11_goesOne_142 (by omega) (by omega) (by rw [cd]; rfl) (by decide) ?_
    refine ev_iload 198 rfl dX11_goesOne_196 rfl ?_
    refine ev_iload 200 rfl dX11_goesOne_198 rfl ?_
    refine ev_cSI (As := [(0, (h10 111 r6))]) (rest := [(0, (h20 109 r6))]) 203 rfl dX11_goesOne_200 lm_11_418 mm_X11_eastOf rfl rfl (Nat.le_of_ble_eq_true rfl) (Nat.le_of_ble_eq_true rfl) (Nat.le_refl _) H ?_
    intro r25 h24 H
    obtain ⟨sd, H⟩ := H
    refine ev_iadd 204 rfl dX11_goesOne_203 sd ?_
    refine ev_istore (L1 := [(2, 78), (0, v1), (0, v2), (0, v3), (0, v4), (0, r3), (0, r6), (0, r9), (0, r11), (0, (h10 111 r6)), (0, x15), (0, x18), (0, ((h20 109 r6) + r25)), (0, (h20 110 r6)), (8, -1)]) 206 rfl dX11_goesOne_204 (Nat.le_of_ble_eq_true rfl) rfl ?_
    refine ev_iload 208 rfl dX11_goesOne_206 rfl ?_
    refine ev_iload 210 rfl dX11_goesOne_208 rfl ?_
    refine ev_cSI (As := [(0, (h10 111 r6))]) (rest := [(0, (h20 110 r6))]) 213 rfl dX11_goesOne_210 lm_11_421 mm_X11_northOf rfl rfl (Nat.le_of_ble_eq_true rfl) (Nat.le_of_ble_eq_true rfl) (Nat.le_refl _) H ?_
    intro r27 h26 H
    obtain ⟨sd, H⟩ := H
    refine ev_iadd 214 rfl dX11_goesOne_213 sd ?_
    refine ev_istore (L1 := [(2, 78), (0, v1), (0, v2), (0, v3), (0, v4), (0, r3), (0, r6), (0, r9), (0, r11), (0, (h10 111 r6)), (0, x15), (0, x18), (0, ((h20 109 r6) + r25)), (0, ((h20 110 r6) + r27)), (8, -1)]) 216 rfl dX11_goesOne_214 (Nat.le_of_ble_eq_true rfl) rfl ?_
    refine ev_goto (tgt := 540) dX11_goesOne_216 (by decide) ?_
    refine ev_aload_n 541 rfl dX11_goesOne_540 rfl rfl ?_
    refine ev_getR (ki := 58) (v := 109) 544 rfl dX11_goesOne_541 lf_11_129 (s_78 hst) (by decide) rfl (p_78_58 hst) ?_
    refine ev_iload 546 rfl dX11_goesOne_544 rfl ?_
    refine ev_iload 548 rfl dX11_goesOne_546 rfl ?_
    obtain ⟨b28, H⟩ := H
    refine ev_iastore 549 rfl dX11_goesOne_548 (s_109 hst) b28.1 b28.2 ?_
    obtain ⟨h29, eh29⟩ : ∃ z : qM, z = qup h26 109 r9 ((h20 109 r6) + r25) := ⟨_, rfl⟩
    rw [← eh29]
    have H := H h29 eh29
    refine ev_aload_n 550 rfl dX11_goesOne_549 rfl rfl ?_
    refine ev_getR (ki := 59) (v := 110) 553 rfl dX11_goesOne_550 lf_11_132 (s_78 hst) (by decide) rfl (p_78_59 hst) ?_
    refine ev_iload 555 rfl dX11_goesOne_553 rfl ?_
    refine ev_iload 557 rfl dX11_goesOne_555 rfl ?_
    obtain ⟨b30, H⟩ := H
    refine ev_iastore 558 rfl dX11_goesOne_557 (s_110 hst) b30.1 b30.2 ?_
    obtain ⟨h31, eh31⟩ : ∃ z : qM, z = qup h29 110 r9 ((h20 110 r6) + r27) := ⟨_, rfl⟩
    rw [← eh31]
    have H := H h31 eh31
    exact ev_retV dX11_goesOne_558 rfl H
  · have H := H.2.1 cd
    refine ev_tableIn (off := 77) (tgt := 219) dX11_goesOne_142 (by omega) (by omega) (by rw [cd]; rfl) (by decide) ?_
    refine ev_iload 221 rfl dX11_goesOne_219 rfl ?_
    refine ev_iload 223 rfl dX11_goesOne_221 rfl ?_
    refine ev_cSI (As := [(0, (h10 111 r6))]) (rest := [(0, (h20 109 r6))]) 226 rfl dX11_goesOne_223 lm_11_418 mm_X11_eastOf rfl rfl (Nat.le_of_ble_eq_true rfl) (Nat.le_of_ble_eq_true rfl) (Nat.le_refl _) H ?_
    intro r33 h32 H
    obtain ⟨sd, H⟩ := H
    refine ev_isub 227 rfl dX11_goesOne_226 sd ?_
    refine ev_istore (L1 := [(2, 78), (0, v1), (0, v2), (0, v3), (0, v4), (0, r3), (0, r6), (0, r9), (0, r11), (0, (h10 111 r6)), (0, x15), (0, x18), (0, ((h20 109 r6) - r33)), (0, (h20 110 r6)), (8, -1)]) 229 rfl dX11_goesOne_227 (Nat.le_of_ble_eq_true rfl) rfl ?_
    refine ev_iload 231 rfl dX11_goesOne_229 rfl ?_
    refine ev_iload 233 rfl dX11_goesOne_231 rfl ?_
    refine ev_cSI (As := [(0, (h10 111 r6))]) (rest := [(0, (h20 110 r6))]) 236 rfl dX11_goesOne_233 lm_11_421 mm_X11_northOf rfl rfl (Nat.le_of_ble_eq_true rfl) (Nat.le_of_ble_eq_true rfl) (Nat.le_refl _) H ?_
    intro r35 h34 H
    obtain ⟨sd, H⟩ := H
    refine ev_isub 237 rfl dX11_goesOne_236 sd ?_
    refine ev_istore (L1 := [(2, 78), (0, v1), (0, v2), (0, v3), (0, v4), (0, r3), (0, r6), (0, r9), (0, r11), (0, (h10 111 r6)), (0, x15), (0, x18), (0, ((h20 109 r6) - r33)), (0, ((h20 110 r6) - r35)), (8, -1)]) 239 rfl dX11_goesOne_237 (Nat.le_of_ble_eq_true rfl) rfl ?_
    refine ev_goto (tgt := 540) dX11_goesOne_239 (by decide) ?_
    refine ev_aload_n 541 rfl dX11_goesOne_540 rfl rfl ?_
    refine ev_getR (ki := 58) (v := 109) 544 rfl dX11_goesOne_541 lf_11_129 (s_78 hst) (by decide) rfl (p_78_58 hst) ?_
    refine ev_iload 546 rfl dX11_goesOne_544 rfl ?_
    refine ev_iload 548 rfl dX11_goesOne_546 rfl ?_
    obtain ⟨b36, H⟩ := H
    refine ev_iastore 549 rfl dX11_goesOne_548 (s_109 hst) b36.1 b36.2 ?_
    obtain ⟨h37, eh37⟩ : ∃ z : qM, z = qup h34 109 r9 ((h20 109 r6) - r33) := ⟨_, rfl⟩
    rw [← eh37]
    have H := H h37 eh37
    refine ev_aload_n 550 rfl dX11_goesOne_549 rfl rfl ?_
    refine ev_getR (ki := 59) (v := 110) 553 rfl dX11_goesOne_550 lf_11_132 (s_78 hst) (by decide) rfl (p_78_59 hst) ?_
    refine ev_iload 555 rfl dX11_goesOne_553 rfl ?_
    refine ev_iload 557 rfl dX11_goesOne_555 rfl ?_
    obtain ⟨b38, H⟩ := H
    refine ev_iastore 558 rfl dX11_goesOne_557 (s_110 hst) b38.1 b38.2 ?_
    obtain ⟨h39, eh39⟩ : ∃ z : qM, z = qup h37 110 r9 ((h20 110 r6) - r35) := ⟨_, rfl⟩
    rw [← eh39]
    have H := H h39 eh39
    exact ev_retV dX11_goesOne_558 rfl H
  · have H := H.2.2.1 cd
    refine ev_tableIn (off := 398) (tgt := 540) dX11_goesOne_142 (by omega) (by omega) (by rw [cd]; rfl) (by decide) ?_
    refine ev_aload_n 541 rfl dX11_goesOne_540 rfl rfl ?_
    refine ev_getR (ki := 58) (v := 109) 544 rfl dX11_goesOne_541 lf_11_129 (s_78 hst) (by decide) rfl (p_78_58 hst) ?_
    refine ev_iload 546 rfl dX11_goesOne_544 rfl ?_
    refine ev_iload 548 rfl dX11_goesOne_546 rfl ?_
    obtain ⟨b40, H⟩ := H
    refine ev_iastore 549 rfl dX11_goesOne_548 (s_109 hst) b40.1 b40.2 ?_
    obtain ⟨h41, eh41⟩ : ∃ z : qM, z = qup h20 109 r9 (h20 109 r6) := ⟨_, rfl⟩
    rw [← eh41]
    have H := H h41 eh41
    refine ev_aload_n 550 rfl dX11_goesOne_549 rfl rfl ?_
    refine ev_getR (ki := 59) (v := 110) 553 rfl dX11_goesOne_550 lf_11_132 (s_78 hst) (by decide) rfl (p_78_59 hst) ?_
    refine ev_iload 555 rfl dX11_goesOne_553 rfl ?_
    refine ev_iload 557 rfl dX11_goesOne_555 rfl ?_
    obtain ⟨b42, H⟩ := H
    refine ev_iastore 558 rfl dX11_goesOne_557 (s_110 hst) b42.1 b42.2 ?_
    obtain ⟨h43, eh43⟩ : ∃ z : qM, z = qup h41 110 r9 (h20 110 r6) := ⟨_, rfl⟩
    rw [← eh43]
    have H := H h43 eh43
    exact ev_retV dX11_goesOne_558 rfl H
  · have H := H.2.2.2.1 cd
    refine ev_tableIn (off := 398) (tgt := 540) dX11_goesOne_142 (by omega) (by omega) (by rw [cd]; rfl) (by decide) ?_
    refine ev_aload_n 541 rfl dX11_goesOne_540 rfl rfl ?_
    refine ev_getR (ki := 58) (v := 109) 544 rfl dX11_goesOne_541 lf_11_129 (s_78 hst) (by decide) rfl (p_78_58 hst) ?_
    refine ev_iload 546 rfl dX11_goesOne_544 rfl ?_
    refine ev_iload 548 rfl dX11_goesOne_546 rfl ?_
    obtain ⟨b44, H⟩ := H
    refine ev_iastore 549 rfl dX11_goesOne_548 (s_109 hst) b44.1 b44.2 ?_
    obtain ⟨h45, eh45⟩ : ∃ z : qM, z = qup h20 109 r9 (h20 109 r6) := ⟨_, rfl⟩
    rw [← eh45]
    have H := H h45 eh45
    refine ev_aload_n 550 rfl dX11_goesOne_549 rfl rfl ?_
    refine ev_getR (ki := 59) (v := 110) 553 rfl dX11_goesOne_550 lf_11_132 (s_78 hst) (by decide) rfl (p_78_59 hst) ?_
    refine ev_iload 555 rfl dX11_goesOne_553 rfl ?_
    refine ev_iload 557 rfl dX11_goesOne_555 rfl ?_
    obtain ⟨b46, H⟩ := H
    refine ev_iastore 558 rfl dX11_goesOne_557 (s_110 hst) b46.1 b46.2 ?_
    obtain ⟨h47, eh47⟩ : ∃ z : qM, z = qup h45 110 r9 (h20 110 r6) := ⟨_, rfl⟩
    rw [← eh47]
    have H := H h47 eh47
    exact ev_retV dX11_goesOne_558 rfl H
  · have H := H.2.2.2.2.1 cd
    refine ev_tableIn (off := 100) (tgt := 242) dX11_goesOne_142 (by omega) (by omega) (by rw [cd]; rfl) (by decide) ?_
    refine ev_iload_n 243 rfl dX11_goesOne_242 rfl rfl ?_
    refine ev_if_ne (tgt := 269) 246 rfl dX11_goesOne_243 (by decide) (fun cd => ?_) (fun cd => ?_)
    · have H := H.1 cd
      refine ev_aload_n 270 rfl dX11_goesOne_269 rfl rfl ?_
      refine ev_getI (ki := 63) 273 rfl dX11_goesOne_270 lf_11_403 (Or.inl rfl) (s_78 hst) (by decide) rfl ?_
      refine ev_iload_n 274 rfl dX11_goesOne_273 rfl rfl ?_
      obtain ⟨sd, H⟩ := H
      refine ev_iadd 275 rfl dX11_goesOne_274 sd ?_
      refine ev_iconst 276 rfl dX11_goesOne_275 (by decide) ?_
      obtain ⟨sd, H⟩ := H
      refine ev_isub 277 rfl dX11_goesOne_276 sd ?_
      refine ev_aload_n 278 rfl dX11_goesOne_277 rfl rfl ?_
      refine ev_getR (ki := 61) (v := 112) 281 rfl dX11_goesOne_278 lf_11_138 (s_78 hst) (by decide) rfl (p_78_61 hst) ?_
      refine ev_iload_n 282 rfl dX11_goesOne_281 rfl rfl ?_
      refine ev_iconst 283 rfl dX11_goesOne_282 (by decide) ?_
      obtain ⟨sd, H⟩ := H
      refine ev_isub 284 rfl dX11_goesOne_283 sd ?_
      obtain ⟨b48, H⟩ := H
      refine ev_iaload 285 rfl dX11_goesOne_284 (s_112 hst) b48.1 b48.2 ?_
      refine ev_cSI (As := [(0, (((h20 78 63) + v3) - 1)), (0, (h20 112 (v2 - 1)))]) (rest := []) 288 rfl dX11_goesOne_285 lm_11_405 mm_X11_cell rfl rfl (Nat.le_of_ble_eq_true rfl) (Nat.le_of_ble_eq_true rfl) (Nat.le_refl _) H ?_
      intro r50 h49 H
      refine ev_istore (L1 := [(2, 78), (0, v1), (0, v2), (0, v3), (0, v4), (0, r3), (0, r6), (0, r9), (0, r11), (0, (h10 111 r6)), (0, x15), (0, x18), (0, (h20 109 r6)), (0, (h20 110 r6)), (0, r50)]) 290 rfl dX11_goesOne_288 (Nat.le_of_ble_eq_true rfl) rfl ?_
      refine ev_aload_n 291 rfl dX11_goesOne_290 rfl rfl ?_
      refine ev_getR (ki := 58) (v := 109) 294 rfl dX11_goesOne_291 lf_11_129 (s_78 hst) (by decide) rfl (p_78_58 hst) ?_
      refine ev_iload 296 rfl dX11_goesOne_294 rfl ?_
      obtain ⟨b51, H⟩ := H
      refine ev_iaload 297 rfl dX11_goesOne_296 (s_109 hst) b51.1 b51.2 ?_
      refine ev_istore (L1 := [(2, 78), (0, v1), (0, v2), (0, v3), (0, v4), (0, r3), (0, r6), (0, r9), (0, r11), (0, (h10 111 r6)), (0, x15), (0, x18), (0, (h49 109 r50)), (0, (h20 110 r6)), (0, r50)]) 299 rfl dX11_goesOne_297 (Nat.le_of_ble_eq_true rfl) rfl ?_
      refine ev_aload_n 300 rfl dX11_goesOne_299 rfl rfl ?_
      refine ev_getR (ki := 59) (v := 110) 303 rfl dX11_goesOne_300 lf_11_132 (s_78 hst) (by decide) rfl (p_78_59 hst) ?_
      refine ev_iload 305 rfl dX11_goesOne_303 rfl ?_
      obtain ⟨b52, H⟩ := H
      refine ev_iaload 306 rfl dX11_goesOne_305 (s_110 hst) b52.1 b52.2 ?_
      refine ev_istore (L1 := [(2, 78), (0, v1), (0, v2), (0, v3), (0, v4), (0, r3), (0, r6), (0, r9), (0, r11), (0, (h10 111 r6)), (0, x15), (0, x18), (0, (h49 109 r50)), (0, (h49 110 r50)), (0, r50)]) 308 rfl dX11_goesOne_306 (Nat.le_of_ble_eq_true rfl) rfl ?_
      refine ev_aload_n 309 rfl dX11_goesOne_308 rfl rfl ?_
      refine ev_getR (ki := 60) (v := 111) 312 rfl dX11_goesOne_309 lf_11_135 (s_78 hst) (by decide) rfl (p_78_60 hst) ?_
      refine ev_iload 314 rfl dX11_goesOne_312 rfl ?_
      refine ev_aload_n 315 rfl dX11_goesOne_314 rfl rfl ?_
      refine ev_getR (ki := 60) (v := 111) 318 rfl dX11_goesOne_315 lf_11_135 (s_78 hst) (by decide) rfl (p_78_60 hst) ?_
      refine ev_iload 320 rfl dX11_goesOne_318 rfl ?_
      obtain ⟨b53, H⟩ := H
      refine ev_iaload 321 rfl dX11_goesOne_320 (s_111 hst) b53.1 b53.2 ?_
      obtain ⟨b54, H⟩ := H
      refine ev_iastore 322 rfl dX11_goesOne_321 (s_111 hst) b54.1 b54.2 ?_
      obtain ⟨h55, eh55⟩ : ∃ z : qM, z = qup h49 111 r9 (h49 111 r50) := ⟨_, rfl⟩
      rw [← eh55]
      have H := H h55 eh55
      refine ev_goto (tgt := 540) dX11_goesOne_322 (by decide) ?_
      refine ev_aload_n 541 rfl dX11_goesOne_540 rfl rfl ?_
      refine ev_getR (ki := 58) (v := 109) 544 rfl dX11_goesOne_541 lf_11_129 (s_78 hst) (by decide) rfl (p_78_58 hst) ?_
      refine ev_iload 546 rfl dX11_goesOne_544 rfl ?_
      refine ev_iload 548 rfl dX11_goesOne_546 rfl ?_
      obtain ⟨b56, H⟩ := H
      refine ev_iastore 549 rfl dX11_goesOne_548 (s_109 hst) b56.1 b56.2 ?_
      obtain ⟨h57, eh57⟩ : ∃ z : qM, z = qup h55 109 r9 (h49 109 r50) := ⟨_, rfl⟩
      rw [← eh57]
      have H := H h57 eh57
      refine ev_aload_n 550 rfl dX11_goesOne_549 rfl rfl ?_
      refine ev_getR (ki := 59) (v := 110) 553 rfl dX11_goesOne_550 lf_11_132 (s_78 hst) (by decide) rfl (p_78_59 hst) ?_
      refine ev_iload 555 rfl dX11_goesOne_553 rfl ?_
      refine ev_iload 557 rfl dX11_goesOne_555 rfl ?_
      obtain ⟨b58, H⟩ := H
      refine ev_iastore 558 rfl dX11_goesOne_557 (s_110 hst) b58.1 b58.2 ?_
      obtain ⟨h59, eh59⟩ : ∃ z : qM, z = qup h57 110 r9 (h49 110 r50) := ⟨_, rfl⟩
      rw [← eh59]
      have H := H h59 eh59
      exact ev_retV dX11_goesOne_558 rfl H
    · have H := H.2 cd
      refine ev_iload 248 rfl dX11_goesOne_246 rfl ?_
      refine ev_iload 250 rfl dX11_goesOne_248 rfl ?_
      refine ev_cSI (As := [(0, (h10 111 r6))]) (rest := [(0, (h20 109 r6))]) 253 rfl dX11_goesOne_250 lm_11_418 mm_X11_eastOf rfl rfl (Nat.le_of_ble_eq_true rfl) (Nat.le_of_ble_eq_true rfl) (Nat.le_refl _) H ?_
      intro r61 h60 H
      obtain ⟨sd, H⟩ := H
      refine ev_iadd 254 rfl dX11_goesOne_253 sd ?_
      refine ev_istore (L1 := [(2, 78), (0, v1), (0, v2), (0, v3), (0, v4), (0, r3), (0, r6), (0, r9), (0, r11), (0, (h10 111 r6)), (0, x15), (0, x18), (0, ((h20 109 r6) + r61)), (0, (h20 110 r6)), (8, -1)]) 256 rfl dX11_goesOne_254 (Nat.le_of_ble_eq_true rfl) rfl ?_
      refine ev_iload 258 rfl dX11_goesOne_256 rfl ?_
      refine ev_iload 260 rfl dX11_goesOne_258 rfl ?_
      refine ev_cSI (As := [(0, (h10 111 r6))]) (rest := [(0, (h20 110 r6))]) 263 rfl dX11_goesOne_260 lm_11_421 mm_X11_northOf rfl rfl (Nat.le_of_ble_eq_true rfl) (Nat.le_of_ble_eq_true rfl) (Nat.le_refl _) H ?_
      intro r63 h62 H
      obtain ⟨sd, H⟩ := H
      refine ev_iadd 264 rfl dX11_goesOne_263 sd ?_
      refine ev_istore (L1 := [(2, 78), (0, v1), (0, v2), (0, v3), (0, v4), (0, r3), (0, r6), (0, r9), (0, r11), (0, (h10 111 r6)), (0, x15), (0, x18), (0, ((h20 109 r6) + r61)), (0, ((h20 110 r6) + r63)), (8, -1)]) 266 rfl dX11_goesOne_264 (Nat.le_of_ble_eq_true rfl) rfl ?_
      refine ev_goto (tgt := 540) dX11_goesOne_266 (by decide) ?_
      refine ev_aload_n 541 rfl dX11_goesOne_540 rfl rfl ?_
      refine ev_getR (ki := 58) (v := 109) 544 rfl dX11_goesOne_541 lf_11_129 (s_78 hst) (by decide) rfl (p_78_58 hst) ?_
      refine ev_iload 546 rfl dX11_goesOne_544 rfl ?_
      refine ev_iload 548 rfl dX11_goesOne_546 rfl ?_
      obtain ⟨b64, H⟩ := H
      refine ev_iastore 549 rfl dX11_goesOne_548 (s_109 hst) b64.1 b64.2 ?_
      obtain ⟨h65, eh65⟩ : ∃ z : qM, z = qup h62 109 r9 ((h20 109 r6) + r61) := ⟨_, rfl⟩
      rw [← eh65]
      have H := H h65 eh65
      refine ev_aload_n 550 rfl dX11_goesOne_549 rfl rfl ?_
      refine ev_getR (ki := 59) (v := 110) 553 rfl dX11_goesOne_550 lf_11_132 (s_78 hst) (by decide) rfl (p_78_59 hst) ?_
      refine ev_iload 555 rfl dX11_goesOne_553 rfl ?_
      refine ev_iload 557 rfl dX11_goesOne_555 rfl ?_
      obtain ⟨b66, H⟩ := H
      refine ev_iastore 558 rfl dX11_goesOne_557 (s_110 hst) b66.1 b66.2 ?_
      obtain ⟨h67, eh67⟩ : ∃ z : qM, z = qup h65 110 r9 ((h20 110 r6) + r63) := ⟨_, rfl⟩
      rw [← eh67]
      have H := H h67 eh67
      exact ev_retV dX11_goesOne_558 rfl H
  · have H := H.2.2.2.2.2.1 cd
    refine ev_tableIn (off := 398) (tgt := 540) dX11_goesOne_142 (by omega) (by omega) (by rw [cd]; rfl) (by decide) ?_
    refine ev_aload_n 541 rfl dX11_goesOne_540 rfl rfl ?_
    refine ev_getR (ki := 58) (v := 109) 544 rfl dX11_goesOne_541 lf_11_129 (s_78 hst) (by decide) rfl (p_78_58 hst) ?_
    refine ev_iload 546 rfl dX11_goesOne_544 rfl ?_
    refine ev_iload 548 rfl dX11_goesOne_546 rfl ?_
    obtain ⟨b68, H⟩ := H
    refine ev_iastore 549 rfl dX11_goesOne_548 (s_109 hst) b68.1 b68.2 ?_
    obtain ⟨h69, eh69⟩ : ∃ z : qM, z = qup h20 109 r9 (h20 109 r6) := ⟨_, rfl⟩
    rw [← eh69]
    have H := H h69 eh69
    refine ev_aload_n 550 rfl dX11_goesOne_549 rfl rfl ?_
    refine ev_getR (ki := 59) (v := 110) 553 rfl dX11_goesOne_550 lf_11_132 (s_78 hst) (by decide) rfl (p_78_59 hst) ?_
    refine ev_iload 555 rfl dX11_goesOne_553 rfl ?_
    refine ev_iload 557 rfl dX11_goesOne_555 rfl ?_
    obtain ⟨b70, H⟩ := H
    refine ev_iastore 558 rfl dX11_goesOne_557 (s_110 hst) b70.1 b70.2 ?_
    obtain ⟨h71, eh71⟩ : ∃ z : qM, z = qup h69 110 r9 (h20 110 r6) := ⟨_, rfl⟩
    rw [← eh71]
    have H := H h71 eh71
    exact ev_retV dX11_goesOne_558 rfl H
  · have H := H.2.2.2.2.2.2.1 cd
    refine ev_tableIn (off := 183) (tgt := 325) dX11_goesOne_142 (by omega) (by omega) (by rw [cd]; rfl) (by decide) ?_
    refine ev_aload_n 326 rfl dX11_goesOne_325 rfl rfl ?_
    refine ev_getR (ki := 58) (v := 109) 329 rfl dX11_goesOne_326 lf_11_129 (s_78 hst) (by decide) rfl (p_78_58 hst) ?_
    refine ev_iload 331 rfl dX11_goesOne_329 rfl ?_
    obtain ⟨b72, H⟩ := H
    refine ev_iaload 332 rfl dX11_goesOne_331 (s_109 hst) b72.1 b72.2 ?_
    refine ev_aload_n 333 rfl dX11_goesOne_332 rfl rfl ?_
    refine ev_getR (ki := 40) (v := 96) 336 rfl dX11_goesOne_333 lf_11_81 (s_78 hst) (by decide) rfl (p_78_40 hst) ?_
    refine ev_iload_n 337 rfl dX11_goesOne_336 rfl rfl ?_
    obtain ⟨b73, H⟩ := H
    refine ev_iaload 338 rfl dX11_goesOne_337 (s_96 hst) b73.1 b73.2 ?_
    refine ev_iload 340 rfl dX11_goesOne_338 rfl ?_
    obtain ⟨sd, H⟩ := H
    refine ev_imul 341 rfl dX11_goesOne_340 sd ?_
    refine ev_iload 343 rfl dX11_goesOne_341 rfl ?_
    obtain ⟨sd, H⟩ := H
    refine ev_isub 344 rfl dX11_goesOne_343 sd ?_
    refine ev_iload_n 345 rfl dX11_goesOne_344 rfl rfl ?_
    refine ev_iload 347 rfl dX11_goesOne_345 rfl ?_
    refine ev_cSI (As := [(0, (h20 109 r3)), (0, (((h20 96 v1) * x18) - x15)), (0, v3), (0, v4)]) (rest := []) 350 rfl dX11_goesOne_347 lm_11_424 mm_X11_between rfl rfl (Nat.le_of_ble_eq_true rfl) (Nat.le_of_ble_eq_true rfl) (Nat.le_refl _) H ?_
    intro r75 h74 H
    refine ev_istore (L1 := [(2, 78), (0, v1), (0, v2), (0, v3), (0, v4), (0, r3), (0, r6), (0, r9), (0, r11), (0, (h10 111 r6)), (0, x15), (0, x18), (0, r75), (0, (h20 110 r6)), (8, -1)]) 352 rfl dX11_goesOne_350 (Nat.le_of_ble_eq_true rfl) rfl ?_
    refine ev_aload_n 353 rfl dX11_goesOne_352 rfl rfl ?_
    refine ev_getR (ki := 59) (v := 110) 356 rfl dX11_goesOne_353 lf_11_132 (s_78 hst) (by decide) rfl (p_78_59 hst) ?_
    refine ev_iload 358 rfl dX11_goesOne_356 rfl ?_
    obtain ⟨b76, H⟩ := H
    refine ev_iaload 359 rfl dX11_goesOne_358 (s_110 hst) b76.1 b76.2 ?_
    refine ev_aload_n 360 rfl dX11_goesOne_359 rfl rfl ?_
    refine ev_getR (ki := 40) (v := 96) 363 rfl dX11_goesOne_360 lf_11_81 (s_78 hst) (by decide) rfl (p_78_40 hst) ?_
    refine ev_iload_n 364 rfl dX11_goesOne_363 rfl rfl ?_
    obtain ⟨b77, H⟩ := H
    refine ev_iaload 365 rfl dX11_goesOne_364 (s_96 hst) b77.1 b77.2 ?_
    obtain ⟨sd, H⟩ := H
    refine ev_ineg 366 rfl dX11_goesOne_365 sd ?_
    refine ev_iload 368 rfl dX11_goesOne_366 rfl ?_
    obtain ⟨sd, H⟩ := H
    refine ev_imul 369 rfl dX11_goesOne_368 sd ?_
    refine ev_iload 371 rfl dX11_goesOne_369 rfl ?_
    obtain ⟨sd, H⟩ := H
    refine ev_isub 372 rfl dX11_goesOne_371 sd ?_
    refine ev_iload_n 373 rfl dX11_goesOne_372 rfl rfl ?_
    refine ev_iload 375 rfl dX11_goesOne_373 rfl ?_
    refine ev_cSI (As := [(0, (h74 110 r3)), (0, (((-(h74 96 v1)) * x15) - x18)), (0, v3), (0, v4)]) (rest := []) 378 rfl dX11_goesOne_375 lm_11_424 mm_X11_between rfl rfl (Nat.le_of_ble_eq_true rfl) (Nat.le_of_ble_eq_true rfl) (Nat.le_refl _) H ?_
    intro r79 h78 H
    refine ev_istore (L1 := [(2, 78), (0, v1), (0, v2), (0, v3), (0, v4), (0, r3), (0, r6), (0, r9), (0, r11), (0, (h10 111 r6)), (0, x15), (0, x18), (0, r75), (0, r79), (8, -1)]) 380 rfl dX11_goesOne_378 (Nat.le_of_ble_eq_true rfl) rfl ?_
    refine ev_goto (tgt := 540) dX11_goesOne_380 (by decide) ?_
    refine ev_aload_n 541 rfl dX11_goesOne_540 rfl rfl ?_
    refine ev_getR (ki := 58) (v := 109) 544 rfl dX11_goesOne_541 lf_11_129 (s_78 hst) (by decide) rfl (p_78_58 hst) ?_
    refine ev_iload 546 rfl dX11_goesOne_544 rfl ?_
    refine ev_iload 548 rfl dX11_goesOne_546 rfl ?_
    obtain ⟨b80, H⟩ := H
    refine ev_iastore 549 rfl dX11_goesOne_548 (s_109 hst) b80.1 b80.2 ?_
    obtain ⟨h81, eh81⟩ : ∃ z : qM, z = qup h78 109 r9 r75 := ⟨_, rfl⟩
    rw [← eh81]
    have H := H h81 eh81
    refine ev_aload_n 550 rfl dX11_goesOne_549 rfl rfl ?_
    refine ev_getR (ki := 59) (v := 110) 553 rfl dX11_goesOne_550 lf_11_132 (s_78 hst) (by decide) rfl (p_78_59 hst) ?_
    refine ev_iload 555 rfl dX11_goesOne_553 rfl ?_
    refine ev_iload 557 rfl dX11_goesOne_555 rfl ?_
    obtain ⟨b82, H⟩ := H
    refine ev_iastore 558 rfl dX11_goesOne_557 (s_110 hst) b82.1 b82.2 ?_
    obtain ⟨h83, eh83⟩ : ∃ z : qM, z = qup h81 110 r9 r79 := ⟨_, rfl⟩
    rw [← eh83]
    have H := H h83 eh83
    exact ev_retV dX11_goesOne_558 rfl H
  · have H := H.2.2.2.2.2.2.2.1 cd
    refine ev_tableIn (off := 241) (tgt := 383) dX11_goesOne_142 (by omega) (by omega) (by rw [cd]; rfl) (by decide) ?_
    refine ev_aload_n 384 rfl dX11_goesOne_383 rfl rfl ?_
    refine ev_getR (ki := 58) (v := 109) 387 rfl dX11_goesOne_384 lf_11_129 (s_78 hst) (by decide) rfl (p_78_58 hst) ?_
    refine ev_iload 389 rfl dX11_goesOne_387 rfl ?_
    obtain ⟨b84, H⟩ := H
    refine ev_iaload 390 rfl dX11_goesOne_389 (s_109 hst) b84.1 b84.2 ?_
    refine ev_aload_n 391 rfl dX11_goesOne_390 rfl rfl ?_
    refine ev_getR (ki := 40) (v := 96) 394 rfl dX11_goesOne_391 lf_11_81 (s_78 hst) (by decide) rfl (p_78_40 hst) ?_
    refine ev_iload_n 395 rfl dX11_goesOne_394 rfl rfl ?_
    obtain ⟨b85, H⟩ := H
    refine ev_iaload 396 rfl dX11_goesOne_395 (s_96 hst) b85.1 b85.2 ?_
    refine ev_iconst 397 rfl dX11_goesOne_396 (by decide) ?_
    obtain ⟨sd, H⟩ := H
    refine ev_isub 398 rfl dX11_goesOne_397 sd ?_
    refine ev_iload 400 rfl dX11_goesOne_398 rfl ?_
    obtain ⟨sd, H⟩ := H
    refine ev_imul 401 rfl dX11_goesOne_400 sd ?_
    refine ev_iload_n 402 rfl dX11_goesOne_401 rfl rfl ?_
    refine ev_iload 404 rfl dX11_goesOne_402 rfl ?_
    refine ev_cSI (As := [(0, (h20 109 r3)), (0, (((h20 96 v1) - 1) * x15)), (0, v3), (0, v4)]) (rest := []) 407 rfl dX11_goesOne_404 lm_11_424 mm_X11_between rfl rfl (Nat.le_of_ble_eq_true rfl) (Nat.le_of_ble_eq_true rfl) (Nat.le_refl _) H ?_
    intro r87 h86 H
    refine ev_istore (L1 := [(2, 78), (0, v1), (0, v2), (0, v3), (0, v4), (0, r3), (0, r6), (0, r9), (0, r11), (0, (h10 111 r6)), (0, x15), (0, x18), (0, r87), (0, (h20 110 r6)), (8, -1)]) 409 rfl dX11_goesOne_407 (Nat.le_of_ble_eq_true rfl) rfl ?_
    refine ev_aload_n 410 rfl dX11_goesOne_409 rfl rfl ?_
    refine ev_getR (ki := 59) (v := 110) 413 rfl dX11_goesOne_410 lf_11_132 (s_78 hst) (by decide) rfl (p_78_59 hst) ?_
    refine ev_iload 415 rfl dX11_goesOne_413 rfl ?_
    obtain ⟨b88, H⟩ := H
    refine ev_iaload 416 rfl dX11_goesOne_415 (s_110 hst) b88.1 b88.2 ?_
    refine ev_aload_n 417 rfl dX11_goesOne_416 rfl rfl ?_
    refine ev_getR (ki := 40) (v := 96) 420 rfl dX11_goesOne_417 lf_11_81 (s_78 hst) (by decide) rfl (p_78_40 hst) ?_
    refine ev_iload_n 421 rfl dX11_goesOne_420 rfl rfl ?_
    obtain ⟨b89, H⟩ := H
    refine ev_iaload 422 rfl dX11_goesOne_421 (s_96 hst) b89.1 b89.2 ?_
    refine ev_iconst 423 rfl dX11_goesOne_422 (by decide) ?_
    obtain ⟨sd, H⟩ := H
    refine ev_isub 424 rfl dX11_goesOne_423 sd ?_
    refine ev_iload 426 rfl dX11_goesOne_424 rfl ?_
    obtain ⟨sd, H⟩ := H
    refine ev_imul 427 rfl dX11_goesOne_426 sd ?_
    refine ev_iload_n 428 rfl dX11_goesOne_427 rfl rfl ?_
    refine ev_iload 430 rfl dX11_goesOne_428 rfl ?_
    refine ev_cSI (As := [(0, (h86 110 r3)), (0, (((h86 96 v1) - 1) * x18)), (0, v3), (0, v4)]) (rest := []) 433 rfl dX11_goesOne_430 lm_11_424 mm_X11_between rfl rfl (Nat.le_of_ble_eq_true rfl) (Nat.le_of_ble_eq_true rfl) (Nat.le_refl _) H ?_
    intro r91 h90 H
    refine ev_istore (L1 := [(2, 78), (0, v1), (0, v2), (0, v3), (0, v4), (0, r3), (0, r6), (0, r9), (0, r11), (0, (h10 111 r6)), (0, x15), (0, x18), (0, r87), (0, r91), (8, -1)]) 435 rfl dX11_goesOne_433 (Nat.le_of_ble_eq_true rfl) rfl ?_
    refine ev_goto (tgt := 540) dX11_goesOne_435 (by decide) ?_
    refine ev_aload_n 541 rfl dX11_goesOne_540 rfl rfl ?_
    refine ev_getR (ki := 58) (v := 109) 544 rfl dX11_goesOne_541 lf_11_129 (s_78 hst) (by decide) rfl (p_78_58 hst) ?_
    refine ev_iload 546 rfl dX11_goesOne_544 rfl ?_
    refine ev_iload 548 rfl dX11_goesOne_546 rfl ?_
    obtain ⟨b92, H⟩ := H
    refine ev_iastore 549 rfl dX11_goesOne_548 (s_109 hst) b92.1 b92.2 ?_
    obtain ⟨h93, eh93⟩ : ∃ z : qM, z = qup h90 109 r9 r87 := ⟨_, rfl⟩
    rw [← eh93]
    have H := H h93 eh93
    refine ev_aload_n 550 rfl dX11_goesOne_549 rfl rfl ?_
    refine ev_getR (ki := 59) (v := 110) 553 rfl dX11_goesOne_550 lf_11_132 (s_78 hst) (by decide) rfl (p_78_59 hst) ?_
    refine ev_iload 555 rfl dX11_goesOne_553 rfl ?_
    refine ev_iload 557 rfl dX11_goesOne_555 rfl ?_
    obtain ⟨b94, H⟩ := H
    refine ev_iastore 558 rfl dX11_goesOne_557 (s_110 hst) b94.1 b94.2 ?_
    obtain ⟨h95, eh95⟩ : ∃ z : qM, z = qup h93 110 r9 r91 := ⟨_, rfl⟩
    rw [← eh95]
    have H := H h95 eh95
    exact ev_retV dX11_goesOne_558 rfl H
  · have H := H.2.2.2.2.2.2.2.2.1 cd
    refine ev_tableIn (off := 296) (tgt := 438) dX11_goesOne_142 (by omega) (by omega) (by rw [cd]; rfl) (by decide) ?_
    refine ev_aload_n 439 rfl dX11_goesOne_438 rfl rfl ?_
    refine ev_getR (ki := 58) (v := 109) 442 rfl dX11_goesOne_439 lf_11_129 (s_78 hst) (by decide) rfl (p_78_58 hst) ?_
    refine ev_iload 444 rfl dX11_goesOne_442 rfl ?_
    obtain ⟨b96, H⟩ := H
    refine ev_iaload 445 rfl dX11_goesOne_444 (s_109 hst) b96.1 b96.2 ?_
    refine ev_iload 447 rfl dX11_goesOne_445 rfl ?_
    refine ev_aload_n 448 rfl dX11_goesOne_447 rfl rfl ?_
    refine ev_getR (ki := 40) (v := 96) 451 rfl dX11_goesOne_448 lf_11_81 (s_78 hst) (by decide) rfl (p_78_40 hst) ?_
    refine ev_iload_n 452 rfl dX11_goesOne_451 rfl rfl ?_
    obtain ⟨b97, H⟩ := H
    refine ev_iaload 453 rfl dX11_goesOne_452 (s_96 hst) b97.1 b97.2 ?_
    obtain ⟨sd, H⟩ := H
    refine ev_idiv 454 rfl dX11_goesOne_453 sd.1 sd.2 ?_
    refine ev_iload 456 rfl dX11_goesOne_454 rfl ?_
    obtain ⟨sd, H⟩ := H
    refine ev_isub 457 rfl dX11_goesOne_456 sd ?_
    refine ev_iload_n 458 rfl dX11_goesOne_457 rfl rfl ?_
    refine ev_iload 460 rfl dX11_goesOne_458 rfl ?_
    refine ev_cSI (As := [(0, (h20 109 r3)), (0, ((x15.tdiv (h20 96 v1)) - x15)), (0, v3), (0, v4)]) (rest := []) 463 rfl dX11_goesOne_460 lm_11_424 mm_X11_between rfl rfl (Nat.le_of_ble_eq_true rfl) (Nat.le_of_ble_eq_true rfl) (Nat.le_refl _) H ?_
    intro r99 h98 H
    refine ev_istore (L1 := [(2, 78), (0, v1), (0, v2), (0, v3), (0, v4), (0, r3), (0, r6), (0, r9), (0, r11), (0, (h10 111 r6)), (0, x15), (0, x18), (0, r99), (0, (h20 110 r6)), (8, -1)]) 465 rfl dX11_goesOne_463 (Nat.le_of_ble_eq_true rfl) rfl ?_
    refine ev_aload_n 466 rfl dX11_goesOne_465 rfl rfl ?_
    refine ev_getR (ki := 59) (v := 110) 469 rfl dX11_goesOne_466 lf_11_132 (s_78 hst) (by decide) rfl (p_78_59 hst) ?_
    refine ev_iload 471 rfl dX11_goesOne_469 rfl ?_
    obtain ⟨b100, H⟩ := H
    refine ev_iaload 472 rfl dX11_goesOne_471 (s_110 hst) b100.1 b100.2 ?_
    refine ev_iload 474 rfl dX11_goesOne_472 rfl ?_
    refine ev_aload_n 475 rfl dX11_goesOne_474 rfl rfl ?_
    refine ev_getR (ki := 40) (v := 96) 478 rfl dX11_goesOne_475 lf_11_81 (s_78 hst) (by decide) rfl (p_78_40 hst) ?_
    refine ev_iload_n 479 rfl dX11_goesOne_478 rfl rfl ?_
    obtain ⟨b101, H⟩ := H
    refine ev_iaload 480 rfl dX11_goesOne_479 (s_96 hst) b101.1 b101.2 ?_
    obtain ⟨sd, H⟩ := H
    refine ev_idiv 481 rfl dX11_goesOne_480 sd.1 sd.2 ?_
    refine ev_iload 483 rfl dX11_goesOne_481 rfl ?_
    obtain ⟨sd, H⟩ := H
    refine ev_isub 484 rfl dX11_goesOne_483 sd ?_
    refine ev_iload_n 485 rfl dX11_goesOne_484 rfl rfl ?_
    refine ev_iload 487 rfl dX11_goesOne_485 rfl ?_
    refine ev_cSI (As := [(0, (h98 110 r3)), (0, ((x18.tdiv (h98 96 v1)) - x18)), (0, v3), (0, v4)]) (rest := []) 490 rfl dX11_goesOne_487 lm_11_424 mm_X11_between rfl rfl (Nat.le_of_ble_eq_true rfl) (Nat.le_of_ble_eq_true rfl) (Nat.le_refl _) H ?_
    intro r103 h102 H
    refine ev_istore (L1 := [(2, 78), (0, v1), (0, v2), (0, v3), (0, v4), (0, r3), (0, r6), (0, r9), (0, r11), (0, (h10 111 r6)), (0, x15), (0, x18), (0, r99), (0, r103), (8, -1)]) 492 rfl dX11_goesOne_490 (Nat.le_of_ble_eq_true rfl) rfl ?_
    refine ev_goto (tgt := 540) dX11_goesOne_492 (by decide) ?_
    refine ev_aload_n 541 rfl dX11_goesOne_540 rfl rfl ?_
    refine ev_getR (ki := 58) (v := 109) 544 rfl dX11_goesOne_541 lf_11_129 (s_78 hst) (by decide) rfl (p_78_58 hst) ?_
    refine ev_iload 546 rfl dX11_goesOne_544 rfl ?_
    refine ev_iload 548 rfl dX11_goesOne_546 rfl ?_
    obtain ⟨b104, H⟩ := H
    refine ev_iastore 549 rfl dX11_goesOne_548 (s_109 hst) b104.1 b104.2 ?_
    obtain ⟨h105, eh105⟩ : ∃ z : qM, z = qup h102 109 r9 r99 := ⟨_, rfl⟩
    rw [← eh105]
    have H := H h105 eh105
    refine ev_aload_n 550 rfl dX11_goesOne_549 rfl rfl ?_
    refine ev_getR (ki := 59) (v := 110) 553 rfl dX11_goesOne_550 lf_11_132 (s_78 hst) (by decide) rfl (p_78_59 hst) ?_
    refine ev_iload 555 rfl dX11_goesOne_553 rfl ?_
    refine ev_iload 557 rfl dX11_goesOne_555 rfl ?_
    obtain ⟨b106, H⟩ := H
    refine ev_iastore 558 rfl dX11_goesOne_557 (s_110 hst) b106.1 b106.2 ?_
    obtain ⟨h107, eh107⟩ : ∃ z : qM, z = qup h105 110 r9 r103 := ⟨_, rfl⟩
    rw [← eh107]
    have H := H h107 eh107
    exact ev_retV dX11_goesOne_558 rfl H
  · have H := H.2.2.2.2.2.2.2.2.2.1 cd
    refine ev_tableIn (off := 353) (tgt := 495) dX11_goesOne_142 (by omega) (by omega) (by rw [cd]; rfl) (by decide) ?_
    refine ev_aload_n 496 rfl dX11_goesOne_495 rfl rfl ?_
    refine ev_getR (ki := 58) (v := 109) 499 rfl dX11_goesOne_496 lf_11_129 (s_78 hst) (by decide) rfl (p_78_58 hst) ?_
    refine ev_iload 501 rfl dX11_goesOne_499 rfl ?_
    obtain ⟨b108, H⟩ := H
    refine ev_iaload 502 rfl dX11_goesOne_501 (s_109 hst) b108.1 b108.2 ?_
    refine ev_aload_n 503 rfl dX11_goesOne_502 rfl rfl ?_
    refine ev_getR (ki := 40) (v := 96) 506 rfl dX11_goesOne_503 lf_11_81 (s_78 hst) (by decide) rfl (p_78_40 hst) ?_
    refine ev_iload_n 507 rfl dX11_goesOne_506 rfl rfl ?_
    obtain ⟨b109, H⟩ := H
    refine ev_iaload 508 rfl dX11_goesOne_507 (s_96 hst) b109.1 b109.2 ?_
    refine ev_iload_n 509 rfl dX11_goesOne_508 rfl rfl ?_
    refine ev_iload 511 rfl dX11_goesOne_509 rfl ?_
    refine ev_cSI (As := [(0, (h20 109 r3)), (0, (h20 96 v1)), (0, v3), (0, v4)]) (rest := []) 514 rfl dX11_goesOne_511 lm_11_424 mm_X11_between rfl rfl (Nat.le_of_ble_eq_true rfl) (Nat.le_of_ble_eq_true rfl) (Nat.le_refl _) H ?_
    intro r111 h110 H
    refine ev_istore (L1 := [(2, 78), (0, v1), (0, v2), (0, v3), (0, v4), (0, r3), (0, r6), (0, r9), (0, r11), (0, (h10 111 r6)), (0, x15), (0, x18), (0, r111), (0, (h20 110 r6)), (8, -1)]) 516 rfl dX11_goesOne_514 (Nat.le_of_ble_eq_true rfl) rfl ?_
    refine ev_aload_n 517 rfl dX11_goesOne_516 rfl rfl ?_
    refine ev_getR (ki := 59) (v := 110) 520 rfl dX11_goesOne_517 lf_11_132 (s_78 hst) (by decide) rfl (p_78_59 hst) ?_
    refine ev_iload 522 rfl dX11_goesOne_520 rfl ?_
    obtain ⟨b112, H⟩ := H
    refine ev_iaload 523 rfl dX11_goesOne_522 (s_110 hst) b112.1 b112.2 ?_
    refine ev_aload_n 524 rfl dX11_goesOne_523 rfl rfl ?_
    refine ev_getR (ki := 41) (v := 97) 527 rfl dX11_goesOne_524 lf_11_84 (s_78 hst) (by decide) rfl (p_78_41 hst) ?_
    refine ev_iload_n 528 rfl dX11_goesOne_527 rfl rfl ?_
    obtain ⟨b113, H⟩ := H
    refine ev_iaload 529 rfl dX11_goesOne_528 (s_97 hst) b113.1 b113.2 ?_
    refine ev_iload_n 530 rfl dX11_goesOne_529 rfl rfl ?_
    refine ev_iload 532 rfl dX11_goesOne_530 rfl ?_
    refine ev_cSI (As := [(0, (h110 110 r3)), (0, (h110 97 v1)), (0, v3), (0, v4)]) (rest := []) 535 rfl dX11_goesOne_532 lm_11_424 mm_X11_between rfl rfl (Nat.le_of_ble_eq_true rfl) (Nat.le_of_ble_eq_true rfl) (Nat.le_refl _) H ?_
    intro r115 h114 H
    refine ev_istore (L1 := [(2, 78), (0, v1), (0, v2), (0, v3), (0, v4), (0, r3), (0, r6), (0, r9), (0, r11), (0, (h10 111 r6)), (0, x15), (0, x18), (0, r111), (0, r115), (8, -1)]) 537 rfl dX11_goesOne_535 (Nat.le_of_ble_eq_true rfl) rfl ?_
    refine ev_goto (tgt := 540) dX11_goesOne_537 (by decide) ?_
    refine ev_aload_n 541 rfl dX11_goesOne_540 rfl rfl ?_
    refine ev_getR (ki := 58) (v := 109) 544 rfl dX11_goesOne_541 lf_11_129 (s_78 hst) (by decide) rfl (p_78_58 hst) ?_
    refine ev_iload 546 rfl dX11_goesOne_544 rfl ?_
    refine ev_iload 548 rfl dX11_goesOne_546 rfl ?_
    obtain ⟨b116, H⟩ := H
    refine ev_iastore 549 rfl dX11_goesOne_548 (s_109 hst) b116.1 b116.2 ?_
    obtain ⟨h117, eh117⟩ : ∃ z : qM, z = qup h114 109 r9 r111 := ⟨_, rfl⟩
    rw [← eh117]
    have H := H h117 eh117
    refine ev_aload_n 550 rfl dX11_goesOne_549 rfl rfl ?_
    refine ev_getR (ki := 59) (v := 110) 553 rfl dX11_goesOne_550 lf_11_132 (s_78 hst) (by decide) rfl (p_78_59 hst) ?_
    refine ev_iload 555 rfl dX11_goesOne_553 rfl ?_
    refine ev_iload 557 rfl dX11_goesOne_555 rfl ?_
    obtain ⟨b118, H⟩ := H
    refine ev_iastore 558 rfl dX11_goesOne_557 (s_110 hst) b118.1 b118.2 ?_
    obtain ⟨h119, eh119⟩ : ∃ z : qM, z = qup h117 110 r9 r115 := ⟨_, rfl⟩
    rw [← eh119]
    have H := H h119 eh119
    exact ev_retV dX11_goesOne_558 rfl H
  · have H := H.2.2.2.2.2.2.2.2.2.2 cd
    refine ev_tableOut (tgt := 540) dX11_goesOne_142 cd (by decide) ?_
    refine ev_aload_n 541 rfl dX11_goesOne_540 rfl rfl ?_
    refine ev_getR (ki := 58) (v := 109) 544 rfl dX11_goesOne_541 lf_11_129 (s_78 hst) (by decide) rfl (p_78_58 hst) ?_
    refine ev_iload 546 rfl dX11_goesOne_544 rfl ?_
    refine ev_iload 548 rfl dX11_goesOne_546 rfl ?_
    obtain ⟨b120, H⟩ := H
    refine ev_iastore 549 rfl dX11_goesOne_548 (s_109 hst) b120.1 b120.2 ?_
    obtain ⟨h121, eh121⟩ : ∃ z : qM, z = qup h20 109 r9 (h20 109 r6) := ⟨_, rfl⟩
    rw [← eh121]
    have H := H h121 eh121
    refine ev_aload_n 550 rfl dX11_goesOne_549 rfl rfl ?_
    refine ev_getR (ki := 59) (v := 110) 553 rfl dX11_goesOne_550 lf_11_132 (s_78 hst) (by decide) rfl (p_78_59 hst) ?_
    refine ev_iload 555 rfl dX11_goesOne_553 rfl ?_
    refine ev_iload 557 rfl dX11_goesOne_555 rfl ?_
    obtain ⟨b122, H⟩ := H
    refine ev_iastore 558 rfl dX11_goesOne_557 (s_110 hst) b122.1 b122.2 ?_
    obtain ⟨h123, eh123⟩ : ∃ z : qM, z = qup h121 110 r9 (h20 110 r6) := ⟨_, rfl⟩
    rw [← eh123]
    have H := H h123 eh123
    exact ev_retV dX11_goesOne_558 rfl H

set_option maxRecDepth 20000 in
theorem b_X11_stays {X : qX} {d : Nat} {sh : qS} {pt h : qM} {K : qM → Prop} {v1 v2 : Int} (hst : St sh pt)
    (H : (qI (v2 + 1)) ∧ EvV X (d + 1) mX11_stays 4 [(2, 78), (0, v1), (0, v2), (0, (v2 + 1))] [] sh pt h K) :
    RunV X (d + 1) mX11_stays [(2, 78), (0, v1), (0, v2)] sh pt h K := by
  show Ev X (d + 1) 0 0 mX11_stays 0 [(2, 78), (0, v1), (0, v2), (8, -1)] [] (sh, pt, h) (qRV sh pt K)
  refine ev_iload_n 1 rfl dX11_stays_0 rfl rfl ?_
  refine ev_iconst 2 rfl dX11_stays_1 (by decide) ?_
  obtain ⟨sd, H⟩ := H
  refine ev_iadd 3 rfl dX11_stays_2 sd ?_
  refine ev_istore_n (L1 := [(2, 78), (0, v1), (0, v2), (0, (v2 + 1))]) 4 rfl dX11_stays_3 rfl (Nat.le_of_ble_eq_true rfl) rfl ?_
  exact H

set_option maxRecDepth 20000 in
theorem b_X11_stays_4 {X : qX} {d : Nat} {sh : qS} {pt h : qM} {K : qM → Prop} {v1 v2 v3 : Int} (hst : St sh pt)
    (H : ((150 < v3 → K h) ∧ (v3 ≤ 150 → RunI X d mX11_cell [(0, v3), (0, v1)] sh pt h (fun r2 h1 => RunI X d mX11_cell [(0, v2), (0, v1)] sh pt h1 (fun r4 h3 => (0 ≤ r4 ∧ r4 < 3020) ∧ (0 ≤ r2 ∧ r2 < 3020) ∧ ∀ h7 : qM, h7 = qup h3 109 r2 (h3 109 r4) → RunI X d mX11_cell [(0, v3), (0, v1)] sh pt h7 (fun r9 h8 => RunI X d mX11_cell [(0, v2), (0, v1)] sh pt h8 (fun r11 h10 => (0 ≤ r11 ∧ r11 < 3020) ∧ (0 ≤ r9 ∧ r9 < 3020) ∧ ∀ h14 : qM, h14 = qup h10 110 r9 (h10 110 r11) → RunI X d mX11_cell [(0, v3), (0, v1)] sh pt h14 (fun r16 h15 => RunI X d mX11_cell [(0, v2), (0, v1)] sh pt h15 (fun r18 h17 => (0 ≤ r18 ∧ r18 < 3020) ∧ (0 ≤ r16 ∧ r16 < 3020) ∧ ∀ h21 : qM, h21 = qup h17 111 r16 (h17 111 r18) → (qI (v3 + 1)) ∧ EvV X (d + 1) mX11_stays 4 [(2, 78), (0, v1), (0, v2), (0, (v3 + 1))] [] sh pt h21 K))))))))) :
    EvV X (d + 1) mX11_stays 4 [(2, 78), (0, v1), (0, v2), (0, v3)] [] sh pt h K := by
  show Ev X (d + 1) 0 0 mX11_stays 4 [(2, 78), (0, v1), (0, v2), (0, v3)] [] (sh, pt, h) (qRV sh pt K)
  refine ev_iload_n 5 rfl dX11_stays_4 rfl rfl ?_
  refine ev_sipush 8 rfl dX11_stays_5 (by decide) (by decide) ?_
  refine ev_icmp_gt (tgt := 77) 11 rfl dX11_stays_8 (by decide) (fun cd => ?_) (fun cd => ?_)
  · have H := H.1 cd
    exact ev_retV dX11_stays_77 rfl H
  · have H := H.2 cd
    refine ev_aload_n 12 rfl dX11_stays_11 rfl rfl ?_
    refine ev_getR (ki := 58) (v := 109) 15 rfl dX11_stays_12 lf_11_129 (s_78 hst) (by decide) rfl (p_78_58 hst) ?_
    refine ev_iload_n 16 rfl dX11_stays_15 rfl rfl ?_
    refine ev_iload_n 17 rfl dX11_stays_16 rfl rfl ?_
    refine ev_cSI (As := [(0, v3), (0, v1)]) (rest := [(2, 109)]) 20 rfl dX11_stays_17 lm_11_405 mm_X11_cell rfl rfl (Nat.le_of_ble_eq_true rfl) (Nat.le_of_ble_eq_true rfl) (Nat.le_refl _) H ?_
    intro r2 h1 H
    refine ev_aload_n 21 rfl dX11_stays_20 rfl rfl ?_
    refine ev_getR (ki := 58) (v := 109) 24 rfl dX11_stays_21 lf_11_129 (s_78 hst) (by decide) rfl (p_78_58 hst) ?_
    refine ev_iload_n 25 rfl dX11_stays_24 rfl rfl ?_
    refine ev_iload_n 26 rfl dX11_stays_25 rfl rfl ?_
    refine ev_cSI (As := [(0, v2), (0, v1)]) (rest := [(2, 109), (0, r2), (2, 109)]) 29 rfl dX11_stays_26 lm_11_405 mm_X11_cell rfl rfl (Nat.le_of_ble_eq_true rfl) (Nat.le_of_ble_eq_true rfl) (Nat.le_refl _) H ?_
    intro r4 h3 H
    obtain ⟨b5, H⟩ := H
    refine ev_iaload 30 rfl dX11_stays_29 (s_109 hst) b5.1 b5.2 ?_
    obtain ⟨b6, H⟩ := H
    refine ev_iastore 31 rfl dX11_stays_30 (s_109 hst) b6.1 b6.2 ?_
    obtain ⟨h7, eh7⟩ : ∃ z : qM, z = qup h3 109 r2 (h3 109 r4) := ⟨_, rfl⟩
    rw [← eh7]
    have H := H h7 eh7
    refine ev_aload_n 32 rfl dX11_stays_31 rfl rfl ?_
    refine ev_getR (ki := 59) (v := 110) 35 rfl dX11_stays_32 lf_11_132 (s_78 hst) (by decide) rfl (p_78_59 hst) ?_
    refine ev_iload_n 36 rfl dX11_stays_35 rfl rfl ?_
    refine ev_iload_n 37 rfl dX11_stays_36 rfl rfl ?_
    refine ev_cSI (As := [(0, v3), (0, v1)]) (rest := [(2, 110)]) 40 rfl dX11_stays_37 lm_11_405 mm_X11_cell rfl rfl (Nat.le_of_ble_eq_true rfl) (Nat.le_of_ble_eq_true rfl) (Nat.le_refl _) H ?_
    intro r9 h8 H
    refine ev_aload_n 41 rfl dX11_stays_40 rfl rfl ?_
    refine ev_getR (ki := 59) (v := 110) 44 rfl dX11_stays_41 lf_11_132 (s_78 hst) (by decide) rfl (p_78_59 hst) ?_
    refine ev_iload_n 45 rfl dX11_stays_44 rfl rfl ?_
    refine ev_iload_n 46 rfl dX11_stays_45 rfl rfl ?_
    refine ev_cSI (As := [(0, v2), (0, v1)]) (rest := [(2, 110), (0, r9), (2, 110)]) 49 rfl dX11_stays_46 lm_11_405 mm_X11_cell rfl rfl (Nat.le_of_ble_eq_true rfl) (Nat.le_of_ble_eq_true rfl) (Nat.le_refl _) H ?_
    intro r11 h10 H
    obtain ⟨b12, H⟩ := H
    refine ev_iaload 50 rfl dX11_stays_49 (s_110 hst) b12.1 b12.2 ?_
    obtain ⟨b13, H⟩ := H
    refine ev_iastore 51 rfl dX11_stays_50 (s_110 hst) b13.1 b13.2 ?_
    obtain ⟨h14, eh14⟩ : ∃ z : qM, z = qup h10 110 r9 (h10 110 r11) := ⟨_, rfl⟩
    rw [← eh14]
    have H := H h14 eh14
    refine ev_aload_n 52 rfl dX11_stays_51 rfl rfl ?_
    refine ev_getR (ki := 60) (v := 111) 55 rfl dX11_stays_52 lf_11_135 (s_78 hst) (by decide) rfl (p_78_60 hst) ?_
    refine ev_iload_n 56 rfl dX11_stays_55 rfl rfl ?_
    refine ev_iload_n 57 rfl dX11_stays_56 rfl rfl ?_
    refine ev_cSI (As := [(0, v3), (0, v1)]) (rest := [(2, 111)]) 60 rfl dX11_stays_57 lm_11_405 mm_X11_cell rfl rfl (Nat.le_of_ble_eq_true rfl) (Nat.le_of_ble_eq_true rfl) (Nat.le_refl _) H ?_
    intro r16 h15 H
    refine ev_aload_n 61 rfl dX11_stays_60 rfl rfl ?_
    refine ev_getR (ki := 60) (v := 111) 64 rfl dX11_stays_61 lf_11_135 (s_78 hst) (by decide) rfl (p_78_60 hst) ?_
    refine ev_iload_n 65 rfl dX11_stays_64 rfl rfl ?_
    refine ev_iload_n 66 rfl dX11_stays_65 rfl rfl ?_
    refine ev_cSI (As := [(0, v2), (0, v1)]) (rest := [(2, 111), (0, r16), (2, 111)]) 69 rfl dX11_stays_66 lm_11_405 mm_X11_cell rfl rfl (Nat.le_of_ble_eq_true rfl) (Nat.le_of_ble_eq_true rfl) (Nat.le_refl _) H ?_
    intro r18 h17 H
    obtain ⟨b19, H⟩ := H
    refine ev_iaload 70 rfl dX11_stays_69 (s_111 hst) b19.1 b19.2 ?_
    obtain ⟨b20, H⟩ := H
    refine ev_iastore 71 rfl dX11_stays_70 (s_111 hst) b20.1 b20.2 ?_
    obtain ⟨h21, eh21⟩ : ∃ z : qM, z = qup h17 111 r16 (h17 111 r18) := ⟨_, rfl⟩
    rw [← eh21]
    have H := H h21 eh21
    obtain ⟨sd, H⟩ := H
    refine ev_iinc (L1 := [(2, 78), (0, v1), (0, v2), (0, (v3 + 1))]) 74 rfl dX11_stays_71 rfl sd (Nat.le_of_ble_eq_true rfl) rfl ?_
    refine ev_goto (tgt := 4) dX11_stays_74 (by decide) ?_
    exact H

set_option maxRecDepth 20000 in
theorem b_X11_run {X : qX} {d : Nat} {sh : qS} {pt h : qM} {K : Int → qM → Prop} (hst : St sh pt)
    (H : ∀ h1 : qM, h1 = qup h 78 1 0 → ∀ h2 : qM, h2 = qup h1 78 0 0 → ((0 ≤ (h2 78 30) → EvI X (d + 1) mX11_run 26 [(2, 78), (0, 0), (8, -1), (8, -1), (8, -1)] [] sh pt h2 K) ∧ ((h2 78 30) < 0 → RunI X d mX11_refuse [(2, 78), (0, 8)] sh pt h2 (fun r4 h3 => K r4 h3)))) :
    RunI X (d + 1) mX11_run [(2, 78)] sh pt h K := by
  show Ev X (d + 1) 0 0 mX11_run 0 [(2, 78), (8, -1), (8, -1), (8, -1), (8, -1)] [] (sh, pt, h) (qRI sh pt K)
  refine ev_aload_n 1 rfl dX11_run_0 rfl rfl ?_
  refine ev_iconst 2 rfl dX11_run_1 (by decide) ?_
  refine ev_putI (ki := 1) 5 rfl dX11_run_2 lf_11_213 (Or.inl rfl) (s_78 hst) (by decide) rfl ?_
  obtain ⟨h1, eh1⟩ : ∃ z : qM, z = qup h 78 1 0 := ⟨_, rfl⟩
  rw [← eh1]
  have H := H h1 eh1
  refine ev_aload_n 6 rfl dX11_run_5 rfl rfl ?_
  refine ev_iconst 7 rfl dX11_run_6 (by decide) ?_
  refine ev_putI (ki := 0) 10 rfl dX11_run_7 lf_11_216 (Or.inl rfl) (s_78 hst) (by decide) rfl ?_
  obtain ⟨h2, eh2⟩ : ∃ z : qM, z = qup h1 78 0 0 := ⟨_, rfl⟩
  rw [← eh2]
  have H := H h2 eh2
  refine ev_aload_n 11 rfl dX11_run_10 rfl rfl ?_
  refine ev_getI (ki := 30) 14 rfl dX11_run_11 lf_11_57 (Or.inl rfl) (s_78 hst) (by decide) rfl ?_
  refine ev_if_ge (tgt := 24) 17 rfl dX11_run_14 (by decide) (fun cd => ?_) (fun cd => ?_)
  · have H := H.1 cd
    refine ev_iconst 25 rfl dX11_run_24 (by decide) ?_
    refine ev_istore_n (L1 := [(2, 78), (0, 0), (8, -1), (8, -1), (8, -1)]) 26 rfl dX11_run_25 rfl (Nat.le_of_ble_eq_true rfl) rfl ?_
    exact H
  · have H := H.2 cd
    refine ev_aload_n 18 rfl dX11_run_17 rfl rfl ?_
    refine ev_bipush 20 rfl dX11_run_18 (by decide) (by decide) ?_
    refine ev_cVI (As := [(0, 8)]) (rest := []) 23 rfl dX11_run_20 lm_11_254 mm_X11_refuse (s_78 hst) rfl rfl (Nat.le_of_ble_eq_true rfl) (Nat.le_of_ble_eq_true rfl) (Nat.le_refl _) H ?_
    intro r4 h3 H
    exact ev_retI dX11_run_23 rfl H

set_option maxRecDepth 20000 in
theorem b_X11_run_26 {X : qX} {d : Nat} {sh : qS} {pt h : qM} {K : Int → qM → Prop} {v1 : Int} (hst : St sh pt)
    (H : (((h 78 7) ≤ v1 → ∀ h1 : qM, h1 = qup h 78 67 0 → ∀ h2 : qM, h2 = qup h1 78 66 0 → EvI X (d + 1) mX11_run 98 [(2, 78), (0, 0), (0, 0), (0, 0), (8, -1)] [] sh pt h2 K) ∧ (v1 < (h 78 7) → (0 ≤ v1 ∧ v1 < 20) ∧ (0 ≤ v1 ∧ v1 < 3020) ∧ ∀ h5 : qM, h5 = qup h 109 v1 (h 82 v1) → (0 ≤ v1 ∧ v1 < 20) ∧ (0 ≤ v1 ∧ v1 < 3020) ∧ ∀ h8 : qM, h8 = qup h5 110 v1 (h5 83 v1) → (0 ≤ v1 ∧ v1 < 20) ∧ (0 ≤ v1 ∧ v1 < 3020) ∧ ∀ h11 : qM, h11 = qup h8 111 v1 (h8 84 v1) → RunV X d mX11_stays [(2, 78), (0, v1), (0, 0)] sh pt h11 (fun h12 => (qI (v1 + 1)) ∧ EvI X (d + 1) mX11_run 26 [(2, 78), (0, (v1 + 1)), (8, -1), (8, -1), (8, -1)] [] sh pt h12 K)))) :
    EvI X (d + 1) mX11_run 26 [(2, 78), (0, v1), (8, -1), (8, -1), (8, -1)] [] sh pt h K := by
  show Ev X (d + 1) 0 0 mX11_run 26 [(2, 78), (0, v1), (8, -1), (8, -1), (8, -1)] [] (sh, pt, h) (qRI sh pt K)
  refine ev_iload_n 27 rfl dX11_run_26 rfl rfl ?_
  refine ev_aload_n 28 rfl dX11_run_27 rfl rfl ?_
  refine ev_getI (ki := 7) 31 rfl dX11_run_28 lf_11_245 (Or.inl rfl) (s_78 hst) (by decide) rfl ?_
  refine ev_icmp_ge (tgt := 82) 34 rfl dX11_run_31 (by decide) (fun cd => ?_) (fun cd => ?_)
  · have H := H.1 cd
    refine ev_aload_n 83 rfl dX11_run_82 rfl rfl ?_
    refine ev_iconst 84 rfl dX11_run_83 (by decide) ?_
    refine ev_putI (ki := 67) 87 rfl dX11_run_84 lf_11_374 (Or.inl rfl) (s_78 hst) (by decide) rfl ?_
    obtain ⟨h1, eh1⟩ : ∃ z : qM, z = qup h 78 67 0 := ⟨_, rfl⟩
    rw [← eh1]
    have H := H h1 eh1
    refine ev_aload_n 88 rfl dX11_run_87 rfl rfl ?_
    refine ev_iconst 89 rfl dX11_run_88 (by decide) ?_
    refine ev_putI (ki := 66) 92 rfl dX11_run_89 lf_11_397 (Or.inl rfl) (s_78 hst) (by decide) rfl ?_
    obtain ⟨h2, eh2⟩ : ∃ z : qM, z = qup h1 78 66 0 := ⟨_, rfl⟩
    rw [← eh2]
    have H := H h2 eh2
    refine ev_iconst 93 rfl dX11_run_92 (by decide) ?_
    refine ev_istore_n (L1 := [(2, 78), (0, 0), (8, -1), (8, -1), (8, -1)]) 94 rfl dX11_run_93 rfl (Nat.le_of_ble_eq_true rfl) rfl ?_
    refine ev_iconst 95 rfl dX11_run_94 (by decide) ?_
    refine ev_istore_n (L1 := [(2, 78), (0, 0), (0, 0), (8, -1), (8, -1)]) 96 rfl dX11_run_95 rfl (Nat.le_of_ble_eq_true rfl) rfl ?_
    refine ev_iconst 97 rfl dX11_run_96 (by decide) ?_
    refine ev_istore_n (L1 := [(2, 78), (0, 0), (0, 0), (0, 0), (8, -1)]) 98 rfl dX11_run_97 rfl (Nat.le_of_ble_eq_true rfl) rfl ?_
    exact H
  · have H := H.2 cd
    refine ev_aload_n 35 rfl dX11_run_34 rfl rfl ?_
    refine ev_getR (ki := 58) (v := 109) 38 rfl dX11_run_35 lf_11_129 (s_78 hst) (by decide) rfl (p_78_58 hst) ?_
    refine ev_iload_n 39 rfl dX11_run_38 rfl rfl ?_
    refine ev_aload_n 40 rfl dX11_run_39 rfl rfl ?_
    refine ev_getR (ki := 11) (v := 82) 43 rfl dX11_run_40 lf_11_28 (s_78 hst) (by decide) rfl (p_78_11 hst) ?_
    refine ev_iload_n 44 rfl dX11_run_43 rfl rfl ?_
    obtain ⟨b3, H⟩ := H
    refine ev_iaload 45 rfl dX11_run_44 (s_82 hst) b3.1 b3.2 ?_
    obtain ⟨b4, H⟩ := H
    refine ev_iastore 46 rfl dX11_run_45 (s_109 hst) b4.1 b4.2 ?_
    obtain ⟨h5, eh5⟩ : ∃ z : qM, z = qup h 109 v1 (h 82 v1) := ⟨_, rfl⟩
    rw [← eh5]
    have H := H h5 eh5
    refine ev_aload_n 47 rfl dX11_run_46 rfl rfl ?_
    refine ev_getR (ki := 59) (v := 110) 50 rfl dX11_run_47 lf_11_132 (s_78 hst) (by decide) rfl (p_78_59 hst) ?_
    refine ev_iload_n 51 rfl dX11_run_50 rfl rfl ?_
    refine ev_aload_n 52 rfl dX11_run_51 rfl rfl ?_
    refine ev_getR (ki := 12) (v := 83) 55 rfl dX11_run_52 lf_11_31 (s_78 hst) (by decide) rfl (p_78_12 hst) ?_
    refine ev_iload_n 56 rfl dX11_run_55 rfl rfl ?_
    obtain ⟨b6, H⟩ := H
    refine ev_iaload 57 rfl dX11_run_56 (s_83 hst) b6.1 b6.2 ?_
    obtain ⟨b7, H⟩ := H
    refine ev_iastore 58 rfl dX11_run_57 (s_110 hst) b7.1 b7.2 ?_
    obtain ⟨h8, eh8⟩ : ∃ z : qM, z = qup h5 110 v1 (h5 83 v1) := ⟨_, rfl⟩
    rw [← eh8]
    have H := H h8 eh8
    refine ev_aload_n 59 rfl dX11_run_58 rfl rfl ?_
    refine ev_getR (ki := 60) (v := 111) 62 rfl dX11_run_59 lf_11_135 (s_78 hst) (by decide) rfl (p_78_60 hst) ?_
    refine ev_iload_n 63 rfl dX11_run_62 rfl rfl ?_
    refine ev_aload_n 64 rfl dX11_run_63 rfl rfl ?_
    refine ev_getR (ki := 13) (v := 84) 67 rfl dX11_run_64 lf_11_34 (s_78 hst) (by decide) rfl (p_78_13 hst) ?_
    refine ev_iload_n 68 rfl dX11_run_67 rfl rfl ?_
    obtain ⟨b9, H⟩ := H
    refine ev_iaload 69 rfl dX11_run_68 (s_84 hst) b9.1 b9.2 ?_
    obtain ⟨b10, H⟩ := H
    refine ev_iastore 70 rfl dX11_run_69 (s_111 hst) b10.1 b10.2 ?_
    obtain ⟨h11, eh11⟩ : ∃ z : qM, z = qup h8 111 v1 (h8 84 v1) := ⟨_, rfl⟩
    rw [← eh11]
    have H := H h11 eh11
    refine ev_aload_n 71 rfl dX11_run_70 rfl rfl ?_
    refine ev_iload_n 72 rfl dX11_run_71 rfl rfl ?_
    refine ev_iconst 73 rfl dX11_run_72 (by decide) ?_
    refine ev_cVV (As := [(0, v1), (0, 0)]) (rest := []) 76 rfl dX11_run_73 lm_11_428 mm_X11_stays (s_78 hst) rfl rfl (Nat.le_of_ble_eq_true rfl) (Nat.le_of_ble_eq_true rfl) (Nat.le_refl _) H ?_
    intro h12 H
    obtain ⟨sd, H⟩ := H
    refine ev_iinc (L1 := [(2, 78), (0, (v1 + 1)), (8, -1), (8, -1), (8, -1)]) 79 rfl dX11_run_76 rfl sd (Nat.le_of_ble_eq_true rfl) rfl ?_
    refine ev_goto (tgt := 26) dX11_run_79 (by decide) ?_
    exact H

set_option maxRecDepth 20000 in
theorem b_X11_run_98 {X : qX} {d : Nat} {sh : qS} {pt h : qM} {K : Int → qM → Prop} {v1 v2 v3 : Int} (hst : St sh pt)
    (H : (((h 78 30) ≤ v3 → EvI X (d + 1) mX11_run 281 [(2, 78), (8, -1), (0, v2), (8, -1), (8, -1)] [] sh pt h K) ∧ (v3 < (h 78 30) → ((¬ (h 78 67) = 0 → EvI X (d + 1) mX11_run 281 [(2, 78), (8, -1), (0, v2), (8, -1), (8, -1)] [] sh pt h K) ∧ ((h 78 67) = 0 → ∀ h1 : qM, h1 = qup h 78 62 0 → EvI X (d + 1) mX11_run 121 [(2, 78), (0, v1), (0, v2), (0, v3), (0, 0)] [] sh pt h1 K))))) :
    EvI X (d + 1) mX11_run 98 [(2, 78), (0, v1), (0, v2), (0, v3), (8, -1)] [] sh pt h K := by
  show Ev X (d + 1) 0 0 mX11_run 98 [(2, 78), (0, v1), (0, v2), (0, v3), (8, -1)] [] (sh, pt, h) (qRI sh pt K)
  refine ev_iload_n 99 rfl dX11_run_98 rfl rfl ?_
  refine ev_aload_n 100 rfl dX11_run_99 rfl rfl ?_
  refine ev_getI (ki := 30) 103 rfl dX11_run_100 lf_11_57 (Or.inl rfl) (s_78 hst) (by decide) rfl ?_
  refine ev_icmp_ge (tgt := 281) 106 rfl dX11_run_103 (by decide) (fun cd => ?_) (fun cd => ?_)
  · have H := H.1 cd
    refine Ev.drop [1, 3] rfl ?_
    exact H
  · have H := H.2 cd
    refine ev_aload_n 107 rfl dX11_run_106 rfl rfl ?_
    refine ev_getI (ki := 67) 110 rfl dX11_run_107 lf_11_374 (Or.inl rfl) (s_78 hst) (by decide) rfl ?_
    refine ev_if_ne (tgt := 281) 113 rfl dX11_run_110 (by decide) (fun cd => ?_) (fun cd => ?_)
    · have H := H.1 cd
      refine Ev.drop [1, 3] rfl ?_
      exact H
    · have H := H.2 cd
      refine ev_aload_n 114 rfl dX11_run_113 rfl rfl ?_
      refine ev_iconst 115 rfl dX11_run_114 (by decide) ?_
      refine ev_putI (ki := 62) 118 rfl dX11_run_115 lf_11_400 (Or.inl rfl) (s_78 hst) (by decide) rfl ?_
      obtain ⟨h1, eh1⟩ : ∃ z : qM, z = qup h 78 62 0 := ⟨_, rfl⟩
      rw [← eh1]
      have H := H h1 eh1
      refine ev_iconst 119 rfl dX11_run_118 (by decide) ?_
      refine ev_istore (L1 := [(2, 78), (0, v1), (0, v2), (0, v3), (0, 0)]) 121 rfl dX11_run_119 (Nat.le_of_ble_eq_true rfl) rfl ?_
      exact H

set_option maxRecDepth 20000 in
theorem b_X11_run_281 {X : qX} {d : Nat} {sh : qS} {pt h : qM} {K : Int → qM → Prop} {v2 : Int} (hst : St sh pt)
    (H : ∀ h1 : qM, h1 = qup h 78 53 (h 78 67) → ((¬ (h1 78 67) = 0 → ∀ h2 : qM, h2 = qup h1 78 54 (h1 78 68) → (((h2 78 67) ≤ 0 → EvI X (d + 1) mX11_run 324 [(2, 78), (8, -1), (0, v2), (0, 0), (8, -1)] [] sh pt h2 K) ∧ (0 < (h2 78 67) → RunI X d mX11_refuse [(2, 78), (0, 10)] sh pt h2 (fun r4 h3 => K r4 h3)))) ∧ ((h1 78 67) = 0 → ∀ h5 : qM, h5 = qup h1 78 54 (-1) → (((h5 78 67) ≤ 0 → EvI X (d + 1) mX11_run 324 [(2, 78), (8, -1), (0, v2), (0, 0), (8, -1)] [] sh pt h5 K) ∧ (0 < (h5 78 67) → RunI X d mX11_refuse [(2, 78), (0, 10)] sh pt h5 (fun r7 h6 => K r7 h6)))))) :
    EvI X (d + 1) mX11_run 281 [(2, 78), (8, -1), (0, v2), (8, -1), (8, -1)] [] sh pt h K := by
  show Ev X (d + 1) 0 0 mX11_run 281 [(2, 78), (8, -1), (0, v2), (8, -1), (8, -1)] [] (sh, pt, h) (qRI sh pt K)
  refine ev_aload_n 282 rfl dX11_run_281 rfl rfl ?_
  refine ev_aload_n 283 rfl dX11_run_282 rfl rfl ?_
  refine ev_getI (ki := 67) 286 rfl dX11_run_283 lf_11_374 (Or.inl rfl) (s_78 hst) (by decide) rfl ?_
  refine ev_putI (ki := 53) 289 rfl dX11_run_286 lf_11_114 (Or.inl rfl) (s_78 hst) (by decide) rfl ?_
  obtain ⟨h1, eh1⟩ : ∃ z : qM, z = qup h 78 53 (h 78 67) := ⟨_, rfl⟩
  rw [← eh1]
  have H := H h1 eh1
  refine ev_aload_n 290 rfl dX11_run_289 rfl rfl ?_
  refine ev_aload_n 291 rfl dX11_run_290 rfl rfl ?_
  refine ev_getI (ki := 67) 294 rfl dX11_run_291 lf_11_374 (Or.inl rfl) (s_78 hst) (by decide) rfl ?_
  refine ev_if_ne (tgt := 301) 297 rfl dX11_run_294 (by decide) (fun cd => ?_) (fun cd => ?_)
  · have H := H.1 cd
    refine ev_aload_n 302 rfl dX11_run_301 rfl rfl ?_
    refine ev_getI (ki := 68) 305 rfl dX11_run_302 lf_11_377 (Or.inl rfl) (s_78 hst) (by decide) rfl ?_
    refine ev_putI (ki := 54) 308 rfl dX11_run_305 lf_11_117 (Or.inl rfl) (s_78 hst) (by decide) rfl ?_
    obtain ⟨h2, eh2⟩ : ∃ z : qM, z = qup h1 78 54 (h1 78 68) := ⟨_, rfl⟩
    rw [← eh2]
    have H := H h2 eh2
    refine ev_aload_n 309 rfl dX11_run_308 rfl rfl ?_
    refine ev_getI (ki := 67) 312 rfl dX11_run_309 lf_11_374 (Or.inl rfl) (s_78 hst) (by decide) rfl ?_
    refine ev_if_le (tgt := 322) 315 rfl dX11_run_312 (by decide) (fun cd => ?_) (fun cd => ?_)
    · have H := H.1 cd
      refine ev_iconst 323 rfl dX11_run_322 (by decide) ?_
      refine ev_istore_n (L1 := [(2, 78), (8, -1), (0, v2), (0, 0), (8, -1)]) 324 rfl dX11_run_323 rfl (Nat.le_of_ble_eq_true rfl) rfl ?_
      exact H
    · have H := H.2 cd
      refine ev_aload_n 316 rfl dX11_run_315 rfl rfl ?_
      refine ev_bipush 318 rfl dX11_run_316 (by decide) (by decide) ?_
      refine ev_cVI (As := [(0, 10)]) (rest := []) 321 rfl dX11_run_318 lm_11_254 mm_X11_refuse (s_78 hst) rfl rfl (Nat.le_of_ble_eq_true rfl) (Nat.le_of_ble_eq_true rfl) (Nat.le_refl _) H ?_
      intro r4 h3 H
      exact ev_retI dX11_run_321 rfl H
  · have H := H.2 cd
    refine ev_iconst 298 rfl dX11_run_297 (by decide) ?_
    refine ev_goto (tgt := 305) dX11_run_298 (by decide) ?_
    refine ev_putI (ki := 54) 308 rfl dX11_run_305 lf_11_117 (Or.inl rfl) (s_78 hst) (by decide) rfl ?_
    obtain ⟨h5, eh5⟩ : ∃ z : qM, z = qup h1 78 54 (-1) := ⟨_, rfl⟩
    rw [← eh5]
    have H := H h5 eh5
    refine ev_aload_n 309 rfl dX11_run_308 rfl rfl ?_
    refine ev_getI (ki := 67) 312 rfl dX11_run_309 lf_11_374 (Or.inl rfl) (s_78 hst) (by decide) rfl ?_
    refine ev_if_le (tgt := 322) 315 rfl dX11_run_312 (by decide) (fun cd => ?_) (fun cd => ?_)
    · have H := H.1 cd
      refine ev_iconst 323 rfl dX11_run_322 (by decide) ?_
      refine ev_istore_n (L1 := [(2, 78), (8, -1), (0, v2), (0, 0), (8, -1)]) 324 rfl dX11_run_323 rfl (Nat.le_of_ble_eq_true rfl) rfl ?_
      exact H
    · have H := H.2 cd
      refine ev_aload_n 316 rfl dX11_run_315 rfl rfl ?_
      refine ev_bipush 318 rfl dX11_run_316 (by decide) (by decide) ?_
      refine ev_cVI (As := [(0, 10)]) (rest := []) 321 rfl dX11_run_318 lm_11_254 mm_X11_refuse (s_78 hst) rfl rfl (Nat.le_of_ble_eq_true rfl) (Nat.le_of_ble_eq_true rfl) (Nat.le_refl _) H ?_
      intro r7 h6 H
      exact ev_retI dX11_run_321 rfl H

set_option maxRecDepth 20000 in
theorem b_X11_run_121 {X : qX} {d : Nat} {sh : qS} {pt h : qM} {K : Int → qM → Prop} {v1 v2 v3 v4 : Int} (hst : St sh pt)
    (H : (((h 78 7) ≤ v4 → (0 ≤ v3 ∧ v3 < 8) ∧ ∀ h2 : qM, h2 = qup h 78 63 0 → ∀ h3 : qM, h3 = qup h2 78 64 0 → ∀ h4 : qM, h4 = qup h3 78 65 0 → (0 ≤ v3 ∧ v3 < 9) ∧ (qI (v3 + 1)) ∧ (0 ≤ (v3 + 1) ∧ (v3 + 1) < 9) ∧ RunV X d mX11_runOrders [(2, 78), (0, (h4 90 v3)), (0, (h4 90 (v3 + 1)))] sh pt h4 (fun h7 => RunI X d mJ9_max_7cf53 [(0, v2), (0, (h7 78 63))] sh pt h7 (fun r9 h8 => EvI X (d + 1) mX11_run 238 [(2, 78), (0, (qior v1 (h 89 v3))), (0, r9), (0, v3), (0, 0)] [] sh pt h8 K))) ∧ (v4 < (h 78 7) → (0 ≤ v3 ∧ v3 < 8) ∧ (((qiand (qishr (h 89 v3) v4) 1) = 0 → (qI (v4 + 1)) ∧ EvI X (d + 1) mX11_run 121 [(2, 78), (0, v1), (0, v2), (0, v3), (0, (v4 + 1))] [] sh pt h K) ∧ (¬ (qiand (qishr (h 89 v3) v4) 1) = 0 → ((¬ (qiand (qishr v1 v4) 1) = 1 → (0 ≤ (h 78 62) ∧ (h 78 62) < 20) ∧ ∀ h12 : qM, h12 = qup h 112 (h 78 62) v4 → (qI ((h12 78 62) + 1)) ∧ ∀ h13 : qM, h13 = qup h12 78 62 ((h12 78 62) + 1) → (qI (v4 + 1)) ∧ EvI X (d + 1) mX11_run 121 [(2, 78), (0, v1), (0, v2), (0, v3), (0, (v4 + 1))] [] sh pt h13 K) ∧ ((qiand (qishr v1 v4) 1) = 1 → (qI (v4 + 1)) ∧ EvI X (d + 1) mX11_run 121 [(2, 78), (0, v1), (0, v2), (0, v3), (0, (v4 + 1))] [] sh pt h K))))))) :
    EvI X (d + 1) mX11_run 121 [(2, 78), (0, v1), (0, v2), (0, v3), (0, v4)] [] sh pt h K := by
  show Ev X (d + 1) 0 0 mX11_run 121 [(2, 78), (0, v1), (0, v2), (0, v3), (0, v4)] [] (sh, pt, h) (qRI sh pt K)
  refine ev_iload 123 rfl dX11_run_121 rfl ?_
  refine ev_aload_n 124 rfl dX11_run_123 rfl rfl ?_
  refine ev_getI (ki := 7) 127 rfl dX11_run_124 lf_11_245 (Or.inl rfl) (s_78 hst) (by decide) rfl ?_
  refine ev_icmp_ge (tgt := 184) 130 rfl dX11_run_127 (by decide) (fun cd => ?_) (fun cd => ?_)
  · have H := H.1 cd
    refine ev_iload_n 185 rfl dX11_run_184 rfl rfl ?_
    refine ev_aload_n 186 rfl dX11_run_185 rfl rfl ?_
    refine ev_getR (ki := 33) (v := 89) 189 rfl dX11_run_186 lf_11_60 (s_78 hst) (by decide) rfl (p_78_33 hst) ?_
    refine ev_iload_n 190 rfl dX11_run_189 rfl rfl ?_
    obtain ⟨b1, H⟩ := H
    refine ev_iaload 191 rfl dX11_run_190 (s_89 hst) b1.1 b1.2 ?_
    refine ev_ior 192 rfl dX11_run_191 ?_
    refine ev_istore_n (L1 := [(2, 78), (0, (qior v1 (h 89 v3))), (0, v2), (0, v3), (0, v4)]) 193 rfl dX11_run_192 rfl (Nat.le_of_ble_eq_true rfl) rfl ?_
    refine ev_aload_n 194 rfl dX11_run_193 rfl rfl ?_
    refine ev_iconst 195 rfl dX11_run_194 (by decide) ?_
    refine ev_putI (ki := 63) 198 rfl dX11_run_195 lf_11_403 (Or.inl rfl) (s_78 hst) (by decide) rfl ?_
    obtain ⟨h2, eh2⟩ : ∃ z : qM, z = qup h 78 63 0 := ⟨_, rfl⟩
    rw [← eh2]
    have H := H h2 eh2
    refine ev_aload_n 199 rfl dX11_run_198 rfl rfl ?_
    refine ev_iconst 200 rfl dX11_run_199 (by decide) ?_
    refine ev_putI (ki := 64) 203 rfl dX11_run_200 lf_11_380 (Or.inl rfl) (s_78 hst) (by decide) rfl ?_
    obtain ⟨h3, eh3⟩ : ∃ z : qM, z = qup h2 78 64 0 := ⟨_, rfl⟩
    rw [← eh3]
    have H := H h3 eh3
    refine ev_aload_n 204 rfl dX11_run_203 rfl rfl ?_
    refine ev_iconst 205 rfl dX11_run_204 (by decide) ?_
    refine ev_putI (ki := 65) 208 rfl dX11_run_205 lf_11_394 (Or.inl rfl) (s_78 hst) (by decide) rfl ?_
    obtain ⟨h4, eh4⟩ : ∃ z : qM, z = qup h3 78 65 0 := ⟨_, rfl⟩
    rw [← eh4]
    have H := H h4 eh4
    refine ev_aload_n 209 rfl dX11_run_208 rfl rfl ?_
    refine ev_aload_n 210 rfl dX11_run_209 rfl rfl ?_
    refine ev_getR (ki := 34) (v := 90) 213 rfl dX11_run_210 lf_11_63 (s_78 hst) (by decide) rfl (p_78_34 hst) ?_
    refine ev_iload_n 214 rfl dX11_run_213 rfl rfl ?_
    obtain ⟨b5, H⟩ := H
    refine ev_iaload 215 rfl dX11_run_214 (s_90 hst) b5.1 b5.2 ?_
    refine ev_aload_n 216 rfl dX11_run_215 rfl rfl ?_
    refine ev_getR (ki := 34) (v := 90) 219 rfl dX11_run_216 lf_11_63 (s_78 hst) (by decide) rfl (p_78_34 hst) ?_
    refine ev_iload_n 220 rfl dX11_run_219 rfl rfl ?_
    refine ev_iconst 221 rfl dX11_run_220 (by decide) ?_
    obtain ⟨sd, H⟩ := H
    refine ev_iadd 222 rfl dX11_run_221 sd ?_
    obtain ⟨b6, H⟩ := H
    refine ev_iaload 223 rfl dX11_run_222 (s_90 hst) b6.1 b6.2 ?_
    refine ev_cVV (As := [(0, (h4 90 v3)), (0, (h4 90 (v3 + 1)))]) (rest := []) 226 rfl dX11_run_223 lm_11_385 mm_X11_runOrders (s_78 hst) rfl rfl (Nat.le_of_ble_eq_true rfl) (Nat.le_of_ble_eq_true rfl) (Nat.le_refl _) H ?_
    intro h7 H
    refine ev_iload_n 227 rfl dX11_run_226 rfl rfl ?_
    refine ev_aload_n 228 rfl dX11_run_227 rfl rfl ?_
    refine ev_getI (ki := 63) 231 rfl dX11_run_228 lf_11_403 (Or.inl rfl) (s_78 hst) (by decide) rfl ?_
    refine ev_cSI (As := [(0, v2), (0, (h7 78 63))]) (rest := []) 234 rfl dX11_run_231 lm_11_431 mm_J9_max_7cf53 rfl rfl (Nat.le_of_ble_eq_true rfl) (Nat.le_of_ble_eq_true rfl) (Nat.le_refl _) H ?_
    intro r9 h8 H
    refine ev_istore_n (L1 := [(2, 78), (0, (qior v1 (h 89 v3))), (0, r9), (0, v3), (0, v4)]) 235 rfl dX11_run_234 rfl (Nat.le_of_ble_eq_true rfl) rfl ?_
    refine ev_iconst 236 rfl dX11_run_235 (by decide) ?_
    refine ev_istore (L1 := [(2, 78), (0, (qior v1 (h 89 v3))), (0, r9), (0, v3), (0, 0)]) 238 rfl dX11_run_236 (Nat.le_of_ble_eq_true rfl) rfl ?_
    exact H
  · have H := H.2 cd
    refine ev_aload_n 131 rfl dX11_run_130 rfl rfl ?_
    refine ev_getR (ki := 33) (v := 89) 134 rfl dX11_run_131 lf_11_60 (s_78 hst) (by decide) rfl (p_78_33 hst) ?_
    refine ev_iload_n 135 rfl dX11_run_134 rfl rfl ?_
    obtain ⟨b10, H⟩ := H
    refine ev_iaload 136 rfl dX11_run_135 (s_89 hst) b10.1 b10.2 ?_
    refine ev_iload 138 rfl dX11_run_136 rfl ?_
    refine ev_ishr 139 rfl dX11_run_138 ?_
    refine ev_iconst 140 rfl dX11_run_139 (by decide) ?_
    refine ev_iand 141 rfl dX11_run_140 ?_
    refine ev_if_eq (tgt := 178) 144 rfl dX11_run_141 (by decide) (fun cd => ?_) (fun cd => ?_)
    · have H := H.1 cd
      obtain ⟨sd, H⟩ := H
      refine ev_iinc (L1 := [(2, 78), (0, v1), (0, v2), (0, v3), (0, (v4 + 1))]) 181 rfl dX11_run_178 rfl sd (Nat.le_of_ble_eq_true rfl) rfl ?_
      refine ev_goto (tgt := 121) dX11_run_181 (by decide) ?_
      exact H
    · have H := H.2 cd
      refine ev_iload_n 145 rfl dX11_run_144 rfl rfl ?_
      refine ev_iload 147 rfl dX11_run_145 rfl ?_
      refine ev_ishr 148 rfl dX11_run_147 ?_
      refine ev_iconst 149 rfl dX11_run_148 (by decide) ?_
      refine ev_iand 150 rfl dX11_run_149 ?_
      refine ev_iconst 151 rfl dX11_run_150 (by decide) ?_
      refine ev_icmp_ne (tgt := 157) 154 rfl dX11_run_151 (by decide) (fun cd => ?_) (fun cd => ?_)
      · have H := H.1 cd
        refine ev_aload_n 158 rfl dX11_run_157 rfl rfl ?_
        refine ev_getR (ki := 61) (v := 112) 161 rfl dX11_run_158 lf_11_138 (s_78 hst) (by decide) rfl (p_78_61 hst) ?_
        refine ev_aload_n 162 rfl dX11_run_161 rfl rfl ?_
        refine ev_getI (ki := 62) 165 rfl dX11_run_162 lf_11_400 (Or.inl rfl) (s_78 hst) (by decide) rfl ?_
        refine ev_iload 167 rfl dX11_run_165 rfl ?_
        obtain ⟨b11, H⟩ := H
        refine ev_iastore 168 rfl dX11_run_167 (s_112 hst) b11.1 b11.2 ?_
        obtain ⟨h12, eh12⟩ : ∃ z : qM, z = qup h 112 (h 78 62) v4 := ⟨_, rfl⟩
        rw [← eh12]
        have H := H h12 eh12
        refine ev_aload_n 169 rfl dX11_run_168 rfl rfl ?_
        refine ev_dup 170 rfl dX11_run_169 q21 ?_
        refine ev_getI (ki := 62) 173 rfl dX11_run_170 lf_11_400 (Or.inl rfl) (s_78 hst) (by decide) rfl ?_
        refine ev_iconst 174 rfl dX11_run_173 (by decide) ?_
        obtain ⟨sd, H⟩ := H
        refine ev_iadd 175 rfl dX11_run_174 sd ?_
        refine ev_putI (ki := 62) 178 rfl dX11_run_175 lf_11_400 (Or.inl rfl) (s_78 hst) (by decide) rfl ?_
        obtain ⟨h13, eh13⟩ : ∃ z : qM, z = qup h12 78 62 ((h12 78 62) + 1) := ⟨_, rfl⟩
        rw [← eh13]
        have H := H h13 eh13
        obtain ⟨sd, H⟩ := H
        refine ev_iinc (L1 := [(2, 78), (0, v1), (0, v2), (0, v3), (0, (v4 + 1))]) 181 rfl dX11_run_178 rfl sd (Nat.le_of_ble_eq_true rfl) rfl ?_
        refine ev_goto (tgt := 121) dX11_run_181 (by decide) ?_
        exact H
      · have H := H.2 cd
        refine ev_goto (tgt := 178) dX11_run_154 (by decide) ?_
        obtain ⟨sd, H⟩ := H
        refine ev_iinc (L1 := [(2, 78), (0, v1), (0, v2), (0, v3), (0, (v4 + 1))]) 181 rfl dX11_run_178 rfl sd (Nat.le_of_ble_eq_true rfl) rfl ?_
        refine ev_goto (tgt := 121) dX11_run_181 (by decide) ?_
        exact H

set_option maxRecDepth 20000 in
theorem b_X11_run_324 {X : qX} {d : Nat} {sh : qS} {pt h : qM} {K : Int → qM → Prop} {v2 v3 : Int} (hst : St sh pt)
    (H : ((3020 ≤ v3 → ∀ h1 : qM, h1 = qup h 78 50 (h 78 7) → ∀ h2 : qM, h2 = qup h1 78 51 v2 → ∀ h3 : qM, h3 = qup h2 78 52 (h2 78 66) → K (h3 78 51) h3) ∧ (v3 < 3020 → (0 ≤ v3 ∧ v3 < 3020) ∧ (0 ≤ v3 ∧ v3 < 3020) ∧ ∀ h6 : qM, h6 = qup h 106 v3 (h 109 v3) → (0 ≤ v3 ∧ v3 < 3020) ∧ (0 ≤ v3 ∧ v3 < 3020) ∧ ∀ h9 : qM, h9 = qup h6 107 v3 (h6 110 v3) → (0 ≤ v3 ∧ v3 < 3020) ∧ (0 ≤ v3 ∧ v3 < 3020) ∧ ∀ h12 : qM, h12 = qup h9 108 v3 (h9 111 v3) → (qI (v3 + 1)) ∧ EvI X (d + 1) mX11_run 324 [(2, 78), (8, -1), (0, v2), (0, (v3 + 1)), (8, -1)] [] sh pt h12 K))) :
    EvI X (d + 1) mX11_run 324 [(2, 78), (8, -1), (0, v2), (0, v3), (8, -1)] [] sh pt h K := by
  show Ev X (d + 1) 0 0 mX11_run 324 [(2, 78), (8, -1), (0, v2), (0, v3), (8, -1)] [] (sh, pt, h) (qRI sh pt K)
  refine ev_iload_n 325 rfl dX11_run_324 rfl rfl ?_
  refine ev_sipush 328 rfl dX11_run_325 (by decide) (by decide) ?_
  refine ev_icmp_ge (tgt := 373) 331 rfl dX11_run_328 (by decide) (fun cd => ?_) (fun cd => ?_)
  · have H := H.1 cd
    refine ev_aload_n 374 rfl dX11_run_373 rfl rfl ?_
    refine ev_aload_n 375 rfl dX11_run_374 rfl rfl ?_
    refine ev_getI (ki := 7) 378 rfl dX11_run_375 lf_11_245 (Or.inl rfl) (s_78 hst) (by decide) rfl ?_
    refine ev_putI (ki := 50) 381 rfl dX11_run_378 lf_11_111 (Or.inl rfl) (s_78 hst) (by decide) rfl ?_
    obtain ⟨h1, eh1⟩ : ∃ z : qM, z = qup h 78 50 (h 78 7) := ⟨_, rfl⟩
    rw [← eh1]
    have H := H h1 eh1
    refine ev_aload_n 382 rfl dX11_run_381 rfl rfl ?_
    refine ev_iload_n 383 rfl dX11_run_382 rfl rfl ?_
    refine ev_putI (ki := 51) 386 rfl dX11_run_383 lf_11_434 (Or.inl rfl) (s_78 hst) (by decide) rfl ?_
    obtain ⟨h2, eh2⟩ : ∃ z : qM, z = qup h1 78 51 v2 := ⟨_, rfl⟩
    rw [← eh2]
    have H := H h2 eh2
    refine ev_aload_n 387 rfl dX11_run_386 rfl rfl ?_
    refine ev_aload_n 388 rfl dX11_run_387 rfl rfl ?_
    refine ev_getI (ki := 66) 391 rfl dX11_run_388 lf_11_397 (Or.inl rfl) (s_78 hst) (by decide) rfl ?_
    refine ev_putI (ki := 52) 394 rfl dX11_run_391 lf_11_437 (Or.inl rfl) (s_78 hst) (by decide) rfl ?_
    obtain ⟨h3, eh3⟩ : ∃ z : qM, z = qup h2 78 52 (h2 78 66) := ⟨_, rfl⟩
    rw [← eh3]
    have H := H h3 eh3
    refine ev_aload_n 395 rfl dX11_run_394 rfl rfl ?_
    refine ev_getI (ki := 51) 398 rfl dX11_run_395 lf_11_434 (Or.inl rfl) (s_78 hst) (by decide) rfl ?_
    exact ev_retI dX11_run_398 rfl H
  · have H := H.2 cd
    refine ev_aload_n 332 rfl dX11_run_331 rfl rfl ?_
    refine ev_getR (ki := 55) (v := 106) 335 rfl dX11_run_332 lf_11_120 (s_78 hst) (by decide) rfl (p_78_55 hst) ?_
    refine ev_iload_n 336 rfl dX11_run_335 rfl rfl ?_
    refine ev_aload_n 337 rfl dX11_run_336 rfl rfl ?_
    refine ev_getR (ki := 58) (v := 109) 340 rfl dX11_run_337 lf_11_129 (s_78 hst) (by decide) rfl (p_78_58 hst) ?_
    refine ev_iload_n 341 rfl dX11_run_340 rfl rfl ?_
    obtain ⟨b4, H⟩ := H
    refine ev_iaload 342 rfl dX11_run_341 (s_109 hst) b4.1 b4.2 ?_
    obtain ⟨b5, H⟩ := H
    refine ev_iastore 343 rfl dX11_run_342 (s_106 hst) b5.1 b5.2 ?_
    obtain ⟨h6, eh6⟩ : ∃ z : qM, z = qup h 106 v3 (h 109 v3) := ⟨_, rfl⟩
    rw [← eh6]
    have H := H h6 eh6
    refine ev_aload_n 344 rfl dX11_run_343 rfl rfl ?_
    refine ev_getR (ki := 56) (v := 107) 347 rfl dX11_run_344 lf_11_123 (s_78 hst) (by decide) rfl (p_78_56 hst) ?_
    refine ev_iload_n 348 rfl dX11_run_347 rfl rfl ?_
    refine ev_aload_n 349 rfl dX11_run_348 rfl rfl ?_
    refine ev_getR (ki := 59) (v := 110) 352 rfl dX11_run_349 lf_11_132 (s_78 hst) (by decide) rfl (p_78_59 hst) ?_
    refine ev_iload_n 353 rfl dX11_run_352 rfl rfl ?_
    obtain ⟨b7, H⟩ := H
    refine ev_iaload 354 rfl dX11_run_353 (s_110 hst) b7.1 b7.2 ?_
    obtain ⟨b8, H⟩ := H
    refine ev_iastore 355 rfl dX11_run_354 (s_107 hst) b8.1 b8.2 ?_
    obtain ⟨h9, eh9⟩ : ∃ z : qM, z = qup h6 107 v3 (h6 110 v3) := ⟨_, rfl⟩
    rw [← eh9]
    have H := H h9 eh9
    refine ev_aload_n 356 rfl dX11_run_355 rfl rfl ?_
    refine ev_getR (ki := 57) (v := 108) 359 rfl dX11_run_356 lf_11_126 (s_78 hst) (by decide) rfl (p_78_57 hst) ?_
    refine ev_iload_n 360 rfl dX11_run_359 rfl rfl ?_
    refine ev_aload_n 361 rfl dX11_run_360 rfl rfl ?_
    refine ev_getR (ki := 60) (v := 111) 364 rfl dX11_run_361 lf_11_135 (s_78 hst) (by decide) rfl (p_78_60 hst) ?_
    refine ev_iload_n 365 rfl dX11_run_364 rfl rfl ?_
    obtain ⟨b10, H⟩ := H
    refine ev_iaload 366 rfl dX11_run_365 (s_111 hst) b10.1 b10.2 ?_
    obtain ⟨b11, H⟩ := H
    refine ev_iastore 367 rfl dX11_run_366 (s_108 hst) b11.1 b11.2 ?_
    obtain ⟨h12, eh12⟩ : ∃ z : qM, z = qup h9 108 v3 (h9 111 v3) := ⟨_, rfl⟩
    rw [← eh12]
    have H := H h12 eh12
    obtain ⟨sd, H⟩ := H
    refine ev_iinc (L1 := [(2, 78), (8, -1), (0, v2), (0, (v3 + 1)), (8, -1)]) 370 rfl dX11_run_367 rfl sd (Nat.le_of_ble_eq_true rfl) rfl ?_
    refine ev_goto (tgt := 324) dX11_run_370 (by decide) ?_
    exact H

set_option maxRecDepth 20000 in
theorem b_X11_run_238 {X : qX} {d : Nat} {sh : qS} {pt h : qM} {K : Int → qM → Prop} {v1 v2 v3 v4 : Int} (hst : St sh pt)
    (H : (((h 78 62) ≤ v4 → (qI (v3 + 1)) ∧ EvI X (d + 1) mX11_run 98 [(2, 78), (0, v1), (0, v2), (0, (v3 + 1)), (8, -1)] [] sh pt h K) ∧ (v4 < (h 78 62) → ((¬ (h 78 67) = 0 → (qI (v3 + 1)) ∧ EvI X (d + 1) mX11_run 98 [(2, 78), (0, v1), (0, v2), (0, (v3 + 1)), (8, -1)] [] sh pt h K) ∧ ((h 78 67) = 0 → (0 ≤ v4 ∧ v4 < 20) ∧ RunV X d mX11_stays [(2, 78), (0, (h 112 v4)), (0, (h 78 63))] sh pt h (fun h2 => (qI (v4 + 1)) ∧ EvI X (d + 1) mX11_run 238 [(2, 78), (0, v1), (0, v2), (0, v3), (0, (v4 + 1))] [] sh pt h2 K)))))) :
    EvI X (d + 1) mX11_run 238 [(2, 78), (0, v1), (0, v2), (0, v3), (0, v4)] [] sh pt h K := by
  show Ev X (d + 1) 0 0 mX11_run 238 [(2, 78), (0, v1), (0, v2), (0, v3), (0, v4)] [] (sh, pt, h) (qRI sh pt K)
  refine ev_iload 240 rfl dX11_run_238 rfl ?_
  refine ev_aload_n 241 rfl dX11_run_240 rfl rfl ?_
  refine ev_getI (ki := 62) 244 rfl dX11_run_241 lf_11_400 (Or.inl rfl) (s_78 hst) (by decide) rfl ?_
  refine ev_icmp_ge (tgt := 275) 247 rfl dX11_run_244 (by decide) (fun cd => ?_) (fun cd => ?_)
  · have H := H.1 cd
    obtain ⟨sd, H⟩ := H
    refine ev_iinc (L1 := [(2, 78), (0, v1), (0, v2), (0, (v3 + 1)), (0, v4)]) 278 rfl dX11_run_275 rfl sd (Nat.le_of_ble_eq_true rfl) rfl ?_
    refine ev_goto (tgt := 98) dX11_run_278 (by decide) ?_
    refine Ev.drop [4] rfl ?_
    exact H
  · have H := H.2 cd
    refine ev_aload_n 248 rfl dX11_run_247 rfl rfl ?_
    refine ev_getI (ki := 67) 251 rfl dX11_run_248 lf_11_374 (Or.inl rfl) (s_78 hst) (by decide) rfl ?_
    refine ev_if_ne (tgt := 275) 254 rfl dX11_run_251 (by decide) (fun cd => ?_) (fun cd => ?_)
    · have H := H.1 cd
      obtain ⟨sd, H⟩ := H
      refine ev_iinc (L1 := [(2, 78), (0, v1), (0, v2), (0, (v3 + 1)), (0, v4)]) 278 rfl dX11_run_275 rfl sd (Nat.le_of_ble_eq_true rfl) rfl ?_
      refine ev_goto (tgt := 98) dX11_run_278 (by decide) ?_
      refine Ev.drop [4] rfl ?_
      exact H
    · have H := H.2 cd
      refine ev_aload_n 255 rfl dX11_run_254 rfl rfl ?_
      refine ev_aload_n 256 rfl dX11_run_255 rfl rfl ?_
      refine ev_getR (ki := 61) (v := 112) 259 rfl dX11_run_256 lf_11_138 (s_78 hst) (by decide) rfl (p_78_61 hst) ?_
      refine ev_iload 261 rfl dX11_run_259 rfl ?_
      obtain ⟨b1, H⟩ := H
      refine ev_iaload 262 rfl dX11_run_261 (s_112 hst) b1.1 b1.2 ?_
      refine ev_aload_n 263 rfl dX11_run_262 rfl rfl ?_
      refine ev_getI (ki := 63) 266 rfl dX11_run_263 lf_11_403 (Or.inl rfl) (s_78 hst) (by decide) rfl ?_
      refine ev_cVV (As := [(0, (h 112 v4)), (0, (h 78 63))]) (rest := []) 269 rfl dX11_run_266 lm_11_428 mm_X11_stays (s_78 hst) rfl rfl (Nat.le_of_ble_eq_true rfl) (Nat.le_of_ble_eq_true rfl) (Nat.le_refl _) H ?_
      intro h2 H
      obtain ⟨sd, H⟩ := H
      refine ev_iinc (L1 := [(2, 78), (0, v1), (0, v2), (0, v3), (0, (v4 + 1))]) 272 rfl dX11_run_269 rfl sd (Nat.le_of_ble_eq_true rfl) rfl ?_
      refine ev_goto (tgt := 238) dX11_run_272 (by decide) ?_
      exact H

set_option maxRecDepth 20000 in
theorem b_X11_error {X : qX} {d : Nat} {sh : qS} {pt h : qM} {K : Int → qM → Prop} {v1 : Int} (hst : St sh pt)
    (H : ∀ h1 : qM, h1 = qup h 78 1 0 → ((¬ v1 = 0 → ((¬ v1 = 1 → K (-1) h1) ∧ (v1 = 1 → K (h1 78 54) h1))) ∧ (v1 = 0 → K (h1 78 53) h1))) :
    RunI X d mX11_error [(2, 78), (0, v1)] sh pt h K := by
  show Ev X d 0 0 mX11_error 0 [(2, 78), (0, v1)] [] (sh, pt, h) (qRI sh pt K)
  refine ev_aload_n 1 rfl dX11_error_0 rfl rfl ?_
  refine ev_iconst 2 rfl dX11_error_1 (by decide) ?_
  refine ev_putI (ki := 1) 5 rfl dX11_error_2 lf_11_213 (Or.inl rfl) (s_78 hst) (by decide) rfl ?_
  obtain ⟨h1, eh1⟩ : ∃ z : qM, z = qup h 78 1 0 := ⟨_, rfl⟩
  rw [← eh1]
  have H := H h1 eh1
  refine ev_iload_n 6 rfl dX11_error_5 rfl rfl ?_
  refine ev_if_ne (tgt := 16) 9 rfl dX11_error_6 (by decide) (fun cd => ?_) (fun cd => ?_)
  · have H := H.1 cd
    refine ev_iload_n 17 rfl dX11_error_16 rfl rfl ?_
    refine ev_iconst 18 rfl dX11_error_17 (by decide) ?_
    refine ev_icmp_ne (tgt := 28) 21 rfl dX11_error_18 (by decide) (fun cd => ?_) (fun cd => ?_)
    · have H := H.1 cd
      refine ev_iconst 29 rfl dX11_error_28 (by decide) ?_
      exact ev_retI dX11_error_29 rfl H
    · have H := H.2 cd
      refine ev_aload_n 22 rfl dX11_error_21 rfl rfl ?_
      refine ev_getI (ki := 54) 25 rfl dX11_error_22 lf_11_117 (Or.inl rfl) (s_78 hst) (by decide) rfl ?_
      refine ev_goto (tgt := 29) dX11_error_25 (by decide) ?_
      exact ev_retI dX11_error_29 rfl H
  · have H := H.2 cd
    refine ev_aload_n 10 rfl dX11_error_9 rfl rfl ?_
    refine ev_getI (ki := 53) 13 rfl dX11_error_10 lf_11_114 (Or.inl rfl) (s_78 hst) (by decide) rfl ?_
    refine ev_goto (tgt := 29) dX11_error_13 (by decide) ?_
    exact ev_retI dX11_error_29 rfl H

set_option maxRecDepth 20000 in
theorem b_X11_isCount {X : qX} {d : Nat} {sh : qS} {pt h : qM} {K : Int → qM → Prop} {v1 : Int} (hst : St sh pt)
    (H : RunI X d mX11_isIn [(1, v1), (1, 0), (1, (h 78 51))] sh pt h (fun r2 h1 => (0 ≤ r2 ∧ r2 ≤ 1) ∧ K r2 h1)) :
    RunI X (d + 1) mX11_isCount [(2, 78), (0, v1)] sh pt h K := by
  show Ev X (d + 1) 0 0 mX11_isCount 0 [(2, 78), (0, v1)] [] (sh, pt, h) (qRI sh pt K)
  refine ev_iload_n 1 rfl dX11_isCount_0 rfl rfl ?_
  refine ev_i2l 2 rfl dX11_isCount_1 ?_
  refine ev_lconst (v := 0) 3 rfl dX11_isCount_2 (by decide) (by decide) ?_
  refine ev_aload_n 4 rfl dX11_isCount_3 rfl rfl ?_
  refine ev_getI (ki := 51) 7 rfl dX11_isCount_4 lf_11_434 (Or.inl rfl) (s_78 hst) (by decide) rfl ?_
  refine ev_i2l 8 rfl dX11_isCount_7 ?_
  refine ev_cSI (As := [(1, v1), (1, 0), (1, (h 78 51))]) (rest := []) 11 rfl dX11_isCount_8 lm_11_221 mm_X11_isIn rfl rfl (Nat.le_of_ble_eq_true rfl) (Nat.le_of_ble_eq_true rfl) (Nat.le_refl _) H ?_
  intro r2 h1 H
  obtain ⟨sd, H⟩ := H
  exact ev_retZ dX11_isCount_11 rfl sd H

set_option maxRecDepth 20000 in
theorem b_X11_at {X : qX} {d : Nat} {sh : qS} {pt h : qM} {K : Int → qM → Prop} {v1 v2 v3 : Int} (hst : St sh pt)
    (H : ∀ h1 : qM, h1 = qup h 78 1 0 → ∀ h2 : qM, h2 = qup h1 78 0 0 → ((0 ≤ (h2 78 50) → RunI X d mX11_isCount [(2, 78), (0, v1)] sh pt h2 (fun r4 h3 => ((r4 = 0 → RunI X d mX11_refuse [(2, 78), (0, 2)] sh pt h3 (fun r6 h5 => K r6 h5)) ∧ (¬ r4 = 0 → (qI ((h3 78 50) - 1)) ∧ RunI X d mX11_isIn [(1, v2), (1, 0), (1, ((h3 78 50) - 1))] sh pt h3 (fun r8 h7 => ((¬ r8 = 0 → ((¬ v3 = 0 → ((¬ v3 = 1 → ((¬ v3 = 2 → RunI X d mX11_refuse [(2, 78), (0, 5)] sh pt h7 (fun r10 h9 => K r10 h9)) ∧ (v3 = 2 → RunI X d mX11_cell [(0, v1), (0, v2)] sh pt h7 (fun r12 h11 => (0 ≤ r12 ∧ r12 < 3020) ∧ K (h11 108 r12) h11)))) ∧ (v3 = 1 → RunI X d mX11_cell [(0, v1), (0, v2)] sh pt h7 (fun r15 h14 => (0 ≤ r15 ∧ r15 < 3020) ∧ K (h14 107 r15) h14)))) ∧ (v3 = 0 → RunI X d mX11_cell [(0, v1), (0, v2)] sh pt h7 (fun r18 h17 => (0 ≤ r18 ∧ r18 < 3020) ∧ K (h17 106 r18) h17)))) ∧ (r8 = 0 → RunI X d mX11_refuse [(2, 78), (0, 2)] sh pt h7 (fun r21 h20 => K r21 h20)))))))) ∧ ((h2 78 50) < 0 → RunI X d mX11_refuse [(2, 78), (0, 8)] sh pt h2 (fun r23 h22 => K r23 h22)))) :
    RunI X (d + 1) mX11_at [(2, 78), (0, v1), (0, v2), (0, v3)] sh pt h K := by
  show Ev X (d + 1) 0 0 mX11_at 0 [(2, 78), (0, v1), (0, v2), (0, v3)] [] (sh, pt, h) (qRI sh pt K)
  refine ev_aload_n 1 rfl dX11_at_0 rfl rfl ?_
  refine ev_iconst 2 rfl dX11_at_1 (by decide) ?_
  refine ev_putI (ki := 1) 5 rfl dX11_at_2 lf_11_213 (Or.inl rfl) (s_78 hst) (by decide) rfl ?_
  obtain ⟨h1, eh1⟩ : ∃ z : qM, z = qup h 78 1 0 := ⟨_, rfl⟩
  rw [← eh1]
  have H := H h1 eh1
  refine ev_aload_n 6 rfl dX11_at_5 rfl rfl ?_
  refine ev_iconst 7 rfl dX11_at_6 (by decide) ?_
  refine ev_putI (ki := 0) 10 rfl dX11_at_7 lf_11_216 (Or.inl rfl) (s_78 hst) (by decide) rfl ?_
  obtain ⟨h2, eh2⟩ : ∃ z : qM, z = qup h1 78 0 0 := ⟨_, rfl⟩
  rw [← eh2]
  have H := H h2 eh2
  refine ev_aload_n 11 rfl dX11_at_10 rfl rfl ?_
  refine ev_getI (ki := 50) 14 rfl dX11_at_11 lf_11_111 (Or.inl rfl) (s_78 hst) (by decide) rfl ?_
  refine ev_if_ge (tgt := 24) 17 rfl dX11_at_14 (by decide) (fun cd => ?_) (fun cd => ?_)
  · have H := H.1 cd
    refine ev_aload_n 25 rfl dX11_at_24 rfl rfl ?_
    refine ev_iload_n 26 rfl dX11_at_25 rfl rfl ?_
    refine ev_cVI (As := [(0, v1)]) (rest := []) 29 rfl dX11_at_26 lm_11_440 mm_X11_isCount (s_78 hst) rfl rfl (Nat.le_of_ble_eq_true rfl) (Nat.le_of_ble_eq_true rfl) (Nat.le_refl _) H ?_
    intro r4 h3 H
    refine ev_if_eq (tgt := 48) 32 rfl dX11_at_29 (by decide) (fun cd => ?_) (fun cd => ?_)
    · have H := H.1 cd
      refine ev_aload_n 49 rfl dX11_at_48 rfl rfl ?_
      refine ev_iconst 50 rfl dX11_at_49 (by decide) ?_
      refine ev_cVI (As := [(0, 2)]) (rest := []) 53 rfl dX11_at_50 lm_11_254 mm_X11_refuse (s_78 hst) rfl rfl (Nat.le_of_ble_eq_true rfl) (Nat.le_of_ble_eq_true rfl) (Nat.le_refl _) H ?_
      intro r6 h5 H
      exact ev_retI dX11_at_53 rfl H
    · have H := H.2 cd
      refine ev_iload_n 33 rfl dX11_at_32 rfl rfl ?_
      refine ev_i2l 34 rfl dX11_at_33 ?_
      refine ev_lconst (v := 0) 35 rfl dX11_at_34 (by decide) (by decide) ?_
      refine ev_aload_n 36 rfl dX11_at_35 rfl rfl ?_
      refine ev_getI (ki := 50) 39 rfl dX11_at_36 lf_11_111 (Or.inl rfl) (s_78 hst) (by decide) rfl ?_
      refine ev_iconst 40 rfl dX11_at_39 (by decide) ?_
      obtain ⟨sd, H⟩ := H
      refine ev_isub 41 rfl dX11_at_40 sd ?_
      refine ev_i2l 42 rfl dX11_at_41 ?_
      refine ev_cSI (As := [(1, v2), (1, 0), (1, ((h3 78 50) - 1))]) (rest := []) 45 rfl dX11_at_42 lm_11_221 mm_X11_isIn rfl rfl (Nat.le_of_ble_eq_true rfl) (Nat.le_of_ble_eq_true rfl) (Nat.le_refl _) H ?_
      intro r8 h7 H
      refine ev_if_ne (tgt := 54) 48 rfl dX11_at_45 (by decide) (fun cd => ?_) (fun cd => ?_)
      · have H := H.1 cd
        refine ev_iload_n 55 rfl dX11_at_54 rfl rfl ?_
        refine ev_if_ne (tgt := 71) 58 rfl dX11_at_55 (by decide) (fun cd => ?_) (fun cd => ?_)
        · have H := H.1 cd
          refine ev_iload_n 72 rfl dX11_at_71 rfl rfl ?_
          refine ev_iconst 73 rfl dX11_at_72 (by decide) ?_
          refine ev_icmp_ne (tgt := 89) 76 rfl dX11_at_73 (by decide) (fun cd => ?_) (fun cd => ?_)
          · have H := H.1 cd
            refine ev_iload_n 90 rfl dX11_at_89 rfl rfl ?_
            refine ev_iconst 91 rfl dX11_at_90 (by decide) ?_
            refine ev_icmp_ne (tgt := 107) 94 rfl dX11_at_91 (by decide) (fun cd => ?_) (fun cd => ?_)
            · have H := H.1 cd
              refine ev_aload_n 108 rfl dX11_at_107 rfl rfl ?_
              refine ev_iconst 109 rfl dX11_at_108 (by decide) ?_
              refine ev_cVI (As := [(0, 5)]) (rest := []) 112 rfl dX11_at_109 lm_11_254 mm_X11_refuse (s_78 hst) rfl rfl (Nat.le_of_ble_eq_true rfl) (Nat.le_of_ble_eq_true rfl) (Nat.le_refl _) H ?_
              intro r10 h9 H
              exact ev_retI dX11_at_112 rfl H
            · have H := H.2 cd
              refine ev_aload_n 95 rfl dX11_at_94 rfl rfl ?_
              refine ev_getR (ki := 57) (v := 108) 98 rfl dX11_at_95 lf_11_126 (s_78 hst) (by decide) rfl (p_78_57 hst) ?_
              refine ev_iload_n 99 rfl dX11_at_98 rfl rfl ?_
              refine ev_iload_n 100 rfl dX11_at_99 rfl rfl ?_
              refine ev_cSI (As := [(0, v1), (0, v2)]) (rest := [(2, 108)]) 103 rfl dX11_at_100 lm_11_405 mm_X11_cell rfl rfl (Nat.le_of_ble_eq_true rfl) (Nat.le_of_ble_eq_true rfl) (Nat.le_refl _) H ?_
              intro r12 h11 H
              obtain ⟨b13, H⟩ := H
              refine ev_iaload 104 rfl dX11_at_103 (s_108 hst) b13.1 b13.2 ?_
              refine ev_goto (tgt := 112) dX11_at_104 (by decide) ?_
              exact ev_retI dX11_at_112 rfl H
          · have H := H.2 cd
            refine ev_aload_n 77 rfl dX11_at_76 rfl rfl ?_
            refine ev_getR (ki := 56) (v := 107) 80 rfl dX11_at_77 lf_11_123 (s_78 hst) (by decide) rfl (p_78_56 hst) ?_
            refine ev_iload_n 81 rfl dX11_at_80 rfl rfl ?_
            refine ev_iload_n 82 rfl dX11_at_81 rfl rfl ?_
            refine ev_cSI (As := [(0, v1), (0, v2)]) (rest := [(2, 107)]) 85 rfl dX11_at_82 lm_11_405 mm_X11_cell rfl rfl (Nat.le_of_ble_eq_true rfl) (Nat.le_of_ble_eq_true rfl) (Nat.le_refl _) H ?_
            intro r15 h14 H
            obtain ⟨b16, H⟩ := H
            refine ev_iaload 86 rfl dX11_at_85 (s_107 hst) b16.1 b16.2 ?_
            refine ev_goto (tgt := 112) dX11_at_86 (by decide) ?_
            exact ev_retI dX11_at_112 rfl H
        · have H := H.2 cd
          refine ev_aload_n 59 rfl dX11_at_58 rfl rfl ?_
          refine ev_getR (ki := 55) (v := 106) 62 rfl dX11_at_59 lf_11_120 (s_78 hst) (by decide) rfl (p_78_55 hst) ?_
          refine ev_iload_n 63 rfl dX11_at_62 rfl rfl ?_
          refine ev_iload_n 64 rfl dX11_at_63 rfl rfl ?_
          refine ev_cSI (As := [(0, v1), (0, v2)]) (rest := [(2, 106)]) 67 rfl dX11_at_64 lm_11_405 mm_X11_cell rfl rfl (Nat.le_of_ble_eq_true rfl) (Nat.le_of_ble_eq_true rfl) (Nat.le_refl _) H ?_
          intro r18 h17 H
          obtain ⟨b19, H⟩ := H
          refine ev_iaload 68 rfl dX11_at_67 (s_106 hst) b19.1 b19.2 ?_
          refine ev_goto (tgt := 112) dX11_at_68 (by decide) ?_
          exact ev_retI dX11_at_112 rfl H
      · have H := H.2 cd
        refine ev_aload_n 49 rfl dX11_at_48 rfl rfl ?_
        refine ev_iconst 50 rfl dX11_at_49 (by decide) ?_
        refine ev_cVI (As := [(0, 2)]) (rest := []) 53 rfl dX11_at_50 lm_11_254 mm_X11_refuse (s_78 hst) rfl rfl (Nat.le_of_ble_eq_true rfl) (Nat.le_of_ble_eq_true rfl) (Nat.le_refl _) H ?_
        intro r21 h20 H
        exact ev_retI dX11_at_53 rfl H
  · have H := H.2 cd
    refine ev_aload_n 18 rfl dX11_at_17 rfl rfl ?_
    refine ev_bipush 20 rfl dX11_at_18 (by decide) (by decide) ?_
    refine ev_cVI (As := [(0, 8)]) (rest := []) 23 rfl dX11_at_20 lm_11_254 mm_X11_refuse (s_78 hst) rfl rfl (Nat.le_of_ble_eq_true rfl) (Nat.le_of_ble_eq_true rfl) (Nat.le_refl _) H ?_
    intro r23 h22 H
    exact ev_retI dX11_at_23 rfl H

set_option maxRecDepth 20000 in
theorem b_X11_areOn {X : qX} {d : Nat} {sh : qS} {pt h : qM} {K : Int → qM → Prop} {v1 v2 v3 v4 : Int} (hst : St sh pt)
    (H : RunI X d mX11_cell [(0, v1), (0, v2)] sh pt h (fun r2 h1 => (0 ≤ r2 ∧ r2 < 3020) ∧ RunI X d mX11_cell [(0, v3), (0, v4)] sh pt h1 (fun r5 h4 => (0 ≤ r5 ∧ r5 < 3020) ∧ ((¬ (h1 106 r2) = (h4 106 r5) → K 0 h4) ∧ ((h1 106 r2) = (h4 106 r5) → RunI X d mX11_cell [(0, v1), (0, v2)] sh pt h4 (fun r8 h7 => (0 ≤ r8 ∧ r8 < 3020) ∧ RunI X d mX11_cell [(0, v3), (0, v4)] sh pt h7 (fun r11 h10 => (0 ≤ r11 ∧ r11 < 3020) ∧ ((¬ (h7 107 r8) = (h10 107 r11) → K 0 h10) ∧ ((h7 107 r8) = (h10 107 r11) → K 1 h10))))))))) :
    RunI X (d + 1) mX11_areOn [(2, 78), (0, v1), (0, v2), (0, v3), (0, v4)] sh pt h K := by
  show Ev X (d + 1) 0 0 mX11_areOn 0 [(2, 78), (0, v1), (0, v2), (0, v3), (0, v4)] [] (sh, pt, h) (qRI sh pt K)
  refine ev_aload_n 1 rfl dX11_areOn_0 rfl rfl ?_
  refine ev_getR (ki := 55) (v := 106) 4 rfl dX11_areOn_1 lf_11_120 (s_78 hst) (by decide) rfl (p_78_55 hst) ?_
  refine ev_iload_n 5 rfl dX11_areOn_4 rfl rfl ?_
  refine ev_iload_n 6 rfl dX11_areOn_5 rfl rfl ?_
  refine ev_cSI (As := [(0, v1), (0, v2)]) (rest := [(2, 106)]) 9 rfl dX11_areOn_6 lm_11_405 mm_X11_cell rfl rfl (Nat.le_of_ble_eq_true rfl) (Nat.le_of_ble_eq_true rfl) (Nat.le_refl _) H ?_
  intro r2 h1 H
  obtain ⟨b3, H⟩ := H
  refine ev_iaload 10 rfl dX11_areOn_9 (s_106 hst) b3.1 b3.2 ?_
  refine ev_aload_n 11 rfl dX11_areOn_10 rfl rfl ?_
  refine ev_getR (ki := 55) (v := 106) 14 rfl dX11_areOn_11 lf_11_120 (s_78 hst) (by decide) rfl (p_78_55 hst) ?_
  refine ev_iload_n 15 rfl dX11_areOn_14 rfl rfl ?_
  refine ev_iload 17 rfl dX11_areOn_15 rfl ?_
  refine ev_cSI (As := [(0, v3), (0, v4)]) (rest := [(2, 106), (0, (h1 106 r2))]) 20 rfl dX11_areOn_17 lm_11_405 mm_X11_cell rfl rfl (Nat.le_of_ble_eq_true rfl) (Nat.le_of_ble_eq_true rfl) (Nat.le_refl _) H ?_
  intro r5 h4 H
  obtain ⟨b6, H⟩ := H
  refine ev_iaload 21 rfl dX11_areOn_20 (s_106 hst) b6.1 b6.2 ?_
  refine ev_icmp_ne (tgt := 52) 24 rfl dX11_areOn_21 (by decide) (fun cd => ?_) (fun cd => ?_)
  · have H := H.1 cd
    refine ev_iconst 53 rfl dX11_areOn_52 (by decide) ?_
    exact ev_retZ dX11_areOn_53 rfl (by decide) H
  · have H := H.2 cd
    refine ev_aload_n 25 rfl dX11_areOn_24 rfl rfl ?_
    refine ev_getR (ki := 56) (v := 107) 28 rfl dX11_areOn_25 lf_11_123 (s_78 hst) (by decide) rfl (p_78_56 hst) ?_
    refine ev_iload_n 29 rfl dX11_areOn_28 rfl rfl ?_
    refine ev_iload_n 30 rfl dX11_areOn_29 rfl rfl ?_
    refine ev_cSI (As := [(0, v1), (0, v2)]) (rest := [(2, 107)]) 33 rfl dX11_areOn_30 lm_11_405 mm_X11_cell rfl rfl (Nat.le_of_ble_eq_true rfl) (Nat.le_of_ble_eq_true rfl) (Nat.le_refl _) H ?_
    intro r8 h7 H
    obtain ⟨b9, H⟩ := H
    refine ev_iaload 34 rfl dX11_areOn_33 (s_107 hst) b9.1 b9.2 ?_
    refine ev_aload_n 35 rfl dX11_areOn_34 rfl rfl ?_
    refine ev_getR (ki := 56) (v := 107) 38 rfl dX11_areOn_35 lf_11_123 (s_78 hst) (by decide) rfl (p_78_56 hst) ?_
    refine ev_iload_n 39 rfl dX11_areOn_38 rfl rfl ?_
    refine ev_iload 41 rfl dX11_areOn_39 rfl ?_
    refine ev_cSI (As := [(0, v3), (0, v4)]) (rest := [(2, 107), (0, (h7 107 r8))]) 44 rfl dX11_areOn_41 lm_11_405 mm_X11_cell rfl rfl (Nat.le_of_ble_eq_true rfl) (Nat.le_of_ble_eq_true rfl) (Nat.le_refl _) H ?_
    intro r11 h10 H
    obtain ⟨b12, H⟩ := H
    refine ev_iaload 45 rfl dX11_areOn_44 (s_107 hst) b12.1 b12.2 ?_
    refine ev_icmp_ne (tgt := 52) 48 rfl dX11_areOn_45 (by decide) (fun cd => ?_) (fun cd => ?_)
    · have H := H.1 cd
      refine ev_iconst 53 rfl dX11_areOn_52 (by decide) ?_
      exact ev_retZ dX11_areOn_53 rfl (by decide) H
    · have H := H.2 cd
      refine ev_iconst 49 rfl dX11_areOn_48 (by decide) ?_
      refine ev_goto (tgt := 53) dX11_areOn_49 (by decide) ?_
      exact ev_retZ dX11_areOn_53 rfl (by decide) H

set_option maxRecDepth 20000 in
theorem b_X11_clashes {X : qX} {d : Nat} {sh : qS} {pt h : qM} {K : Int → qM → Prop} {v1 v2 v3 : Int} (hst : St sh pt)
    (H : RunI X d mX11_areOn [(2, 78), (0, v1), (0, v2), (0, v1), (0, v3)] sh pt h (fun r2 h1 => ((r2 = 0 → ((v1 ≤ 0 → K 0 h1) ∧ (0 < v1 → (qI (v1 - 1)) ∧ RunI X d mX11_areOn [(2, 78), (0, v1), (0, v2), (0, (v1 - 1)), (0, v3)] sh pt h1 (fun r4 h3 => ((r4 = 0 → K 0 h3) ∧ (¬ r4 = 0 → (qI (v1 - 1)) ∧ RunI X d mX11_areOn [(2, 78), (0, v1), (0, v3), (0, (v1 - 1)), (0, v2)] sh pt h3 (fun r6 h5 => ((r6 = 0 → K 0 h5) ∧ (¬ r6 = 0 → K 1 h5))))))))) ∧ (¬ r2 = 0 → K 1 h1)))) :
    RunI X (d + 1) mX11_clashes [(2, 78), (0, v1), (0, v2), (0, v3)] sh pt h K := by
  show Ev X (d + 1) 0 0 mX11_clashes 0 [(2, 78), (0, v1), (0, v2), (0, v3)] [] (sh, pt, h) (qRI sh pt K)
  refine ev_aload_n 1 rfl dX11_clashes_0 rfl rfl ?_
  refine ev_iload_n 2 rfl dX11_clashes_1 rfl rfl ?_
  refine ev_iload_n 3 rfl dX11_clashes_2 rfl rfl ?_
  refine ev_iload_n 4 rfl dX11_clashes_3 rfl rfl ?_
  refine ev_iload_n 5 rfl dX11_clashes_4 rfl rfl ?_
  refine ev_cVI (As := [(0, v1), (0, v2), (0, v1), (0, v3)]) (rest := []) 8 rfl dX11_clashes_5 lm_11_443 mm_X11_areOn (s_78 hst) rfl rfl (Nat.le_of_ble_eq_true rfl) (Nat.le_of_ble_eq_true rfl) (Nat.le_refl _) H ?_
  intro r2 h1 H
  refine ev_if_eq (tgt := 13) 11 rfl dX11_clashes_8 (by decide) (fun cd => ?_) (fun cd => ?_)
  · have H := H.1 cd
    refine ev_iload_n 14 rfl dX11_clashes_13 rfl rfl ?_
    refine ev_if_le (tgt := 47) 17 rfl dX11_clashes_14 (by decide) (fun cd => ?_) (fun cd => ?_)
    · have H := H.1 cd
      refine ev_iconst 48 rfl dX11_clashes_47 (by decide) ?_
      exact ev_retZ dX11_clashes_48 rfl (by decide) H
    · have H := H.2 cd
      refine ev_aload_n 18 rfl dX11_clashes_17 rfl rfl ?_
      refine ev_iload_n 19 rfl dX11_clashes_18 rfl rfl ?_
      refine ev_iload_n 20 rfl dX11_clashes_19 rfl rfl ?_
      refine ev_iload_n 21 rfl dX11_clashes_20 rfl rfl ?_
      refine ev_iconst 22 rfl dX11_clashes_21 (by decide) ?_
      obtain ⟨sd, H⟩ := H
      refine ev_isub 23 rfl dX11_clashes_22 sd ?_
      refine ev_iload_n 24 rfl dX11_clashes_23 rfl rfl ?_
      refine ev_cVI (As := [(0, v1), (0, v2), (0, (v1 - 1)), (0, v3)]) (rest := []) 27 rfl dX11_clashes_24 lm_11_443 mm_X11_areOn (s_78 hst) rfl rfl (Nat.le_of_ble_eq_true rfl) (Nat.le_of_ble_eq_true rfl) (Nat.le_refl _) H ?_
      intro r4 h3 H
      refine ev_if_eq (tgt := 47) 30 rfl dX11_clashes_27 (by decide) (fun cd => ?_) (fun cd => ?_)
      · have H := H.1 cd
        refine ev_iconst 48 rfl dX11_clashes_47 (by decide) ?_
        exact ev_retZ dX11_clashes_48 rfl (by decide) H
      · have H := H.2 cd
        refine ev_aload_n 31 rfl dX11_clashes_30 rfl rfl ?_
        refine ev_iload_n 32 rfl dX11_clashes_31 rfl rfl ?_
        refine ev_iload_n 33 rfl dX11_clashes_32 rfl rfl ?_
        refine ev_iload_n 34 rfl dX11_clashes_33 rfl rfl ?_
        refine ev_iconst 35 rfl dX11_clashes_34 (by decide) ?_
        obtain ⟨sd, H⟩ := H
        refine ev_isub 36 rfl dX11_clashes_35 sd ?_
        refine ev_iload_n 37 rfl dX11_clashes_36 rfl rfl ?_
        refine ev_cVI (As := [(0, v1), (0, v3), (0, (v1 - 1)), (0, v2)]) (rest := []) 40 rfl dX11_clashes_37 lm_11_443 mm_X11_areOn (s_78 hst) rfl rfl (Nat.le_of_ble_eq_true rfl) (Nat.le_of_ble_eq_true rfl) (Nat.le_refl _) H ?_
        intro r6 h5 H
        refine ev_if_eq (tgt := 47) 43 rfl dX11_clashes_40 (by decide) (fun cd => ?_) (fun cd => ?_)
        · have H := H.1 cd
          refine ev_iconst 48 rfl dX11_clashes_47 (by decide) ?_
          exact ev_retZ dX11_clashes_48 rfl (by decide) H
        · have H := H.2 cd
          refine ev_iconst 44 rfl dX11_clashes_43 (by decide) ?_
          refine ev_goto (tgt := 48) dX11_clashes_44 (by decide) ?_
          exact ev_retZ dX11_clashes_48 rfl (by decide) H
  · have H := H.2 cd
    refine ev_iconst 12 rfl dX11_clashes_11 (by decide) ?_
    exact ev_retZ dX11_clashes_12 rfl (by decide) H

set_option maxRecDepth 20000 in
theorem b_X11_squareOf {X : qX} {d : Nat} {sh : qS} {pt h : qM} {K : Int → qM → Prop} {v1 v2 : Int} (hst : St sh pt)
    (H : RunI X d mX11_cell [(0, v1), (0, v2)] sh pt h (fun r2 h1 => (0 ≤ r2 ∧ r2 < 3020) ∧ (qI (v1 - 1)) ∧ RunI X d mX11_cell [(0, (v1 - 1)), (0, v2)] sh pt h1 (fun r5 h4 => (0 ≤ r5 ∧ r5 < 3020) ∧ (qI ((h1 106 r2) - (h4 106 r5))) ∧ ∀ x7 : Int, x7 = ((h1 106 r2) - (h4 106 r5)) → RunI X d mX11_cell [(0, v1), (0, v2)] sh pt h4 (fun r9 h8 => (0 ≤ r9 ∧ r9 < 3020) ∧ (qI (v1 - 1)) ∧ RunI X d mX11_cell [(0, (v1 - 1)), (0, v2)] sh pt h8 (fun r12 h11 => (0 ≤ r12 ∧ r12 < 3020) ∧ (qI ((h8 107 r9) - (h11 107 r12))) ∧ ∀ x14 : Int, x14 = ((h8 107 r9) - (h11 107 r12)) → (qI (x7 * x7)) ∧ (qI (x14 * x14)) ∧ (qI ((x7 * x7) + (x14 * x14))) ∧ K ((x7 * x7) + (x14 * x14)) h11))))) :
    RunI X (d + 1) mX11_squareOf [(2, 78), (0, v1), (0, v2)] sh pt h K := by
  show Ev X (d + 1) 0 0 mX11_squareOf 0 [(2, 78), (0, v1), (0, v2), (8, -1), (8, -1)] [] (sh, pt, h) (qRI sh pt K)
  refine ev_aload_n 1 rfl dX11_squareOf_0 rfl rfl ?_
  refine ev_getR (ki := 55) (v := 106) 4 rfl dX11_squareOf_1 lf_11_120 (s_78 hst) (by decide) rfl (p_78_55 hst) ?_
  refine ev_iload_n 5 rfl dX11_squareOf_4 rfl rfl ?_
  refine ev_iload_n 6 rfl dX11_squareOf_5 rfl rfl ?_
  refine ev_cSI (As := [(0, v1), (0, v2)]) (rest := [(2, 106)]) 9 rfl dX11_squareOf_6 lm_11_405 mm_X11_cell rfl rfl (Nat.le_of_ble_eq_true rfl) (Nat.le_of_ble_eq_true rfl) (Nat.le_refl _) H ?_
  intro r2 h1 H
  obtain ⟨b3, H⟩ := H
  refine ev_iaload 10 rfl dX11_squareOf_9 (s_106 hst) b3.1 b3.2 ?_
  refine ev_aload_n 11 rfl dX11_squareOf_10 rfl rfl ?_
  refine ev_getR (ki := 55) (v := 106) 14 rfl dX11_squareOf_11 lf_11_120 (s_78 hst) (by decide) rfl (p_78_55 hst) ?_
  refine ev_iload_n 15 rfl dX11_squareOf_14 rfl rfl ?_
  refine ev_iconst 16 rfl dX11_squareOf_15 (by decide) ?_
  obtain ⟨sd, H⟩ := H
  refine ev_isub 17 rfl dX11_squareOf_16 sd ?_
  refine ev_iload_n 18 rfl dX11_squareOf_17 rfl rfl ?_
  refine ev_cSI (As := [(0, (v1 - 1)), (0, v2)]) (rest := [(2, 106), (0, (h1 106 r2))]) 21 rfl dX11_squareOf_18 lm_11_405 mm_X11_cell rfl rfl (Nat.le_of_ble_eq_true rfl) (Nat.le_of_ble_eq_true rfl) (Nat.le_refl _) H ?_
  intro r5 h4 H
  obtain ⟨b6, H⟩ := H
  refine ev_iaload 22 rfl dX11_squareOf_21 (s_106 hst) b6.1 b6.2 ?_
  obtain ⟨sd, H⟩ := H
  refine ev_isub 23 rfl dX11_squareOf_22 sd ?_
  obtain ⟨x7, ex7⟩ : ∃ z : Int, z = ((h1 106 r2) - (h4 106 r5)) := ⟨_, rfl⟩
  rw [← ex7]
  have H := H x7 ex7
  refine ev_istore_n (L1 := [(2, 78), (0, v1), (0, v2), (0, x7), (8, -1)]) 24 rfl dX11_squareOf_23 rfl (Nat.le_of_ble_eq_true rfl) rfl ?_
  refine ev_aload_n 25 rfl dX11_squareOf_24 rfl rfl ?_
  refine ev_getR (ki := 56) (v := 107) 28 rfl dX11_squareOf_25 lf_11_123 (s_78 hst) (by decide) rfl (p_78_56 hst) ?_
  refine ev_iload_n 29 rfl dX11_squareOf_28 rfl rfl ?_
  refine ev_iload_n 30 rfl dX11_squareOf_29 rfl rfl ?_
  refine ev_cSI (As := [(0, v1), (0, v2)]) (rest := [(2, 107)]) 33 rfl dX11_squareOf_30 lm_11_405 mm_X11_cell rfl rfl (Nat.le_of_ble_eq_true rfl) (Nat.le_of_ble_eq_true rfl) (Nat.le_refl _) H ?_
  intro r9 h8 H
  obtain ⟨b10, H⟩ := H
  refine ev_iaload 34 rfl dX11_squareOf_33 (s_107 hst) b10.1 b10.2 ?_
  refine ev_aload_n 35 rfl dX11_squareOf_34 rfl rfl ?_
  refine ev_getR (ki := 56) (v := 107) 38 rfl dX11_squareOf_35 lf_11_123 (s_78 hst) (by decide) rfl (p_78_56 hst) ?_
  refine ev_iload_n 39 rfl dX11_squareOf_38 rfl rfl ?_
  refine ev_iconst 40 rfl dX11_squareOf_39 (by decide) ?_
  obtain ⟨sd, H⟩ := H
  refine ev_isub 41 rfl dX11_squareOf_40 sd ?_
  refine ev_iload_n 42 rfl dX11_squareOf_41 rfl rfl ?_
  refine ev_cSI (As := [(0, (v1 - 1)), (0, v2)]) (rest := [(2, 107), (0, (h8 107 r9))]) 45 rfl dX11_squareOf_42 lm_11_405 mm_X11_cell rfl rfl (Nat.le_of_ble_eq_true rfl) (Nat.le_of_ble_eq_true rfl) (Nat.le_refl _) H ?_
  intro r12 h11 H
  obtain ⟨b13, H⟩ := H
  refine ev_iaload 46 rfl dX11_squareOf_45 (s_107 hst) b13.1 b13.2 ?_
  obtain ⟨sd, H⟩ := H
  refine ev_isub 47 rfl dX11_squareOf_46 sd ?_
  obtain ⟨x14, ex14⟩ : ∃ z : Int, z = ((h8 107 r9) - (h11 107 r12)) := ⟨_, rfl⟩
  rw [← ex14]
  have H := H x14 ex14
  refine ev_istore (L1 := [(2, 78), (0, v1), (0, v2), (0, x7), (0, x14)]) 49 rfl dX11_squareOf_47 (Nat.le_of_ble_eq_true rfl) rfl ?_
  refine ev_iload_n 50 rfl dX11_squareOf_49 rfl rfl ?_
  refine ev_iload_n 51 rfl dX11_squareOf_50 rfl rfl ?_
  obtain ⟨sd, H⟩ := H
  refine ev_imul 52 rfl dX11_squareOf_51 sd ?_
  refine ev_iload 54 rfl dX11_squareOf_52 rfl ?_
  refine ev_iload 56 rfl dX11_squareOf_54 rfl ?_
  obtain ⟨sd, H⟩ := H
  refine ev_imul 57 rfl dX11_squareOf_56 sd ?_
  obtain ⟨sd, H⟩ := H
  refine ev_iadd 58 rfl dX11_squareOf_57 sd ?_
  exact ev_retI dX11_squareOf_58 rfl H

set_option maxRecDepth 20000 in
theorem b_X11_told {X : qX} {d : Nat} {sh : qS} {pt h : qM} {K : Int → qM → Prop} {v1 : Int} (hst : St sh pt)
    (H : ∀ h1 : qM, h1 = qup h 78 1 0 → ∀ h2 : qM, h2 = qup h1 78 0 0 → RunI X d mX11_isIn [(1, v1), (1, 0), (1, 4)] sh pt h2 (fun r4 h3 => ((¬ r4 = 0 → ((0 ≤ (h3 78 50) → ((¬ v1 = 3 → EvI X (d + 1) mX11_told 59 [(2, 78), (0, v1), (0, 0), (0, 0), (0, 0), (8, -1), (8, -1)] [] sh pt h3 K) ∧ (v1 = 3 → K (h3 78 52) h3))) ∧ ((h3 78 50) < 0 → RunI X d mX11_refuse [(2, 78), (0, 8)] sh pt h3 (fun r6 h5 => K r6 h5)))) ∧ (r4 = 0 → RunI X d mX11_refuse [(2, 78), (0, 5)] sh pt h3 (fun r8 h7 => K r8 h7))))) :
    RunI X (d + 1) mX11_told [(2, 78), (0, v1)] sh pt h K := by
  show Ev X (d + 1) 0 0 mX11_told 0 [(2, 78), (0, v1), (8, -1), (8, -1), (8, -1), (8, -1), (8, -1)] [] (sh, pt, h) (qRI sh pt K)
  refine ev_aload_n 1 rfl dX11_told_0 rfl rfl ?_
  refine ev_iconst 2 rfl dX11_told_1 (by decide) ?_
  refine ev_putI (ki := 1) 5 rfl dX11_told_2 lf_11_213 (Or.inl rfl) (s_78 hst) (by decide) rfl ?_
  obtain ⟨h1, eh1⟩ : ∃ z : qM, z = qup h 78 1 0 := ⟨_, rfl⟩
  rw [← eh1]
  have H := H h1 eh1
  refine ev_aload_n 6 rfl dX11_told_5 rfl rfl ?_
  refine ev_iconst 7 rfl dX11_told_6 (by decide) ?_
  refine ev_putI (ki := 0) 10 rfl dX11_told_7 lf_11_216 (Or.inl rfl) (s_78 hst) (by decide) rfl ?_
  obtain ⟨h2, eh2⟩ : ∃ z : qM, z = qup h1 78 0 0 := ⟨_, rfl⟩
  rw [← eh2]
  have H := H h2 eh2
  refine ev_iload_n 11 rfl dX11_told_10 rfl rfl ?_
  refine ev_i2l 12 rfl dX11_told_11 ?_
  refine ev_lconst (v := 0) 13 rfl dX11_told_12 (by decide) (by decide) ?_
  refine ev_ldc2 16 rfl dX11_told_13 kl_11_447 (by decide) ?_
  refine ev_cSI (As := [(1, v1), (1, 0), (1, 4)]) (rest := []) 19 rfl dX11_told_16 lm_11_221 mm_X11_isIn rfl rfl (Nat.le_of_ble_eq_true rfl) (Nat.le_of_ble_eq_true rfl) (Nat.le_refl _) H ?_
  intro r4 h3 H
  refine ev_if_ne (tgt := 28) 22 rfl dX11_told_19 (by decide) (fun cd => ?_) (fun cd => ?_)
  · have H := H.1 cd
    refine ev_aload_n 29 rfl dX11_told_28 rfl rfl ?_
    refine ev_getI (ki := 50) 32 rfl dX11_told_29 lf_11_111 (Or.inl rfl) (s_78 hst) (by decide) rfl ?_
    refine ev_if_ge (tgt := 42) 35 rfl dX11_told_32 (by decide) (fun cd => ?_) (fun cd => ?_)
    · have H := H.1 cd
      refine ev_iload_n 43 rfl dX11_told_42 rfl rfl ?_
      refine ev_iconst 44 rfl dX11_told_43 (by decide) ?_
      refine ev_icmp_ne (tgt := 52) 47 rfl dX11_told_44 (by decide) (fun cd => ?_) (fun cd => ?_)
      · have H := H.1 cd
        refine ev_iconst 53 rfl dX11_told_52 (by decide) ?_
        refine ev_istore_n (L1 := [(2, 78), (0, v1), (0, 0), (8, -1), (8, -1), (8, -1), (8, -1)]) 54 rfl dX11_told_53 rfl (Nat.le_of_ble_eq_true rfl) rfl ?_
        refine ev_iconst 55 rfl dX11_told_54 (by decide) ?_
        refine ev_istore_n (L1 := [(2, 78), (0, v1), (0, 0), (0, 0), (8, -1), (8, -1), (8, -1)]) 56 rfl dX11_told_55 rfl (Nat.le_of_ble_eq_true rfl) rfl ?_
        refine ev_iconst 57 rfl dX11_told_56 (by decide) ?_
        refine ev_istore (L1 := [(2, 78), (0, v1), (0, 0), (0, 0), (0, 0), (8, -1), (8, -1)]) 59 rfl dX11_told_57 (Nat.le_of_ble_eq_true rfl) rfl ?_
        exact H
      · have H := H.2 cd
        refine ev_aload_n 48 rfl dX11_told_47 rfl rfl ?_
        refine ev_getI (ki := 52) 51 rfl dX11_told_48 lf_11_437 (Or.inl rfl) (s_78 hst) (by decide) rfl ?_
        exact ev_retI dX11_told_51 rfl H
    · have H := H.2 cd
      refine ev_aload_n 36 rfl dX11_told_35 rfl rfl ?_
      refine ev_bipush 38 rfl dX11_told_36 (by decide) (by decide) ?_
      refine ev_cVI (As := [(0, 8)]) (rest := []) 41 rfl dX11_told_38 lm_11_254 mm_X11_refuse (s_78 hst) rfl rfl (Nat.le_of_ble_eq_true rfl) (Nat.le_of_ble_eq_true rfl) (Nat.le_refl _) H ?_
      intro r6 h5 H
      exact ev_retI dX11_told_41 rfl H
  · have H := H.2 cd
    refine ev_aload_n 23 rfl dX11_told_22 rfl rfl ?_
    refine ev_iconst 24 rfl dX11_told_23 (by decide) ?_
    refine ev_cVI (As := [(0, 5)]) (rest := []) 27 rfl dX11_told_24 lm_11_254 mm_X11_refuse (s_78 hst) rfl rfl (Nat.le_of_ble_eq_true rfl) (Nat.le_of_ble_eq_true rfl) (Nat.le_refl _) H ?_
    intro r8 h7 H
    exact ev_retI dX11_told_27 rfl H

set_option maxRecDepth 20000 in
theorem b_X11_told_59 {X : qX} {d : Nat} {sh : qS} {pt h : qM} {K : Int → qM → Prop} {v1 v2 v3 v4 : Int} (hst : St sh pt)
    (H : (((h 78 51) < v4 → ((¬ v1 = 4 → K v2 h) ∧ (v1 = 4 → K v3 h))) ∧ (v4 ≤ (h 78 51) → EvI X (d + 1) mX11_told 71 [(2, 78), (0, v1), (0, v2), (0, v3), (0, v4), (0, 0), (8, -1)] [] sh pt h K))) :
    EvI X (d + 1) mX11_told 59 [(2, 78), (0, v1), (0, v2), (0, v3), (0, v4), (8, -1), (8, -1)] [] sh pt h K := by
  show Ev X (d + 1) 0 0 mX11_told 59 [(2, 78), (0, v1), (0, v2), (0, v3), (0, v4), (8, -1), (8, -1)] [] (sh, pt, h) (qRI sh pt K)
  refine ev_iload 61 rfl dX11_told_59 rfl ?_
  refine ev_aload_n 62 rfl dX11_told_61 rfl rfl ?_
  refine ev_getI (ki := 51) 65 rfl dX11_told_62 lf_11_434 (Or.inl rfl) (s_78 hst) (by decide) rfl ?_
  refine ev_icmp_gt (tgt := 234) 68 rfl dX11_told_65 (by decide) (fun cd => ?_) (fun cd => ?_)
  · have H := H.1 cd
    refine ev_iload_n 235 rfl dX11_told_234 rfl rfl ?_
    refine ev_iconst 236 rfl dX11_told_235 (by decide) ?_
    refine ev_icmp_ne (tgt := 243) 239 rfl dX11_told_236 (by decide) (fun cd => ?_) (fun cd => ?_)
    · have H := H.1 cd
      refine ev_iload_n 244 rfl dX11_told_243 rfl rfl ?_
      exact ev_retI dX11_told_244 rfl H
    · have H := H.2 cd
      refine ev_iload_n 240 rfl dX11_told_239 rfl rfl ?_
      refine ev_goto (tgt := 244) dX11_told_240 (by decide) ?_
      exact ev_retI dX11_told_244 rfl H
  · have H := H.2 cd
    refine ev_iconst 69 rfl dX11_told_68 (by decide) ?_
    refine ev_istore (L1 := [(2, 78), (0, v1), (0, v2), (0, v3), (0, v4), (0, 0), (8, -1)]) 71 rfl dX11_told_69 (Nat.le_of_ble_eq_true rfl) rfl ?_
    exact H

set_option maxRecDepth 20000 in
theorem b_X11_told_71 {X : qX} {d : Nat} {sh : qS} {pt h : qM} {K : Int → qM → Prop} {v1 v2 v3 v4 v5 : Int} (hst : St sh pt)
    (H : (((h 78 50) ≤ v5 → (qI (v4 + 1)) ∧ EvI X (d + 1) mX11_told 59 [(2, 78), (0, v1), (0, v2), (0, v3), (0, (v4 + 1)), (8, -1), (8, -1)] [] sh pt h K) ∧ (v5 < (h 78 50) → ((¬ v1 = 0 → EvI X (d + 1) mX11_told 126 [(2, 78), (0, v1), (0, v2), (0, v3), (0, v4), (0, v5), (8, -1)] [] sh pt h K) ∧ (v1 = 0 → (qI (v5 + 1)) ∧ EvI X (d + 1) mX11_told 90 [(2, 78), (0, v1), (0, v2), (0, v3), (0, v4), (0, v5), (0, (v5 + 1))] [] sh pt h K))))) :
    EvI X (d + 1) mX11_told 71 [(2, 78), (0, v1), (0, v2), (0, v3), (0, v4), (0, v5), (8, -1)] [] sh pt h K := by
  show Ev X (d + 1) 0 0 mX11_told 71 [(2, 78), (0, v1), (0, v2), (0, v3), (0, v4), (0, v5), (8, -1)] [] (sh, pt, h) (qRI sh pt K)
  refine ev_iload 73 rfl dX11_told_71 rfl ?_
  refine ev_aload_n 74 rfl dX11_told_73 rfl rfl ?_
  refine ev_getI (ki := 50) 77 rfl dX11_told_74 lf_11_111 (Or.inl rfl) (s_78 hst) (by decide) rfl ?_
  refine ev_icmp_ge (tgt := 228) 80 rfl dX11_told_77 (by decide) (fun cd => ?_) (fun cd => ?_)
  · have H := H.1 cd
    obtain ⟨sd, H⟩ := H
    refine ev_iinc (L1 := [(2, 78), (0, v1), (0, v2), (0, v3), (0, (v4 + 1)), (0, v5), (8, -1)]) 231 rfl dX11_told_228 rfl sd (Nat.le_of_ble_eq_true rfl) rfl ?_
    refine ev_goto (tgt := 59) dX11_told_231 (by decide) ?_
    refine Ev.drop [5] rfl ?_
    exact H
  · have H := H.2 cd
    refine ev_iload_n 81 rfl dX11_told_80 rfl rfl ?_
    refine ev_if_ne (tgt := 126) 84 rfl dX11_told_81 (by decide) (fun cd => ?_) (fun cd => ?_)
    · have H := H.1 cd
      exact H
    · have H := H.2 cd
      refine ev_iload 86 rfl dX11_told_84 rfl ?_
      refine ev_iconst 87 rfl dX11_told_86 (by decide) ?_
      obtain ⟨sd, H⟩ := H
      refine ev_iadd 88 rfl dX11_told_87 sd ?_
      refine ev_istore (L1 := [(2, 78), (0, v1), (0, v2), (0, v3), (0, v4), (0, v5), (0, (v5 + 1))]) 90 rfl dX11_told_88 (Nat.le_of_ble_eq_true rfl) rfl ?_
      exact H

set_option maxRecDepth 20000 in
theorem b_X11_told_126 {X : qX} {d : Nat} {sh : qS} {pt h : qM} {K : Int → qM → Prop} {v1 v2 v3 v4 v5 : Int} (hst : St sh pt)
    (H : ((¬ v1 = 1 → EvI X (d + 1) mX11_told 175 [(2, 78), (0, v1), (0, v2), (0, v3), (0, v4), (0, v5), (8, -1)] [] sh pt h K) ∧ (v1 = 1 → RunI X d mX11_cell [(0, v4), (0, v5)] sh pt h (fun r2 h1 => (0 ≤ r2 ∧ r2 < 3020) ∧ (qI (40 * (h1 106 r2))) ∧ RunI X d mX11_cell [(0, v4), (0, v5)] sh pt h1 (fun r5 h4 => (0 ≤ r5 ∧ r5 < 3020) ∧ (qI ((40 * (h1 106 r2)) + (h4 107 r5))) ∧ (0 ≤ ((40 * (h1 106 r2)) + (h4 107 r5)) ∧ ((40 * (h1 106 r2)) + (h4 107 r5)) < 2400) ∧ (((h4 86 ((40 * (h1 106 r2)) + (h4 107 r5))) = 0 → (qI (v2 + 0)) ∧ EvI X (d + 1) mX11_told 175 [(2, 78), (0, v1), (0, (v2 + 0)), (0, v3), (0, v4), (0, v5), (8, -1)] [] sh pt h4 K) ∧ (¬ (h4 86 ((40 * (h1 106 r2)) + (h4 107 r5))) = 0 → (qI (v2 + 1)) ∧ EvI X (d + 1) mX11_told 175 [(2, 78), (0, v1), (0, (v2 + 1)), (0, v3), (0, v4), (0, v5), (8, -1)] [] sh pt h4 K))))))) :
    EvI X (d + 1) mX11_told 126 [(2, 78), (0, v1), (0, v2), (0, v3), (0, v4), (0, v5), (8, -1)] [] sh pt h K := by
  show Ev X (d + 1) 0 0 mX11_told 126 [(2, 78), (0, v1), (0, v2), (0, v3), (0, v4), (0, v5), (8, -1)] [] (sh, pt, h) (qRI sh pt K)
  refine ev_iload_n 127 rfl dX11_told_126 rfl rfl ?_
  refine ev_iconst 128 rfl dX11_told_127 (by decide) ?_
  refine ev_icmp_ne (tgt := 175) 131 rfl dX11_told_128 (by decide) (fun cd => ?_) (fun cd => ?_)
  · have H := H.1 cd
    exact H
  · have H := H.2 cd
    refine ev_iload_n 132 rfl dX11_told_131 rfl rfl ?_
    refine ev_aload_n 133 rfl dX11_told_132 rfl rfl ?_
    refine ev_getR (ki := 15) (v := 86) 136 rfl dX11_told_133 lf_11_40 (s_78 hst) (by decide) rfl (p_78_15 hst) ?_
    refine ev_bipush 138 rfl dX11_told_136 (by decide) (by decide) ?_
    refine ev_aload_n 139 rfl dX11_told_138 rfl rfl ?_
    refine ev_getR (ki := 55) (v := 106) 142 rfl dX11_told_139 lf_11_120 (s_78 hst) (by decide) rfl (p_78_55 hst) ?_
    refine ev_iload 144 rfl dX11_told_142 rfl ?_
    refine ev_iload 146 rfl dX11_told_144 rfl ?_
    refine ev_cSI (As := [(0, v4), (0, v5)]) (rest := [(2, 106), (0, 40), (2, 86), (0, v2)]) 149 rfl dX11_told_146 lm_11_405 mm_X11_cell rfl rfl (Nat.le_of_ble_eq_true rfl) (Nat.le_of_ble_eq_true rfl) (Nat.le_refl _) H ?_
    intro r2 h1 H
    obtain ⟨b3, H⟩ := H
    refine ev_iaload 150 rfl dX11_told_149 (s_106 hst) b3.1 b3.2 ?_
    obtain ⟨sd, H⟩ := H
    refine ev_imul 151 rfl dX11_told_150 sd ?_
    refine ev_aload_n 152 rfl dX11_told_151 rfl rfl ?_
    refine ev_getR (ki := 56) (v := 107) 155 rfl dX11_told_152 lf_11_123 (s_78 hst) (by decide) rfl (p_78_56 hst) ?_
    refine ev_iload 157 rfl dX11_told_155 rfl ?_
    refine ev_iload 159 rfl dX11_told_157 rfl ?_
    refine ev_cSI (As := [(0, v4), (0, v5)]) (rest := [(2, 107), (0, (40 * (h1 106 r2))), (2, 86), (0, v2)]) 162 rfl dX11_told_159 lm_11_405 mm_X11_cell rfl rfl (Nat.le_of_ble_eq_true rfl) (Nat.le_of_ble_eq_true rfl) (Nat.le_refl _) H ?_
    intro r5 h4 H
    obtain ⟨b6, H⟩ := H
    refine ev_iaload 163 rfl dX11_told_162 (s_107 hst) b6.1 b6.2 ?_
    obtain ⟨sd, H⟩ := H
    refine ev_iadd 164 rfl dX11_told_163 sd ?_
    obtain ⟨b7, H⟩ := H
    refine ev_zaload 165 rfl dX11_told_164 (s_86 hst) b7.1 b7.2 ?_
    refine ev_if_eq (tgt := 172) 168 rfl dX11_told_165 (by decide) (fun cd => ?_) (fun cd => ?_)
    · have H := H.1 cd
      refine ev_iconst 173 rfl dX11_told_172 (by decide) ?_
      obtain ⟨sd, H⟩ := H
      refine ev_iadd 174 rfl dX11_told_173 sd ?_
      refine ev_istore_n (L1 := [(2, 78), (0, v1), (0, (v2 + 0)), (0, v3), (0, v4), (0, v5), (8, -1)]) 175 rfl dX11_told_174 rfl (Nat.le_of_ble_eq_true rfl) rfl ?_
      exact H
    · have H := H.2 cd
      refine ev_iconst 169 rfl dX11_told_168 (by decide) ?_
      refine ev_goto (tgt := 173) dX11_told_169 (by decide) ?_
      obtain ⟨sd, H⟩ := H
      refine ev_iadd 174 rfl dX11_told_173 sd ?_
      refine ev_istore_n (L1 := [(2, 78), (0, v1), (0, (v2 + 1)), (0, v3), (0, v4), (0, v5), (8, -1)]) 175 rfl dX11_told_174 rfl (Nat.le_of_ble_eq_true rfl) rfl ?_
      exact H

set_option maxRecDepth 20000 in
theorem b_X11_told_90 {X : qX} {d : Nat} {sh : qS} {pt h : qM} {K : Int → qM → Prop} {v1 v2 v3 v4 v5 v6 : Int} (hst : St sh pt)
    (H : (((h 78 50) ≤ v6 → EvI X (d + 1) mX11_told 126 [(2, 78), (0, v1), (0, v2), (0, v3), (0, v4), (0, v5), (8, -1)] [] sh pt h K) ∧ (v6 < (h 78 50) → RunI X d mX11_clashes [(2, 78), (0, v4), (0, v5), (0, v6)] sh pt h (fun r2 h1 => ((r2 = 0 → (qI (v2 + 0)) ∧ (qI (v6 + 1)) ∧ EvI X (d + 1) mX11_told 90 [(2, 78), (0, v1), (0, (v2 + 0)), (0, v3), (0, v4), (0, v5), (0, (v6 + 1))] [] sh pt h1 K) ∧ (¬ r2 = 0 → (qI (v2 + 1)) ∧ (qI (v6 + 1)) ∧ EvI X (d + 1) mX11_told 90 [(2, 78), (0, v1), (0, (v2 + 1)), (0, v3), (0, v4), (0, v5), (0, (v6 + 1))] [] sh pt h1 K)))))) :
    EvI X (d + 1) mX11_told 90 [(2, 78), (0, v1), (0, v2), (0, v3), (0, v4), (0, v5), (0, v6)] [] sh pt h K := by
  show Ev X (d + 1) 0 0 mX11_told 90 [(2, 78), (0, v1), (0, v2), (0, v3), (0, v4), (0, v5), (0, v6)] [] (sh, pt, h) (qRI sh pt K)
  refine ev_iload 92 rfl dX11_told_90 rfl ?_
  refine ev_aload_n 93 rfl dX11_told_92 rfl rfl ?_
  refine ev_getI (ki := 50) 96 rfl dX11_told_93 lf_11_111 (Or.inl rfl) (s_78 hst) (by decide) rfl ?_
  refine ev_icmp_ge (tgt := 126) 99 rfl dX11_told_96 (by decide) (fun cd => ?_) (fun cd => ?_)
  · have H := H.1 cd
    refine Ev.drop [6] rfl ?_
    exact H
  · have H := H.2 cd
    refine ev_iload_n 100 rfl dX11_told_99 rfl rfl ?_
    refine ev_aload_n 101 rfl dX11_told_100 rfl rfl ?_
    refine ev_iload 103 rfl dX11_told_101 rfl ?_
    refine ev_iload 105 rfl dX11_told_103 rfl ?_
    refine ev_iload 107 rfl dX11_told_105 rfl ?_
    refine ev_cVI (As := [(0, v4), (0, v5), (0, v6)]) (rest := [(0, v2)]) 110 rfl dX11_told_107 lm_11_449 mm_X11_clashes (s_78 hst) rfl rfl (Nat.le_of_ble_eq_true rfl) (Nat.le_of_ble_eq_true rfl) (Nat.le_refl _) H ?_
    intro r2 h1 H
    refine ev_if_eq (tgt := 117) 113 rfl dX11_told_110 (by decide) (fun cd => ?_) (fun cd => ?_)
    · have H := H.1 cd
      refine ev_iconst 118 rfl dX11_told_117 (by decide) ?_
      obtain ⟨sd, H⟩ := H
      refine ev_iadd 119 rfl dX11_told_118 sd ?_
      refine ev_istore_n (L1 := [(2, 78), (0, v1), (0, (v2 + 0)), (0, v3), (0, v4), (0, v5), (0, v6)]) 120 rfl dX11_told_119 rfl (Nat.le_of_ble_eq_true rfl) rfl ?_
      obtain ⟨sd, H⟩ := H
      refine ev_iinc (L1 := [(2, 78), (0, v1), (0, (v2 + 0)), (0, v3), (0, v4), (0, v5), (0, (v6 + 1))]) 123 rfl dX11_told_120 rfl sd (Nat.le_of_ble_eq_true rfl) rfl ?_
      refine ev_goto (tgt := 90) dX11_told_123 (by decide) ?_
      exact H
    · have H := H.2 cd
      refine ev_iconst 114 rfl dX11_told_113 (by decide) ?_
      refine ev_goto (tgt := 118) dX11_told_114 (by decide) ?_
      obtain ⟨sd, H⟩ := H
      refine ev_iadd 119 rfl dX11_told_118 sd ?_
      refine ev_istore_n (L1 := [(2, 78), (0, v1), (0, (v2 + 1)), (0, v3), (0, v4), (0, v5), (0, v6)]) 120 rfl dX11_told_119 rfl (Nat.le_of_ble_eq_true rfl) rfl ?_
      obtain ⟨sd, H⟩ := H
      refine ev_iinc (L1 := [(2, 78), (0, v1), (0, (v2 + 1)), (0, v3), (0, v4), (0, v5), (0, (v6 + 1))]) 123 rfl dX11_told_120 rfl sd (Nat.le_of_ble_eq_true rfl) rfl ?_
      refine ev_goto (tgt := 90) dX11_told_123 (by decide) ?_
      exact H

set_option maxRecDepth 20000 in
theorem b_X11_told_175 {X : qX} {d : Nat} {sh : qS} {pt h : qM} {K : Int → qM → Prop} {v1 v2 v3 v4 v5 : Int} (hst : St sh pt)
    (H : ((v1 < 2 → (qI (v5 + 1)) ∧ EvI X (d + 1) mX11_told 71 [(2, 78), (0, v1), (0, v2), (0, v3), (0, v4), (0, (v5 + 1)), (8, -1)] [] sh pt h K) ∧ (2 ≤ v1 → ((¬ v4 = 0 → RunI X d mX11_squareOf [(2, 78), (0, v4), (0, v5)] sh pt h (fun r2 h1 => ((r2 ≤ (h1 78 10) → (qI (v2 + 0)) ∧ RunI X d mJ9_max_7cf53 [(0, v3), (0, r2)] sh pt h1 (fun r4 h3 => (qI (v5 + 1)) ∧ EvI X (d + 1) mX11_told 71 [(2, 78), (0, v1), (0, (v2 + 0)), (0, r4), (0, v4), (0, (v5 + 1)), (8, -1)] [] sh pt h3 K)) ∧ ((h1 78 10) < r2 → (qI (v2 + 1)) ∧ RunI X d mJ9_max_7cf53 [(0, v3), (0, r2)] sh pt h1 (fun r6 h5 => (qI (v5 + 1)) ∧ EvI X (d + 1) mX11_told 71 [(2, 78), (0, v1), (0, (v2 + 1)), (0, r6), (0, v4), (0, (v5 + 1)), (8, -1)] [] sh pt h5 K))))) ∧ (v4 = 0 → (qI (v5 + 1)) ∧ EvI X (d + 1) mX11_told 71 [(2, 78), (0, v1), (0, v2), (0, v3), (0, v4), (0, (v5 + 1)), (8, -1)] [] sh pt h K))))) :
    EvI X (d + 1) mX11_told 175 [(2, 78), (0, v1), (0, v2), (0, v3), (0, v4), (0, v5), (8, -1)] [] sh pt h K := by
  show Ev X (d + 1) 0 0 mX11_told 175 [(2, 78), (0, v1), (0, v2), (0, v3), (0, v4), (0, v5), (8, -1)] [] (sh, pt, h) (qRI sh pt K)
  refine ev_iload_n 176 rfl dX11_told_175 rfl rfl ?_
  refine ev_iconst 177 rfl dX11_told_176 (by decide) ?_
  refine ev_icmp_lt (tgt := 222) 180 rfl dX11_told_177 (by decide) (fun cd => ?_) (fun cd => ?_)
  · have H := H.1 cd
    obtain ⟨sd, H⟩ := H
    refine ev_iinc (L1 := [(2, 78), (0, v1), (0, v2), (0, v3), (0, v4), (0, (v5 + 1)), (8, -1)]) 225 rfl dX11_told_222 rfl sd (Nat.le_of_ble_eq_true rfl) rfl ?_
    refine ev_goto (tgt := 71) dX11_told_225 (by decide) ?_
    exact H
  · have H := H.2 cd
    refine ev_iload 182 rfl dX11_told_180 rfl ?_
    refine ev_if_ne (tgt := 188) 185 rfl dX11_told_182 (by decide) (fun cd => ?_) (fun cd => ?_)
    · have H := H.1 cd
      refine ev_aload_n 189 rfl dX11_told_188 rfl rfl ?_
      refine ev_iload 191 rfl dX11_told_189 rfl ?_
      refine ev_iload 193 rfl dX11_told_191 rfl ?_
      refine ev_cVI (As := [(0, v4), (0, v5)]) (rest := []) 196 rfl dX11_told_193 lm_11_453 mm_X11_squareOf (s_78 hst) rfl rfl (Nat.le_of_ble_eq_true rfl) (Nat.le_of_ble_eq_true rfl) (Nat.le_refl _) H ?_
      intro r2 h1 H
      refine ev_istore (L1 := [(2, 78), (0, v1), (0, v2), (0, v3), (0, v4), (0, v5), (0, r2)]) 198 rfl dX11_told_196 (Nat.le_of_ble_eq_true rfl) rfl ?_
      refine ev_iload_n 199 rfl dX11_told_198 rfl rfl ?_
      refine ev_iload 201 rfl dX11_told_199 rfl ?_
      refine ev_aload_n 202 rfl dX11_told_201 rfl rfl ?_
      refine ev_getI (ki := 10) 205 rfl dX11_told_202 lf_11_24 (Or.inl rfl) (s_78 hst) (by decide) rfl ?_
      refine ev_icmp_le (tgt := 212) 208 rfl dX11_told_205 (by decide) (fun cd => ?_) (fun cd => ?_)
      · have H := H.1 cd
        refine ev_iconst 213 rfl dX11_told_212 (by decide) ?_
        obtain ⟨sd, H⟩ := H
        refine ev_iadd 214 rfl dX11_told_213 sd ?_
        refine ev_istore_n (L1 := [(2, 78), (0, v1), (0, (v2 + 0)), (0, v3), (0, v4), (0, v5), (0, r2)]) 215 rfl dX11_told_214 rfl (Nat.le_of_ble_eq_true rfl) rfl ?_
        refine ev_iload_n 216 rfl dX11_told_215 rfl rfl ?_
        refine ev_iload 218 rfl dX11_told_216 rfl ?_
        refine ev_cSI (As := [(0, v3), (0, r2)]) (rest := []) 221 rfl dX11_told_218 lm_11_431 mm_J9_max_7cf53 rfl rfl (Nat.le_of_ble_eq_true rfl) (Nat.le_of_ble_eq_true rfl) (Nat.le_refl _) H ?_
        intro r4 h3 H
        refine ev_istore_n (L1 := [(2, 78), (0, v1), (0, (v2 + 0)), (0, r4), (0, v4), (0, v5), (0, r2)]) 222 rfl dX11_told_221 rfl (Nat.le_of_ble_eq_true rfl) rfl ?_
        obtain ⟨sd, H⟩ := H
        refine ev_iinc (L1 := [(2, 78), (0, v1), (0, (v2 + 0)), (0, r4), (0, v4), (0, (v5 + 1)), (0, r2)]) 225 rfl dX11_told_222 rfl sd (Nat.le_of_ble_eq_true rfl) rfl ?_
        refine ev_goto (tgt := 71) dX11_told_225 (by decide) ?_
        refine Ev.drop [6] rfl ?_
        exact H
      · have H := H.2 cd
        refine ev_iconst 209 rfl dX11_told_208 (by decide) ?_
        refine ev_goto (tgt := 213) dX11_told_209 (by decide) ?_
        obtain ⟨sd, H⟩ := H
        refine ev_iadd 214 rfl dX11_told_213 sd ?_
        refine ev_istore_n (L1 := [(2, 78), (0, v1), (0, (v2 + 1)), (0, v3), (0, v4), (0, v5), (0, r2)]) 215 rfl dX11_told_214 rfl (Nat.le_of_ble_eq_true rfl) rfl ?_
        refine ev_iload_n 216 rfl dX11_told_215 rfl rfl ?_
        refine ev_iload 218 rfl dX11_told_216 rfl ?_
        refine ev_cSI (As := [(0, v3), (0, r2)]) (rest := []) 221 rfl dX11_told_218 lm_11_431 mm_J9_max_7cf53 rfl rfl (Nat.le_of_ble_eq_true rfl) (Nat.le_of_ble_eq_true rfl) (Nat.le_refl _) H ?_
        intro r6 h5 H
        refine ev_istore_n (L1 := [(2, 78), (0, v1), (0, (v2 + 1)), (0, r6), (0, v4), (0, v5), (0, r2)]) 222 rfl dX11_told_221 rfl (Nat.le_of_ble_eq_true rfl) rfl ?_
        obtain ⟨sd, H⟩ := H
        refine ev_iinc (L1 := [(2, 78), (0, v1), (0, (v2 + 1)), (0, r6), (0, v4), (0, (v5 + 1)), (0, r2)]) 225 rfl dX11_told_222 rfl sd (Nat.le_of_ble_eq_true rfl) rfl ?_
        refine ev_goto (tgt := 71) dX11_told_225 (by decide) ?_
        refine Ev.drop [6] rfl ?_
        exact H
    · have H := H.2 cd
      refine ev_goto (tgt := 222) dX11_told_185 (by decide) ?_
      obtain ⟨sd, H⟩ := H
      refine ev_iinc (L1 := [(2, 78), (0, v1), (0, v2), (0, v3), (0, v4), (0, (v5 + 1)), (8, -1)]) 225 rfl dX11_told_222 rfl sd (Nat.le_of_ble_eq_true rfl) rfl ?_
      refine ev_goto (tgt := 71) dX11_told_225 (by decide) ?_
      exact H

set_option maxRecDepth 20000 in
theorem b_X11_clash {X : qX} {d : Nat} {sh : qS} {pt h : qM} {K : Int → qM → Prop} {v1 v2 : Int} (hst : St sh pt)
    (H : ∀ h1 : qM, h1 = qup h 78 1 0 → ∀ h2 : qM, h2 = qup h1 78 0 0 → RunI X d mX11_isIn [(1, v2), (1, 0), (1, 2)] sh pt h2 (fun r4 h3 => ((¬ r4 = 0 → ((0 ≤ (h3 78 50) → EvI X (d + 1) mX11_clash 47 [(2, 78), (0, v1), (0, v2), (0, 0), (0, 0), (8, -1), (8, -1)] [] sh pt h3 K) ∧ ((h3 78 50) < 0 → RunI X d mX11_refuse [(2, 78), (0, 8)] sh pt h3 (fun r6 h5 => K r6 h5)))) ∧ (r4 = 0 → RunI X d mX11_refuse [(2, 78), (0, 5)] sh pt h3 (fun r8 h7 => K r8 h7))))) :
    RunI X (d + 1) mX11_clash [(2, 78), (0, v1), (0, v2)] sh pt h K := by
  show Ev X (d + 1) 0 0 mX11_clash 0 [(2, 78), (0, v1), (0, v2), (8, -1), (8, -1), (8, -1), (8, -1)] [] (sh, pt, h) (qRI sh pt K)
  refine ev_aload_n 1 rfl dX11_clash_0 rfl rfl ?_
  refine ev_iconst 2 rfl dX11_clash_1 (by decide) ?_
  refine ev_putI (ki := 1) 5 rfl dX11_clash_2 lf_11_213 (Or.inl rfl) (s_78 hst) (by decide) rfl ?_
  obtain ⟨h1, eh1⟩ : ∃ z : qM, z = qup h 78 1 0 := ⟨_, rfl⟩
  rw [← eh1]
  have H := H h1 eh1
  refine ev_aload_n 6 rfl dX11_clash_5 rfl rfl ?_
  refine ev_iconst 7 rfl dX11_clash_6 (by decide) ?_
  refine ev_putI (ki := 0) 10 rfl dX11_clash_7 lf_11_216 (Or.inl rfl) (s_78 hst) (by decide) rfl ?_
  obtain ⟨h2, eh2⟩ : ∃ z : qM, z = qup h1 78 0 0 := ⟨_, rfl⟩
  rw [← eh2]
  have H := H h2 eh2
  refine ev_iload_n 11 rfl dX11_clash_10 rfl rfl ?_
  refine ev_i2l 12 rfl dX11_clash_11 ?_
  refine ev_lconst (v := 0) 13 rfl dX11_clash_12 (by decide) (by decide) ?_
  refine ev_ldc2 16 rfl dX11_clash_13 kl_11_456 (by decide) ?_
  refine ev_cSI (As := [(1, v2), (1, 0), (1, 2)]) (rest := []) 19 rfl dX11_clash_16 lm_11_221 mm_X11_isIn rfl rfl (Nat.le_of_ble_eq_true rfl) (Nat.le_of_ble_eq_true rfl) (Nat.le_refl _) H ?_
  intro r4 h3 H
  refine ev_if_ne (tgt := 28) 22 rfl dX11_clash_19 (by decide) (fun cd => ?_) (fun cd => ?_)
  · have H := H.1 cd
    refine ev_aload_n 29 rfl dX11_clash_28 rfl rfl ?_
    refine ev_getI (ki := 50) 32 rfl dX11_clash_29 lf_11_111 (Or.inl rfl) (s_78 hst) (by decide) rfl ?_
    refine ev_if_ge (tgt := 42) 35 rfl dX11_clash_32 (by decide) (fun cd => ?_) (fun cd => ?_)
    · have H := H.1 cd
      refine ev_iconst 43 rfl dX11_clash_42 (by decide) ?_
      refine ev_istore_n (L1 := [(2, 78), (0, v1), (0, v2), (0, 0), (8, -1), (8, -1), (8, -1)]) 44 rfl dX11_clash_43 rfl (Nat.le_of_ble_eq_true rfl) rfl ?_
      refine ev_iconst 45 rfl dX11_clash_44 (by decide) ?_
      refine ev_istore (L1 := [(2, 78), (0, v1), (0, v2), (0, 0), (0, 0), (8, -1), (8, -1)]) 47 rfl dX11_clash_45 (Nat.le_of_ble_eq_true rfl) rfl ?_
      exact H
    · have H := H.2 cd
      refine ev_aload_n 36 rfl dX11_clash_35 rfl rfl ?_
      refine ev_bipush 38 rfl dX11_clash_36 (by decide) (by decide) ?_
      refine ev_cVI (As := [(0, 8)]) (rest := []) 41 rfl dX11_clash_38 lm_11_254 mm_X11_refuse (s_78 hst) rfl rfl (Nat.le_of_ble_eq_true rfl) (Nat.le_of_ble_eq_true rfl) (Nat.le_refl _) H ?_
      intro r6 h5 H
      exact ev_retI dX11_clash_41 rfl H
  · have H := H.2 cd
    refine ev_aload_n 23 rfl dX11_clash_22 rfl rfl ?_
    refine ev_iconst 24 rfl dX11_clash_23 (by decide) ?_
    refine ev_cVI (As := [(0, 5)]) (rest := []) 27 rfl dX11_clash_24 lm_11_254 mm_X11_refuse (s_78 hst) rfl rfl (Nat.le_of_ble_eq_true rfl) (Nat.le_of_ble_eq_true rfl) (Nat.le_refl _) H ?_
    intro r8 h7 H
    exact ev_retI dX11_clash_27 rfl H

set_option maxRecDepth 20000 in
theorem b_X11_clash_47 {X : qX} {d : Nat} {sh : qS} {pt h : qM} {K : Int → qM → Prop} {v1 v2 v3 v4 : Int} (hst : St sh pt)
    (H : (((h 78 51) < v4 → RunI X d mX11_refuse [(2, 78), (0, 8)] sh pt h (fun r2 h1 => K r2 h1)) ∧ (v4 ≤ (h 78 51) → EvI X (d + 1) mX11_clash 59 [(2, 78), (0, v1), (0, v2), (0, v3), (0, v4), (0, 0), (8, -1)] [] sh pt h K))) :
    EvI X (d + 1) mX11_clash 47 [(2, 78), (0, v1), (0, v2), (0, v3), (0, v4), (8, -1), (8, -1)] [] sh pt h K := by
  show Ev X (d + 1) 0 0 mX11_clash 47 [(2, 78), (0, v1), (0, v2), (0, v3), (0, v4), (8, -1), (8, -1)] [] (sh, pt, h) (qRI sh pt K)
  refine ev_iload 49 rfl dX11_clash_47 rfl ?_
  refine ev_aload_n 50 rfl dX11_clash_49 rfl rfl ?_
  refine ev_getI (ki := 51) 53 rfl dX11_clash_50 lf_11_434 (Or.inl rfl) (s_78 hst) (by decide) rfl ?_
  refine ev_icmp_gt (tgt := 147) 56 rfl dX11_clash_53 (by decide) (fun cd => ?_) (fun cd => ?_)
  · have H := H.1 cd
    refine ev_aload_n 148 rfl dX11_clash_147 rfl rfl ?_
    refine ev_bipush 150 rfl dX11_clash_148 (by decide) (by decide) ?_
    refine ev_cVI (As := [(0, 8)]) (rest := []) 153 rfl dX11_clash_150 lm_11_254 mm_X11_refuse (s_78 hst) rfl rfl (Nat.le_of_ble_eq_true rfl) (Nat.le_of_ble_eq_true rfl) (Nat.le_refl _) H ?_
    intro r2 h1 H
    exact ev_retI dX11_clash_153 rfl H
  · have H := H.2 cd
    refine ev_iconst 57 rfl dX11_clash_56 (by decide) ?_
    refine ev_istore (L1 := [(2, 78), (0, v1), (0, v2), (0, v3), (0, v4), (0, 0), (8, -1)]) 59 rfl dX11_clash_57 (Nat.le_of_ble_eq_true rfl) rfl ?_
    exact H

set_option maxRecDepth 20000 in
theorem b_X11_clash_59 {X : qX} {d : Nat} {sh : qS} {pt h : qM} {K : Int → qM → Prop} {v1 v2 v3 v4 v5 : Int} (hst : St sh pt)
    (H : (((h 78 50) ≤ v5 → (qI (v4 + 1)) ∧ EvI X (d + 1) mX11_clash 47 [(2, 78), (0, v1), (0, v2), (0, v3), (0, (v4 + 1)), (8, -1), (8, -1)] [] sh pt h K) ∧ (v5 < (h 78 50) → (qI (v5 + 1)) ∧ EvI X (d + 1) mX11_clash 74 [(2, 78), (0, v1), (0, v2), (0, v3), (0, v4), (0, v5), (0, (v5 + 1))] [] sh pt h K))) :
    EvI X (d + 1) mX11_clash 59 [(2, 78), (0, v1), (0, v2), (0, v3), (0, v4), (0, v5), (8, -1)] [] sh pt h K := by
  show Ev X (d + 1) 0 0 mX11_clash 59 [(2, 78), (0, v1), (0, v2), (0, v3), (0, v4), (0, v5), (8, -1)] [] (sh, pt, h) (qRI sh pt K)
  refine ev_iload 61 rfl dX11_clash_59 rfl ?_
  refine ev_aload_n 62 rfl dX11_clash_61 rfl rfl ?_
  refine ev_getI (ki := 50) 65 rfl dX11_clash_62 lf_11_111 (Or.inl rfl) (s_78 hst) (by decide) rfl ?_
  refine ev_icmp_ge (tgt := 141) 68 rfl dX11_clash_65 (by decide) (fun cd => ?_) (fun cd => ?_)
  · have H := H.1 cd
    obtain ⟨sd, H⟩ := H
    refine ev_iinc (L1 := [(2, 78), (0, v1), (0, v2), (0, v3), (0, (v4 + 1)), (0, v5), (8, -1)]) 144 rfl dX11_clash_141 rfl sd (Nat.le_of_ble_eq_true rfl) rfl ?_
    refine ev_goto (tgt := 47) dX11_clash_144 (by decide) ?_
    refine Ev.drop [5] rfl ?_
    exact H
  · have H := H.2 cd
    refine ev_iload 70 rfl dX11_clash_68 rfl ?_
    refine ev_iconst 71 rfl dX11_clash_70 (by decide) ?_
    obtain ⟨sd, H⟩ := H
    refine ev_iadd 72 rfl dX11_clash_71 sd ?_
    refine ev_istore (L1 := [(2, 78), (0, v1), (0, v2), (0, v3), (0, v4), (0, v5), (0, (v5 + 1))]) 74 rfl dX11_clash_72 (Nat.le_of_ble_eq_true rfl) rfl ?_
    exact H

set_option maxRecDepth 20000 in
theorem b_X11_clash_74 {X : qX} {d : Nat} {sh : qS} {pt h : qM} {K : Int → qM → Prop} {v1 v2 v3 v4 v5 v6 : Int} (hst : St sh pt)
    (H : (((h 78 50) ≤ v6 → (qI (v5 + 1)) ∧ EvI X (d + 1) mX11_clash 59 [(2, 78), (0, v1), (0, v2), (0, v3), (0, v4), (0, (v5 + 1)), (8, -1)] [] sh pt h K) ∧ (v6 < (h 78 50) → RunI X d mX11_clashes [(2, 78), (0, v4), (0, v5), (0, v6)] sh pt h (fun r2 h1 => ((¬ r2 = 0 → ((¬ v3 = v1 → (qI (v3 + 1)) ∧ (qI (v6 + 1)) ∧ EvI X (d + 1) mX11_clash 74 [(2, 78), (0, v1), (0, v2), (0, (v3 + 1)), (0, v4), (0, v5), (0, (v6 + 1))] [] sh pt h1 K) ∧ (v3 = v1 → ((¬ v2 = 0 → ((¬ v2 = 1 → K v6 h1) ∧ (v2 = 1 → K v5 h1))) ∧ (v2 = 0 → K v4 h1))))) ∧ (r2 = 0 → (qI (v6 + 1)) ∧ EvI X (d + 1) mX11_clash 74 [(2, 78), (0, v1), (0, v2), (0, v3), (0, v4), (0, v5), (0, (v6 + 1))] [] sh pt h1 K)))))) :
    EvI X (d + 1) mX11_clash 74 [(2, 78), (0, v1), (0, v2), (0, v3), (0, v4), (0, v5), (0, v6)] [] sh pt h K := by
  show Ev X (d + 1) 0 0 mX11_clash 74 [(2, 78), (0, v1), (0, v2), (0, v3), (0, v4), (0, v5), (0, v6)] [] (sh, pt, h) (qRI sh pt K)
  refine ev_iload 76 rfl dX11_clash_74 rfl ?_
  refine ev_aload_n 77 rfl dX11_clash_76 rfl rfl ?_
  refine ev_getI (ki := 50) 80 rfl dX11_clash_77 lf_11_111 (Or.inl rfl) (s_78 hst) (by decide) rfl ?_
  refine ev_icmp_ge (tgt := 135) 83 rfl dX11_clash_80 (by decide) (fun cd => ?_) (fun cd => ?_)
  · have H := H.1 cd
    obtain ⟨sd, H⟩ := H
    refine ev_iinc (L1 := [(2, 78), (0, v1), (0, v2), (0, v3), (0, v4), (0, (v5 + 1)), (0, v6)]) 138 rfl dX11_clash_135 rfl sd (Nat.le_of_ble_eq_true rfl) rfl ?_
    refine ev_goto (tgt := 59) dX11_clash_138 (by decide) ?_
    refine Ev.drop [6] rfl ?_
    exact H
  · have H := H.2 cd
    refine ev_aload_n 84 rfl dX11_clash_83 rfl rfl ?_
    refine ev_iload 86 rfl dX11_clash_84 rfl ?_
    refine ev_iload 88 rfl dX11_clash_86 rfl ?_
    refine ev_iload 90 rfl dX11_clash_88 rfl ?_
    refine ev_cVI (As := [(0, v4), (0, v5), (0, v6)]) (rest := []) 93 rfl dX11_clash_90 lm_11_449 mm_X11_clashes (s_78 hst) rfl rfl (Nat.le_of_ble_eq_true rfl) (Nat.le_of_ble_eq_true rfl) (Nat.le_refl _) H ?_
    intro r2 h1 H
    refine ev_if_ne (tgt := 99) 96 rfl dX11_clash_93 (by decide) (fun cd => ?_) (fun cd => ?_)
    · have H := H.1 cd
      refine ev_iload_n 100 rfl dX11_clash_99 rfl rfl ?_
      refine ev_iload_n 101 rfl dX11_clash_100 rfl rfl ?_
      refine ev_icmp_ne (tgt := 126) 104 rfl dX11_clash_101 (by decide) (fun cd => ?_) (fun cd => ?_)
      · have H := H.1 cd
        obtain ⟨sd, H⟩ := H
        refine ev_iinc (L1 := [(2, 78), (0, v1), (0, v2), (0, (v3 + 1)), (0, v4), (0, v5), (0, v6)]) 129 rfl dX11_clash_126 rfl sd (Nat.le_of_ble_eq_true rfl) rfl ?_
        obtain ⟨sd, H⟩ := H
        refine ev_iinc (L1 := [(2, 78), (0, v1), (0, v2), (0, (v3 + 1)), (0, v4), (0, v5), (0, (v6 + 1))]) 132 rfl dX11_clash_129 rfl sd (Nat.le_of_ble_eq_true rfl) rfl ?_
        refine ev_goto (tgt := 74) dX11_clash_132 (by decide) ?_
        exact H
      · have H := H.2 cd
        refine ev_iload_n 105 rfl dX11_clash_104 rfl rfl ?_
        refine ev_if_ne (tgt := 113) 108 rfl dX11_clash_105 (by decide) (fun cd => ?_) (fun cd => ?_)
        · have H := H.1 cd
          refine ev_iload_n 114 rfl dX11_clash_113 rfl rfl ?_
          refine ev_iconst 115 rfl dX11_clash_114 (by decide) ?_
          refine ev_icmp_ne (tgt := 123) 118 rfl dX11_clash_115 (by decide) (fun cd => ?_) (fun cd => ?_)
          · have H := H.1 cd
            refine ev_iload 125 rfl dX11_clash_123 rfl ?_
            exact ev_retI dX11_clash_125 rfl H
          · have H := H.2 cd
            refine ev_iload 120 rfl dX11_clash_118 rfl ?_
            refine ev_goto (tgt := 125) dX11_clash_120 (by decide) ?_
            exact ev_retI dX11_clash_125 rfl H
        · have H := H.2 cd
          refine ev_iload 110 rfl dX11_clash_108 rfl ?_
          refine ev_goto (tgt := 125) dX11_clash_110 (by decide) ?_
          exact ev_retI dX11_clash_125 rfl H
    · have H := H.2 cd
      refine ev_goto (tgt := 129) dX11_clash_96 (by decide) ?_
      obtain ⟨sd, H⟩ := H
      refine ev_iinc (L1 := [(2, 78), (0, v1), (0, v2), (0, v3), (0, v4), (0, v5), (0, (v6 + 1))]) 132 rfl dX11_clash_129 rfl sd (Nat.le_of_ble_eq_true rfl) rfl ?_
      refine ev_goto (tgt := 74) dX11_clash_132 (by decide) ?_
      exact H

set_option maxRecDepth 20000 in
theorem b_X11_dressed {X : qX} {d : Nat} {sh : qS} {pt h : qM} {K : Int → qM → Prop} {v1 v2 : Int} (hst : St sh pt)
    (H : ∀ h1 : qM, h1 = qup h 78 1 0 → ∀ h2 : qM, h2 = qup h1 78 0 0 → ((0 ≤ (h2 78 50) → (qI ((h2 78 9) - 1)) ∧ RunI X d mX11_isIn [(1, v1), (1, 0), (1, ((h2 78 9) - 1))] sh pt h2 (fun r4 h3 => ((r4 = 0 → RunI X d mX11_refuse [(2, 78), (0, 2)] sh pt h3 (fun r6 h5 => K r6 h5)) ∧ (¬ r4 = 0 → RunI X d mX11_isCount [(2, 78), (0, v2)] sh pt h3 (fun r8 h7 => ((r8 = 0 → RunI X d mX11_refuse [(2, 78), (0, 2)] sh pt h7 (fun r10 h9 => K r10 h9)) ∧ (¬ r8 = 0 → (0 ≤ v1 ∧ v1 < 8) ∧ (((h7 85 v1) < (qishl 1 (h7 78 50)) → EvI X (d + 1) mX11_dressed 83 [(2, 78), (0, v1), (0, v2), (0, (-1)), (0, 0), (0, 0), (0, 0), (0, 0), (8, -1), (8, -1)] [] sh pt h7 K) ∧ ((qishl 1 (h7 78 50)) ≤ (h7 85 v1) → RunI X d mX11_refuse [(2, 78), (0, 2)] sh pt h7 (fun r13 h12 => K r13 h12)))))))))) ∧ ((h2 78 50) < 0 → RunI X d mX11_refuse [(2, 78), (0, 8)] sh pt h2 (fun r15 h14 => K r15 h14)))) :
    RunI X (d + 1) mX11_dressed [(2, 78), (0, v1), (0, v2)] sh pt h K := by
  show Ev X (d + 1) 0 0 mX11_dressed 0 [(2, 78), (0, v1), (0, v2), (8, -1), (8, -1), (8, -1), (8, -1), (8, -1), (8, -1), (8, -1)] [] (sh, pt, h) (qRI sh pt K)
  refine ev_aload_n 1 rfl dX11_dressed_0 rfl rfl ?_
  refine ev_iconst 2 rfl dX11_dressed_1 (by decide) ?_
  refine ev_putI (ki := 1) 5 rfl dX11_dressed_2 lf_11_213 (Or.inl rfl) (s_78 hst) (by decide) rfl ?_
  obtain ⟨h1, eh1⟩ : ∃ z : qM, z = qup h 78 1 0 := ⟨_, rfl⟩
  rw [← eh1]
  have H := H h1 eh1
  refine ev_aload_n 6 rfl dX11_dressed_5 rfl rfl ?_
  refine ev_iconst 7 rfl dX11_dressed_6 (by decide) ?_
  refine ev_putI (ki := 0) 10 rfl dX11_dressed_7 lf_11_216 (Or.inl rfl) (s_78 hst) (by decide) rfl ?_
  obtain ⟨h2, eh2⟩ : ∃ z : qM, z = qup h1 78 0 0 := ⟨_, rfl⟩
  rw [← eh2]
  have H := H h2 eh2
  refine ev_aload_n 11 rfl dX11_dressed_10 rfl rfl ?_
  refine ev_getI (ki := 50) 14 rfl dX11_dressed_11 lf_11_111 (Or.inl rfl) (s_78 hst) (by decide) rfl ?_
  refine ev_if_ge (tgt := 24) 17 rfl dX11_dressed_14 (by decide) (fun cd => ?_) (fun cd => ?_)
  · have H := H.1 cd
    refine ev_iload_n 25 rfl dX11_dressed_24 rfl rfl ?_
    refine ev_i2l 26 rfl dX11_dressed_25 ?_
    refine ev_lconst (v := 0) 27 rfl dX11_dressed_26 (by decide) (by decide) ?_
    refine ev_aload_n 28 rfl dX11_dressed_27 rfl rfl ?_
    refine ev_getI (ki := 9) 31 rfl dX11_dressed_28 lf_11_266 (Or.inl rfl) (s_78 hst) (by decide) rfl ?_
    refine ev_iconst 32 rfl dX11_dressed_31 (by decide) ?_
    obtain ⟨sd, H⟩ := H
    refine ev_isub 33 rfl dX11_dressed_32 sd ?_
    refine ev_i2l 34 rfl dX11_dressed_33 ?_
    refine ev_cSI (As := [(1, v1), (1, 0), (1, ((h2 78 9) - 1))]) (rest := []) 37 rfl dX11_dressed_34 lm_11_221 mm_X11_isIn rfl rfl (Nat.le_of_ble_eq_true rfl) (Nat.le_of_ble_eq_true rfl) (Nat.le_refl _) H ?_
    intro r4 h3 H
    refine ev_if_eq (tgt := 63) 40 rfl dX11_dressed_37 (by decide) (fun cd => ?_) (fun cd => ?_)
    · have H := H.1 cd
      refine ev_aload_n 64 rfl dX11_dressed_63 rfl rfl ?_
      refine ev_iconst 65 rfl dX11_dressed_64 (by decide) ?_
      refine ev_cVI (As := [(0, 2)]) (rest := []) 68 rfl dX11_dressed_65 lm_11_254 mm_X11_refuse (s_78 hst) rfl rfl (Nat.le_of_ble_eq_true rfl) (Nat.le_of_ble_eq_true rfl) (Nat.le_refl _) H ?_
      intro r6 h5 H
      exact ev_retI dX11_dressed_68 rfl H
    · have H := H.2 cd
      refine ev_aload_n 41 rfl dX11_dressed_40 rfl rfl ?_
      refine ev_iload_n 42 rfl dX11_dressed_41 rfl rfl ?_
      refine ev_cVI (As := [(0, v2)]) (rest := []) 45 rfl dX11_dressed_42 lm_11_440 mm_X11_isCount (s_78 hst) rfl rfl (Nat.le_of_ble_eq_true rfl) (Nat.le_of_ble_eq_true rfl) (Nat.le_refl _) H ?_
      intro r8 h7 H
      refine ev_if_eq (tgt := 63) 48 rfl dX11_dressed_45 (by decide) (fun cd => ?_) (fun cd => ?_)
      · have H := H.1 cd
        refine ev_aload_n 64 rfl dX11_dressed_63 rfl rfl ?_
        refine ev_iconst 65 rfl dX11_dressed_64 (by decide) ?_
        refine ev_cVI (As := [(0, 2)]) (rest := []) 68 rfl dX11_dressed_65 lm_11_254 mm_X11_refuse (s_78 hst) rfl rfl (Nat.le_of_ble_eq_true rfl) (Nat.le_of_ble_eq_true rfl) (Nat.le_refl _) H ?_
        intro r10 h9 H
        exact ev_retI dX11_dressed_68 rfl H
      · have H := H.2 cd
        refine ev_aload_n 49 rfl dX11_dressed_48 rfl rfl ?_
        refine ev_getR (ki := 14) (v := 85) 52 rfl dX11_dressed_49 lf_11_37 (s_78 hst) (by decide) rfl (p_78_14 hst) ?_
        refine ev_iload_n 53 rfl dX11_dressed_52 rfl rfl ?_
        obtain ⟨b11, H⟩ := H
        refine ev_iaload 54 rfl dX11_dressed_53 (s_85 hst) b11.1 b11.2 ?_
        refine ev_iconst 55 rfl dX11_dressed_54 (by decide) ?_
        refine ev_aload_n 56 rfl dX11_dressed_55 rfl rfl ?_
        refine ev_getI (ki := 50) 59 rfl dX11_dressed_56 lf_11_111 (Or.inl rfl) (s_78 hst) (by decide) rfl ?_
        refine ev_ishl 60 rfl dX11_dressed_59 ?_
        refine ev_icmp_lt (tgt := 69) 63 rfl dX11_dressed_60 (by decide) (fun cd => ?_) (fun cd => ?_)
        · have H := H.1 cd
          refine ev_iconst 70 rfl dX11_dressed_69 (by decide) ?_
          refine ev_istore_n (L1 := [(2, 78), (0, v1), (0, v2), (0, (-1)), (8, -1), (8, -1), (8, -1), (8, -1), (8, -1), (8, -1)]) 71 rfl dX11_dressed_70 rfl (Nat.le_of_ble_eq_true rfl) rfl ?_
          refine ev_iconst 72 rfl dX11_dressed_71 (by decide) ?_
          refine ev_istore (L1 := [(2, 78), (0, v1), (0, v2), (0, (-1)), (0, 0), (8, -1), (8, -1), (8, -1), (8, -1), (8, -1)]) 74 rfl dX11_dressed_72 (Nat.le_of_ble_eq_true rfl) rfl ?_
          refine ev_iconst 75 rfl dX11_dressed_74 (by decide) ?_
          refine ev_istore (L1 := [(2, 78), (0, v1), (0, v2), (0, (-1)), (0, 0), (0, 0), (8, -1), (8, -1), (8, -1), (8, -1)]) 77 rfl dX11_dressed_75 (Nat.le_of_ble_eq_true rfl) rfl ?_
          refine ev_iconst 78 rfl dX11_dressed_77 (by decide) ?_
          refine ev_istore (L1 := [(2, 78), (0, v1), (0, v2), (0, (-1)), (0, 0), (0, 0), (0, 0), (8, -1), (8, -1), (8, -1)]) 80 rfl dX11_dressed_78 (Nat.le_of_ble_eq_true rfl) rfl ?_
          refine ev_iconst 81 rfl dX11_dressed_80 (by decide) ?_
          refine ev_istore (L1 := [(2, 78), (0, v1), (0, v2), (0, (-1)), (0, 0), (0, 0), (0, 0), (0, 0), (8, -1), (8, -1)]) 83 rfl dX11_dressed_81 (Nat.le_of_ble_eq_true rfl) rfl ?_
          exact H
        · have H := H.2 cd
          refine ev_aload_n 64 rfl dX11_dressed_63 rfl rfl ?_
          refine ev_iconst 65 rfl dX11_dressed_64 (by decide) ?_
          refine ev_cVI (As := [(0, 2)]) (rest := []) 68 rfl dX11_dressed_65 lm_11_254 mm_X11_refuse (s_78 hst) rfl rfl (Nat.le_of_ble_eq_true rfl) (Nat.le_of_ble_eq_true rfl) (Nat.le_refl _) H ?_
          intro r13 h12 H
          exact ev_retI dX11_dressed_68 rfl H
  · have H := H.2 cd
    refine ev_aload_n 18 rfl dX11_dressed_17 rfl rfl ?_
    refine ev_bipush 20 rfl dX11_dressed_18 (by decide) (by decide) ?_
    refine ev_cVI (As := [(0, 8)]) (rest := []) 23 rfl dX11_dressed_20 lm_11_254 mm_X11_refuse (s_78 hst) rfl rfl (Nat.le_of_ble_eq_true rfl) (Nat.le_of_ble_eq_true rfl) (Nat.le_refl _) H ?_
    intro r15 h14 H
    exact ev_retI dX11_dressed_23 rfl H

set_option maxRecDepth 20000 in
theorem b_X11_dressed_83 {X : qX} {d : Nat} {sh : qS} {pt h : qM} {K : Int → qM → Prop} {v1 v2 v3 v4 v5 v6 v7 : Int} (hst : St sh pt)
    (H : (((h 78 50) ≤ v7 → K 1 h) ∧ (v7 < (h 78 50) → (0 ≤ v1 ∧ v1 < 8) ∧ ((¬ (qiand (qishr (h 85 v1) v7) 1) = 0 → ((v3 < 0 → (qI (v4 + 1)) ∧ (qI (v7 + 1)) ∧ EvI X (d + 1) mX11_dressed 83 [(2, 78), (0, v1), (0, v2), (0, v7), (0, (v4 + 1)), (0, v5), (0, v6), (0, (v7 + 1)), (8, -1), (8, -1)] [] sh pt h K) ∧ (0 ≤ v3 → RunI X d mX11_cell [(0, v2), (0, v7)] sh pt h (fun r3 h2 => (0 ≤ r3 ∧ r3 < 3020) ∧ RunI X d mX11_cell [(0, v2), (0, v3)] sh pt h2 (fun r6 h5 => (0 ≤ r6 ∧ r6 < 3020) ∧ (qI ((h2 106 r3) - (h5 106 r6))) ∧ ∀ x8 : Int, x8 = ((h2 106 r3) - (h5 106 r6)) → RunI X d mX11_cell [(0, v2), (0, v7)] sh pt h5 (fun r10 h9 => (0 ≤ r10 ∧ r10 < 3020) ∧ RunI X d mX11_cell [(0, v2), (0, v3)] sh pt h9 (fun r13 h12 => (0 ≤ r13 ∧ r13 < 3020) ∧ (qI ((h9 107 r10) - (h12 107 r13))) ∧ ∀ x15 : Int, x15 = ((h9 107 r10) - (h12 107 r13)) → ((v4 ≤ 1 → (qI (v4 + 1)) ∧ (qI (v7 + 1)) ∧ EvI X (d + 1) mX11_dressed 83 [(2, 78), (0, v1), (0, v2), (0, v7), (0, (v4 + 1)), (0, x8), (0, x15), (0, (v7 + 1)), (8, -1), (8, -1)] [] sh pt h12 K) ∧ (1 < v4 → ((¬ x8 = v5 → K 0 h12) ∧ (x8 = v5 → ((x15 = v6 → (qI (v4 + 1)) ∧ (qI (v7 + 1)) ∧ EvI X (d + 1) mX11_dressed 83 [(2, 78), (0, v1), (0, v2), (0, v7), (0, (v4 + 1)), (0, x8), (0, x15), (0, (v7 + 1)), (8, -1), (8, -1)] [] sh pt h12 K) ∧ (¬ x15 = v6 → K 0 h12))))))))))))) ∧ ((qiand (qishr (h 85 v1) v7) 1) = 0 → (qI (v7 + 1)) ∧ EvI X (d + 1) mX11_dressed 83 [(2, 78), (0, v1), (0, v2), (0, v3), (0, v4), (0, v5), (0, v6), (0, (v7 + 1)), (8, -1), (8, -1)] [] sh pt h K))))) :
    EvI X (d + 1) mX11_dressed 83 [(2, 78), (0, v1), (0, v2), (0, v3), (0, v4), (0, v5), (0, v6), (0, v7), (8, -1), (8, -1)] [] sh pt h K := by
  show Ev X (d + 1) 0 0 mX11_dressed 83 [(2, 78), (0, v1), (0, v2), (0, v3), (0, v4), (0, v5), (0, v6), (0, v7), (8, -1), (8, -1)] [] (sh, pt, h) (qRI sh pt K)
  refine ev_iload 85 rfl dX11_dressed_83 rfl ?_
  refine ev_aload_n 86 rfl dX11_dressed_85 rfl rfl ?_
  refine ev_getI (ki := 50) 89 rfl dX11_dressed_86 lf_11_111 (Or.inl rfl) (s_78 hst) (by decide) rfl ?_
  refine ev_icmp_ge (tgt := 203) 92 rfl dX11_dressed_89 (by decide) (fun cd => ?_) (fun cd => ?_)
  · have H := H.1 cd
    refine ev_iconst 204 rfl dX11_dressed_203 (by decide) ?_
    exact ev_retI dX11_dressed_204 rfl H
  · have H := H.2 cd
    refine ev_aload_n 93 rfl dX11_dressed_92 rfl rfl ?_
    refine ev_getR (ki := 14) (v := 85) 96 rfl dX11_dressed_93 lf_11_37 (s_78 hst) (by decide) rfl (p_78_14 hst) ?_
    refine ev_iload_n 97 rfl dX11_dressed_96 rfl rfl ?_
    obtain ⟨b1, H⟩ := H
    refine ev_iaload 98 rfl dX11_dressed_97 (s_85 hst) b1.1 b1.2 ?_
    refine ev_iload 100 rfl dX11_dressed_98 rfl ?_
    refine ev_ishr 101 rfl dX11_dressed_100 ?_
    refine ev_iconst 102 rfl dX11_dressed_101 (by decide) ?_
    refine ev_iand 103 rfl dX11_dressed_102 ?_
    refine ev_if_ne (tgt := 109) 106 rfl dX11_dressed_103 (by decide) (fun cd => ?_) (fun cd => ?_)
    · have H := H.1 cd
      refine ev_iload_n 110 rfl dX11_dressed_109 rfl rfl ?_
      refine ev_if_lt (tgt := 191) 113 rfl dX11_dressed_110 (by decide) (fun cd => ?_) (fun cd => ?_)
      · have H := H.1 cd
        refine ev_iload 193 rfl dX11_dressed_191 rfl ?_
        refine ev_istore_n (L1 := [(2, 78), (0, v1), (0, v2), (0, v7), (0, v4), (0, v5), (0, v6), (0, v7), (8, -1), (8, -1)]) 194 rfl dX11_dressed_193 rfl (Nat.le_of_ble_eq_true rfl) rfl ?_
        obtain ⟨sd, H⟩ := H
        refine ev_iinc (L1 := [(2, 78), (0, v1), (0, v2), (0, v7), (0, (v4 + 1)), (0, v5), (0, v6), (0, v7), (8, -1), (8, -1)]) 197 rfl dX11_dressed_194 rfl sd (Nat.le_of_ble_eq_true rfl) rfl ?_
        obtain ⟨sd, H⟩ := H
        refine ev_iinc (L1 := [(2, 78), (0, v1), (0, v2), (0, v7), (0, (v4 + 1)), (0, v5), (0, v6), (0, (v7 + 1)), (8, -1), (8, -1)]) 200 rfl dX11_dressed_197 rfl sd (Nat.le_of_ble_eq_true rfl) rfl ?_
        refine ev_goto (tgt := 83) dX11_dressed_200 (by decide) ?_
        exact H
      · have H := H.2 cd
        refine ev_aload_n 114 rfl dX11_dressed_113 rfl rfl ?_
        refine ev_getR (ki := 55) (v := 106) 117 rfl dX11_dressed_114 lf_11_120 (s_78 hst) (by decide) rfl (p_78_55 hst) ?_
        refine ev_iload_n 118 rfl dX11_dressed_117 rfl rfl ?_
        refine ev_iload 120 rfl dX11_dressed_118 rfl ?_
        refine ev_cSI (As := [(0, v2), (0, v7)]) (rest := [(2, 106)]) 123 rfl dX11_dressed_120 lm_11_405 mm_X11_cell rfl rfl (Nat.le_of_ble_eq_true rfl) (Nat.le_of_ble_eq_true rfl) (Nat.le_refl _) H ?_
        intro r3 h2 H
        obtain ⟨b4, H⟩ := H
        refine ev_iaload 124 rfl dX11_dressed_123 (s_106 hst) b4.1 b4.2 ?_
        refine ev_aload_n 125 rfl dX11_dressed_124 rfl rfl ?_
        refine ev_getR (ki := 55) (v := 106) 128 rfl dX11_dressed_125 lf_11_120 (s_78 hst) (by decide) rfl (p_78_55 hst) ?_
        refine ev_iload_n 129 rfl dX11_dressed_128 rfl rfl ?_
        refine ev_iload_n 130 rfl dX11_dressed_129 rfl rfl ?_
        refine ev_cSI (As := [(0, v2), (0, v3)]) (rest := [(2, 106), (0, (h2 106 r3))]) 133 rfl dX11_dressed_130 lm_11_405 mm_X11_cell rfl rfl (Nat.le_of_ble_eq_true rfl) (Nat.le_of_ble_eq_true rfl) (Nat.le_refl _) H ?_
        intro r6 h5 H
        obtain ⟨b7, H⟩ := H
        refine ev_iaload 134 rfl dX11_dressed_133 (s_106 hst) b7.1 b7.2 ?_
        obtain ⟨sd, H⟩ := H
        refine ev_isub 135 rfl dX11_dressed_134 sd ?_
        obtain ⟨x8, ex8⟩ : ∃ z : Int, z = ((h2 106 r3) - (h5 106 r6)) := ⟨_, rfl⟩
        rw [← ex8]
        have H := H x8 ex8
        refine ev_istore (L1 := [(2, 78), (0, v1), (0, v2), (0, v3), (0, v4), (0, v5), (0, v6), (0, v7), (0, x8), (8, -1)]) 137 rfl dX11_dressed_135 (Nat.le_of_ble_eq_true rfl) rfl ?_
        refine ev_aload_n 138 rfl dX11_dressed_137 rfl rfl ?_
        refine ev_getR (ki := 56) (v := 107) 141 rfl dX11_dressed_138 lf_11_123 (s_78 hst) (by decide) rfl (p_78_56 hst) ?_
        refine ev_iload_n 142 rfl dX11_dressed_141 rfl rfl ?_
        refine ev_iload 144 rfl dX11_dressed_142 rfl ?_
        refine ev_cSI (As := [(0, v2), (0, v7)]) (rest := [(2, 107)]) 147 rfl dX11_dressed_144 lm_11_405 mm_X11_cell rfl rfl (Nat.le_of_ble_eq_true rfl) (Nat.le_of_ble_eq_true rfl) (Nat.le_refl _) H ?_
        intro r10 h9 H
        obtain ⟨b11, H⟩ := H
        refine ev_iaload 148 rfl dX11_dressed_147 (s_107 hst) b11.1 b11.2 ?_
        refine ev_aload_n 149 rfl dX11_dressed_148 rfl rfl ?_
        refine ev_getR (ki := 56) (v := 107) 152 rfl dX11_dressed_149 lf_11_123 (s_78 hst) (by decide) rfl (p_78_56 hst) ?_
        refine ev_iload_n 153 rfl dX11_dressed_152 rfl rfl ?_
        refine ev_iload_n 154 rfl dX11_dressed_153 rfl rfl ?_
        refine ev_cSI (As := [(0, v2), (0, v3)]) (rest := [(2, 107), (0, (h9 107 r10))]) 157 rfl dX11_dressed_154 lm_11_405 mm_X11_cell rfl rfl (Nat.le_of_ble_eq_true rfl) (Nat.le_of_ble_eq_true rfl) (Nat.le_refl _) H ?_
        intro r13 h12 H
        obtain ⟨b14, H⟩ := H
        refine ev_iaload 158 rfl dX11_dressed_157 (s_107 hst) b14.1 b14.2 ?_
        obtain ⟨sd, H⟩ := H
        refine ev_isub 159 rfl dX11_dressed_158 sd ?_
        obtain ⟨x15, ex15⟩ : ∃ z : Int, z = ((h9 107 r10) - (h12 107 r13)) := ⟨_, rfl⟩
        rw [← ex15]
        have H := H x15 ex15
        refine ev_istore (L1 := [(2, 78), (0, v1), (0, v2), (0, v3), (0, v4), (0, v5), (0, v6), (0, v7), (0, x8), (0, x15)]) 161 rfl dX11_dressed_159 (Nat.le_of_ble_eq_true rfl) rfl ?_
        refine ev_iload 163 rfl dX11_dressed_161 rfl ?_
        refine ev_iconst 164 rfl dX11_dressed_163 (by decide) ?_
        refine ev_icmp_le (tgt := 183) 167 rfl dX11_dressed_164 (by decide) (fun cd => ?_) (fun cd => ?_)
        · have H := H.1 cd
          refine ev_iload 185 rfl dX11_dressed_183 rfl ?_
          refine ev_istore (L1 := [(2, 78), (0, v1), (0, v2), (0, v3), (0, v4), (0, x8), (0, v6), (0, v7), (0, x8), (0, x15)]) 187 rfl dX11_dressed_185 (Nat.le_of_ble_eq_true rfl) rfl ?_
          refine ev_iload 189 rfl dX11_dressed_187 rfl ?_
          refine ev_istore (L1 := [(2, 78), (0, v1), (0, v2), (0, v3), (0, v4), (0, x8), (0, x15), (0, v7), (0, x8), (0, x15)]) 191 rfl dX11_dressed_189 (Nat.le_of_ble_eq_true rfl) rfl ?_
          refine ev_iload 193 rfl dX11_dressed_191 rfl ?_
          refine ev_istore_n (L1 := [(2, 78), (0, v1), (0, v2), (0, v7), (0, v4), (0, x8), (0, x15), (0, v7), (0, x8), (0, x15)]) 194 rfl dX11_dressed_193 rfl (Nat.le_of_ble_eq_true rfl) rfl ?_
          obtain ⟨sd, H⟩ := H
          refine ev_iinc (L1 := [(2, 78), (0, v1), (0, v2), (0, v7), (0, (v4 + 1)), (0, x8), (0, x15), (0, v7), (0, x8), (0, x15)]) 197 rfl dX11_dressed_194 rfl sd (Nat.le_of_ble_eq_true rfl) rfl ?_
          obtain ⟨sd, H⟩ := H
          refine ev_iinc (L1 := [(2, 78), (0, v1), (0, v2), (0, v7), (0, (v4 + 1)), (0, x8), (0, x15), (0, (v7 + 1)), (0, x8), (0, x15)]) 200 rfl dX11_dressed_197 rfl sd (Nat.le_of_ble_eq_true rfl) rfl ?_
          refine ev_goto (tgt := 83) dX11_dressed_200 (by decide) ?_
          refine Ev.drop [8, 9] rfl ?_
          exact H
        · have H := H.2 cd
          refine ev_iload 169 rfl dX11_dressed_167 rfl ?_
          refine ev_iload 171 rfl dX11_dressed_169 rfl ?_
          refine ev_icmp_ne (tgt := 181) 174 rfl dX11_dressed_171 (by decide) (fun cd => ?_) (fun cd => ?_)
          · have H := H.1 cd
            refine ev_iconst 182 rfl dX11_dressed_181 (by decide) ?_
            exact ev_retI dX11_dressed_182 rfl H
          · have H := H.2 cd
            refine ev_iload 176 rfl dX11_dressed_174 rfl ?_
            refine ev_iload 178 rfl dX11_dressed_176 rfl ?_
            refine ev_icmp_eq (tgt := 183) 181 rfl dX11_dressed_178 (by decide) (fun cd => ?_) (fun cd => ?_)
            · have H := H.1 cd
              refine ev_iload 185 rfl dX11_dressed_183 rfl ?_
              refine ev_istore (L1 := [(2, 78), (0, v1), (0, v2), (0, v3), (0, v4), (0, x8), (0, v6), (0, v7), (0, x8), (0, x15)]) 187 rfl dX11_dressed_185 (Nat.le_of_ble_eq_true rfl) rfl ?_
              refine ev_iload 189 rfl dX11_dressed_187 rfl ?_
              refine ev_istore (L1 := [(2, 78), (0, v1), (0, v2), (0, v3), (0, v4), (0, x8), (0, x15), (0, v7), (0, x8), (0, x15)]) 191 rfl dX11_dressed_189 (Nat.le_of_ble_eq_true rfl) rfl ?_
              refine ev_iload 193 rfl dX11_dressed_191 rfl ?_
              refine ev_istore_n (L1 := [(2, 78), (0, v1), (0, v2), (0, v7), (0, v4), (0, x8), (0, x15), (0, v7), (0, x8), (0, x15)]) 194 rfl dX11_dressed_193 rfl (Nat.le_of_ble_eq_true rfl) rfl ?_
              obtain ⟨sd, H⟩ := H
              refine ev_iinc (L1 := [(2, 78), (0, v1), (0, v2), (0, v7), (0, (v4 + 1)), (0, x8), (0, x15), (0, v7), (0, x8), (0, x15)]) 197 rfl dX11_dressed_194 rfl sd (Nat.le_of_ble_eq_true rfl) rfl ?_
              obtain ⟨sd, H⟩ := H
              refine ev_iinc (L1 := [(2, 78), (0, v1), (0, v2), (0, v7), (0, (v4 + 1)), (0, x8), (0, x15), (0, (v7 + 1)), (0, x8), (0, x15)]) 200 rfl dX11_dressed_197 rfl sd (Nat.le_of_ble_eq_true rfl) rfl ?_
              refine ev_goto (tgt := 83) dX11_dressed_200 (by decide) ?_
              refine Ev.drop [8, 9] rfl ?_
              exact H
            · have H := H.2 cd
              refine ev_iconst 182 rfl dX11_dressed_181 (by decide) ?_
              exact ev_retI dX11_dressed_182 rfl H
    · have H := H.2 cd
      refine ev_goto (tgt := 197) dX11_dressed_106 (by decide) ?_
      obtain ⟨sd, H⟩ := H
      refine ev_iinc (L1 := [(2, 78), (0, v1), (0, v2), (0, v3), (0, v4), (0, v5), (0, v6), (0, (v7 + 1)), (8, -1), (8, -1)]) 200 rfl dX11_dressed_197 rfl sd (Nat.le_of_ble_eq_true rfl) rfl ?_
      refine ev_goto (tgt := 83) dX11_dressed_200 (by decide) ?_
      exact H
