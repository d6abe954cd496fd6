/-! the law: a case at a time -/
section
variable {X : qX} {d rc rs mc ms : Nat} {sh : qS} {pt h : qM} {Q : Option qV → qG → Prop} {s : Int}
/-- where the loop stands -/
def lHd (X : qX) (s : Int) : Prop := 0 ≤ s ∧ s + 6 ≤ X.2.1 ∧ X.2.1 ≤ 3072
theorem qro_s : qro X (-2) = some (0, (X.2.1 : Int), X.2.2) := if_pos rfl
theorem lH_q {k : Int} (q : lHd X s) (a : 0 ≤ k) (b : k ≤ 5) : qI (s + k) := ⟨by have := q.1; omega, by have := q.2; omega⟩
theorem lH_0 {k : Int} (q : lHd X s) (a : 0 ≤ k) : 0 ≤ s + k := by have := q.1; omega
theorem lH_1 {k : Int} (q : lHd X s) (b : k ≤ 5) : s + k < X.2.1 := by have := q.2.1; omega
theorem lH_2 (q : lHd X s) : qI (s + 6) := ⟨by have := q.1; omega, by have := q.2; omega⟩
theorem l_status (hl : lHd X s) (hst : St sh pt) (H : Run X d mc ms mX10_status [(2, 0)] (sh, pt, h) (fun r g => ∃ v sh1 pt1 h1, r = some (0, v) ∧ g = (sh1, pt1, h1) ∧ St sh1 pt1 ∧ RunI X d mX11_status [(2, 78)] sh1 pt1 h1 (fun v1 h2 => v1 = v ∧ Ev X (d + 1) rc rs mL_law 1379 [(2, -2), (2, 0), (2, 78), (0, s)] [] (sh1, pt1, h2) Q))) : Ev X (d + 1) (rc + mc) (rs + ms) mL_law 184 [(2, -2), (2, 0), (2, 78), (0, s)] [] (sh, pt, h) Q := by
  refine ev_aload_n 185 rfl dL_law_184 rfl rfl ?_
  refine ev_callV (As := []) (rest := []) 188 rfl dL_law_185 lm_L_13 mm_X10_status (s_0 hst) rfl rfl (Nat.le_of_ble_eq_true rfl) (Nat.le_of_ble_eq_true rfl) (Nat.le_refl _) H ?_
  intro r g H
  obtain ⟨v, sh1, pt1, h1, e1, e2, hst, H⟩ := H
  subst e1
  subst e2
  refine ev_aload_n 189 rfl dL_law_188 rfl rfl ?_
  refine ev_cVI (As := []) (rest := [(0, v)]) 192 rfl dL_law_189 lm_L_17 mm_X11_status (s_78 hst) rfl rfl (Nat.le_of_ble_eq_true rfl) (Nat.le_of_ble_eq_true rfl) (Nat.le_refl _) H ?_
  intro v1 h2 H
  exact ev_icmp_eq (tgt := 1379) 195 rfl dL_law_192 (by decide) (fun _ => H.2) (fun c => absurd H.1.symm c)
theorem l_tray (hl : lHd X s) (hst : St sh pt) (H : Run X d mc ms mX10_tray [(2, 0), (0, X.2.2 (s + 1)), (0, X.2.2 (s + 2)), (0, X.2.2 (s + 3))] (sh, pt, h) (fun r g => ∃ v sh1 pt1 h1, r = some (0, v) ∧ g = (sh1, pt1, h1) ∧ St sh1 pt1 ∧ RunI X d mX11_tray [(2, 78), (0, X.2.2 (s + 1)), (0, X.2.2 (s + 2)), (0, X.2.2 (s + 3))] sh1 pt1 h1 (fun v1 h2 => v1 = v ∧ Ev X (d + 1) rc rs mL_law 1379 [(2, -2), (2, 0), (2, 78), (0, s)] [] (sh1, pt1, h2) Q))) : Ev X (d + 1) (rc + mc) (rs + ms) mL_law 197 [(2, -2), (2, 0), (2, 78), (0, s)] [] (sh, pt, h) Q := by
  refine ev_aload_n 198 rfl dL_law_197 rfl rfl ?_
  refine ev_aload_n 199 rfl dL_law_198 rfl rfl ?_
  refine ev_iload_n 200 rfl dL_law_199 rfl rfl ?_
  refine ev_iconst 201 rfl dL_law_200 (by decide) ?_
  refine ev_iadd 202 rfl dL_law_201 (lH_q hl (by decide) (by decide)) ?_
  refine ev_iaload_ro 203 rfl dL_law_202 qro_s (lH_0 hl (by decide)) (lH_1 hl (by decide)) ?_
  refine ev_aload_n 204 rfl dL_law_203 rfl rfl ?_
  refine ev_iload_n 205 rfl dL_law_204 rfl rfl ?_
  refine ev_iconst 206 rfl dL_law_205 (by decide) ?_
  refine ev_iadd 207 rfl dL_law_206 (lH_q hl (by decide) (by decide)) ?_
  refine ev_iaload_ro 208 rfl dL_law_207 qro_s (lH_0 hl (by decide)) (lH_1 hl (by decide)) ?_
  refine ev_aload_n 209 rfl dL_law_208 rfl rfl ?_
  refine ev_iload_n 210 rfl dL_law_209 rfl rfl ?_
  refine ev_iconst 211 rfl dL_law_210 (by decide) ?_
  refine ev_iadd 212 rfl dL_law_211 (lH_q hl (by decide) (by decide)) ?_
  refine ev_iaload_ro 213 rfl dL_law_212 qro_s (lH_0 hl (by decide)) (lH_1 hl (by decide)) ?_
  refine ev_callV (As := [(0, X.2.2 (s + 1)), (0, X.2.2 (s + 2)), (0, X.2.2 (s + 3))]) (rest := []) 216 rfl dL_law_213 lm_L_18 mm_X10_tray (s_0 hst) rfl rfl (Nat.le_of_ble_eq_true rfl) (Nat.le_of_ble_eq_true rfl) (Nat.le_refl _) H ?_
  intro r g H
  obtain ⟨v, sh1, pt1, h1, e1, e2, hst, H⟩ := H
  subst e1
  subst e2
  refine ev_aload_n 217 rfl dL_law_216 rfl rfl ?_
  refine ev_aload_n 218 rfl dL_law_217 rfl rfl ?_
  refine ev_iload_n 219 rfl dL_law_218 rfl rfl ?_
  refine ev_iconst 220 rfl dL_law_219 (by decide) ?_
  refine ev_iadd 221 rfl dL_law_220 (lH_q hl (by decide) (by decide)) ?_
  refine ev_iaload_ro 222 rfl dL_law_221 qro_s (lH_0 hl (by decide)) (lH_1 hl (by decide)) ?_
  refine ev_aload_n 223 rfl dL_law_222 rfl rfl ?_
  refine ev_iload_n 224 rfl dL_law_223 rfl rfl ?_
  refine ev_iconst 225 rfl dL_law_224 (by decide) ?_
  refine ev_iadd 226 rfl dL_law_225 (lH_q hl (by decide) (by decide)) ?_
  refine ev_iaload_ro 227 rfl dL_law_226 qro_s (lH_0 hl (by decide)) (lH_1 hl (by decide)) ?_
  refine ev_aload_n 228 rfl dL_law_227 rfl rfl ?_
  refine ev_iload_n 229 rfl dL_law_228 rfl rfl ?_
  refine ev_iconst 230 rfl dL_law_229 (by decide) ?_
  refine ev_iadd 231 rfl dL_law_230 (lH_q hl (by decide) (by decide)) ?_
  refine ev_iaload_ro 232 rfl dL_law_231 qro_s (lH_0 hl (by decide)) (lH_1 hl (by decide)) ?_
  refine ev_cVI (As := [(0, X.2.2 (s + 1)), (0, X.2.2 (s + 2)), (0, X.2.2 (s + 3))]) (rest := [(0, v)]) 235 rfl dL_law_232 lm_L_22 mm_X11_tray (s_78 hst) rfl rfl (Nat.le_of_ble_eq_true rfl) (Nat.le_of_ble_eq_true rfl) (Nat.le_refl _) H ?_
  intro v1 h2 H
  exact ev_icmp_eq (tgt := 1379) 238 rfl dL_law_235 (by decide) (fun _ => H.2) (fun c => absurd H.1.symm c)
theorem l_write (hl : lHd X s) (hst : St sh pt) (H : Run X d mc ms mX10_write [(2, 0), (0, X.2.2 (s + 1)), (0, X.2.2 (s + 2)), (1, qlor (qlshl (X.2.2 (s + 3)) 32) (qland (X.2.2 (s + 4)) 4294967295))] (sh, pt, h) (fun r g => ∃ v sh1 pt1 h1, r = some (0, v) ∧ g = (sh1, pt1, h1) ∧ St sh1 pt1 ∧ RunI X d mX11_write [(2, 78), (0, X.2.2 (s + 1)), (0, X.2.2 (s + 2)), (1, qlor (qlshl (X.2.2 (s + 3)) 32) (qland (X.2.2 (s + 4)) 4294967295))] sh1 pt1 h1 (fun v1 h2 => v1 = v ∧ Ev X (d + 1) rc rs mL_law 1379 [(2, -2), (2, 0), (2, 78), (0, s)] [] (sh1, pt1, h2) Q))) : Ev X (d + 1) (rc + mc) (rs + ms) mL_law 240 [(2, -2), (2, 0), (2, 78), (0, s)] [] (sh, pt, h) Q := by
  refine ev_aload_n 241 rfl dL_law_240 rfl rfl ?_
  refine ev_aload_n 242 rfl dL_law_241 rfl rfl ?_
  refine ev_iload_n 243 rfl dL_law_242 rfl rfl ?_
  refine ev_iconst 244 rfl dL_law_243 (by decide) ?_
  refine ev_iadd 245 rfl dL_law_244 (lH_q hl (by decide) (by decide)) ?_
  refine ev_iaload_ro 246 rfl dL_law_245 qro_s (lH_0 hl (by decide)) (lH_1 hl (by decide)) ?_
  refine ev_aload_n 247 rfl dL_law_246 rfl rfl ?_
  refine ev_iload_n 248 rfl dL_law_247 rfl rfl ?_
  refine ev_iconst 249 rfl dL_law_248 (by decide) ?_
  refine ev_iadd 250 rfl dL_law_249 (lH_q hl (by decide) (by decide)) ?_
  refine ev_iaload_ro 251 rfl dL_law_250 qro_s (lH_0 hl (by decide)) (lH_1 hl (by decide)) ?_
  refine ev_aload_n 252 rfl dL_law_251 rfl rfl ?_
  refine ev_iload_n 253 rfl dL_law_252 rfl rfl ?_
  refine ev_iconst 254 rfl dL_law_253 (by decide) ?_
  refine ev_iadd 255 rfl dL_law_254 (lH_q hl (by decide) (by decide)) ?_
  refine ev_iaload_ro 256 rfl dL_law_255 qro_s (lH_0 hl (by decide)) (lH_1 hl (by decide)) ?_
  refine ev_i2l 257 rfl dL_law_256 ?_
  refine ev_bipush 259 rfl dL_law_257 (by decide) (by decide) ?_
  refine ev_lshl 260 rfl dL_law_259 ?_
  refine ev_aload_n 261 rfl dL_law_260 rfl rfl ?_
  refine ev_iload_n 262 rfl dL_law_261 rfl rfl ?_
  refine ev_iconst 263 rfl dL_law_262 (by decide) ?_
  refine ev_iadd 264 rfl dL_law_263 (lH_q hl (by decide) (by decide)) ?_
  refine ev_iaload_ro 265 rfl dL_law_264 qro_s (lH_0 hl (by decide)) (lH_1 hl (by decide)) ?_
  refine ev_i2l 266 rfl dL_law_265 ?_
  refine ev_ldc2 (v := 4294967295) 269 rfl dL_law_266 kl_L_23 (by decide) ?_
  refine ev_land 270 rfl dL_law_269 ?_
  refine ev_lor 271 rfl dL_law_270 ?_
  refine ev_callV (As := [(0, X.2.2 (s + 1)), (0, X.2.2 (s + 2)), (1, qlor (qlshl (X.2.2 (s + 3)) 32) (qland (X.2.2 (s + 4)) 4294967295))]) (rest := []) 274 rfl dL_law_271 lm_L_25 mm_X10_write (s_0 hst) rfl rfl (Nat.le_of_ble_eq_true rfl) (Nat.le_of_ble_eq_true rfl) (Nat.le_refl _) H ?_
  intro r g H
  obtain ⟨v, sh1, pt1, h1, e1, e2, hst, H⟩ := H
  subst e1
  subst e2
  refine ev_aload_n 275 rfl dL_law_274 rfl rfl ?_
  refine ev_aload_n 276 rfl dL_law_275 rfl rfl ?_
  refine ev_iload_n 277 rfl dL_law_276 rfl rfl ?_
  refine ev_iconst 278 rfl dL_law_277 (by decide) ?_
  refine ev_iadd 279 rfl dL_law_278 (lH_q hl (by decide) (by decide)) ?_
  refine ev_iaload_ro 280 rfl dL_law_279 qro_s (lH_0 hl (by decide)) (lH_1 hl (by decide)) ?_
  refine ev_aload_n 281 rfl dL_law_280 rfl rfl ?_
  refine ev_iload_n 282 rfl dL_law_281 rfl rfl ?_
  refine ev_iconst 283 rfl dL_law_282 (by decide) ?_
  refine ev_iadd 284 rfl dL_law_283 (lH_q hl (by decide) (by decide)) ?_
  refine ev_iaload_ro 285 rfl dL_law_284 qro_s (lH_0 hl (by decide)) (lH_1 hl (by decide)) ?_
  refine ev_aload_n 286 rfl dL_law_285 rfl rfl ?_
  refine ev_iload_n 287 rfl dL_law_286 rfl rfl ?_
  refine ev_iconst 288 rfl dL_law_287 (by decide) ?_
  refine ev_iadd 289 rfl dL_law_288 (lH_q hl (by decide) (by decide)) ?_
  refine ev_iaload_ro 290 rfl dL_law_289 qro_s (lH_0 hl (by decide)) (lH_1 hl (by decide)) ?_
  refine ev_i2l 291 rfl dL_law_290 ?_
  refine ev_bipush 293 rfl dL_law_291 (by decide) (by decide) ?_
  refine ev_lshl 294 rfl dL_law_293 ?_
  refine ev_aload_n 295 rfl dL_law_294 rfl rfl ?_
  refine ev_iload_n 296 rfl dL_law_295 rfl rfl ?_
  refine ev_iconst 297 rfl dL_law_296 (by decide) ?_
  refine ev_iadd 298 rfl dL_law_297 (lH_q hl (by decide) (by decide)) ?_
  refine ev_iaload_ro 299 rfl dL_law_298 qro_s (lH_0 hl (by decide)) (lH_1 hl (by decide)) ?_
  refine ev_i2l 300 rfl dL_law_299 ?_
  refine ev_ldc2 (v := 4294967295) 303 rfl dL_law_300 kl_L_23 (by decide) ?_
  refine ev_land 304 rfl dL_law_303 ?_
  refine ev_lor 305 rfl dL_law_304 ?_
  refine ev_cVI (As := [(0, X.2.2 (s + 1)), (0, X.2.2 (s + 2)), (1, qlor (qlshl (X.2.2 (s + 3)) 32) (qland (X.2.2 (s + 4)) 4294967295))]) (rest := [(0, v)]) 308 rfl dL_law_305 lm_L_29 mm_X11_write (s_78 hst) rfl rfl (Nat.le_of_ble_eq_true rfl) (Nat.le_of_ble_eq_true rfl) (Nat.le_refl _) H ?_
  intro v1 h2 H
  exact ev_icmp_eq (tgt := 1379) 311 rfl dL_law_308 (by decide) (fun _ => H.2) (fun c => absurd H.1.symm c)
theorem l_read (hl : lHd X s) (hst : St sh pt) (H : Run X d mc ms mX10_read [(2, 0), (0, X.2.2 (s + 1)), (0, X.2.2 (s + 2))] (sh, pt, h) (fun r g => ∃ v sh1 pt1 h1, r = some (1, v) ∧ g = (sh1, pt1, h1) ∧ St sh1 pt1 ∧ RunL X d mX11_read [(2, 78), (0, X.2.2 (s + 1)), (0, X.2.2 (s + 2))] sh1 pt1 h1 (fun v1 h2 => v1 = v ∧ Ev X (d + 1) rc rs mL_law 1379 [(2, -2), (2, 0), (2, 78), (0, s)] [] (sh1, pt1, h2) Q))) : Ev X (d + 1) (rc + mc) (rs + ms) mL_law 313 [(2, -2), (2, 0), (2, 78), (0, s)] [] (sh, pt, h) Q := by
  refine ev_aload_n 314 rfl dL_law_313 rfl rfl ?_
  refine ev_aload_n 315 rfl dL_law_314 rfl rfl ?_
  refine ev_iload_n 316 rfl dL_law_315 rfl rfl ?_
  refine ev_iconst 317 rfl dL_law_316 (by decide) ?_
  refine ev_iadd 318 rfl dL_law_317 (lH_q hl (by decide) (by decide)) ?_
  refine ev_iaload_ro 319 rfl dL_law_318 qro_s (lH_0 hl (by decide)) (lH_1 hl (by decide)) ?_
  refine ev_aload_n 320 rfl dL_law_319 rfl rfl ?_
  refine ev_iload_n 321 rfl dL_law_320 rfl rfl ?_
  refine ev_iconst 322 rfl dL_law_321 (by decide) ?_
  refine ev_iadd 323 rfl dL_law_322 (lH_q hl (by decide) (by decide)) ?_
  refine ev_iaload_ro 324 rfl dL_law_323 qro_s (lH_0 hl (by decide)) (lH_1 hl (by decide)) ?_
  refine ev_callV (As := [(0, X.2.2 (s + 1)), (0, X.2.2 (s + 2))]) (rest := []) 327 rfl dL_law_324 lm_L_30 mm_X10_read (s_0 hst) rfl rfl (Nat.le_of_ble_eq_true rfl) (Nat.le_of_ble_eq_true rfl) (Nat.le_refl _) H ?_
  intro r g H
  obtain ⟨v, sh1, pt1, h1, e1, e2, hst, H⟩ := H
  subst e1
  subst e2
  refine ev_aload_n 328 rfl dL_law_327 rfl rfl ?_
  refine ev_aload_n 329 rfl dL_law_328 rfl rfl ?_
  refine ev_iload_n 330 rfl dL_law_329 rfl rfl ?_
  refine ev_iconst 331 rfl dL_law_330 (by decide) ?_
  refine ev_iadd 332 rfl dL_law_331 (lH_q hl (by decide) (by decide)) ?_
  refine ev_iaload_ro 333 rfl dL_law_332 qro_s (lH_0 hl (by decide)) (lH_1 hl (by decide)) ?_
  refine ev_aload_n 334 rfl dL_law_333 rfl rfl ?_
  refine ev_iload_n 335 rfl dL_law_334 rfl rfl ?_
  refine ev_iconst 336 rfl dL_law_335 (by decide) ?_
  refine ev_iadd 337 rfl dL_law_336 (lH_q hl (by decide) (by decide)) ?_
  refine ev_iaload_ro 338 rfl dL_law_337 qro_s (lH_0 hl (by decide)) (lH_1 hl (by decide)) ?_
  refine ev_cVL (As := [(0, X.2.2 (s + 1)), (0, X.2.2 (s + 2))]) (rest := [(1, v)]) 341 rfl dL_law_338 lm_L_34 mm_X11_read (s_78 hst) rfl rfl (Nat.le_of_ble_eq_true rfl) (Nat.le_of_ble_eq_true rfl) (Nat.le_refl _) H ?_
  intro v1 h2 H
  exact ev_lc_eq (tgt := 1379) 345 rfl dL_law_341 dL_law_342 (by decide) (fun _ => H.2) (fun c => absurd H.1.symm c)
theorem l_pour (hl : lHd X s) (hst : St sh pt) (H : Run X d mc ms mX10_pour [(2, 0), (0, X.2.2 (s + 1)), (0, X.2.2 (s + 2)), (0, X.2.2 (s + 3)), (0, X.2.2 (s + 4)), (0, X.2.2 (s + 5))] (sh, pt, h) (fun r g => ∃ v sh1 pt1 h1, r = some (0, v) ∧ g = (sh1, pt1, h1) ∧ St sh1 pt1 ∧ RunI X d mX11_pour [(2, 78), (0, X.2.2 (s + 1)), (0, X.2.2 (s + 2)), (0, X.2.2 (s + 3)), (0, X.2.2 (s + 4)), (0, X.2.2 (s + 5))] sh1 pt1 h1 (fun v1 h2 => v1 = v ∧ Ev X (d + 1) rc rs mL_law 1379 [(2, -2), (2, 0), (2, 78), (0, s)] [] (sh1, pt1, h2) Q))) : Ev X (d + 1) (rc + mc) (rs + ms) mL_law 347 [(2, -2), (2, 0), (2, 78), (0, s)] [] (sh, pt, h) Q := by
  refine ev_aload_n 348 rfl dL_law_347 rfl rfl ?_
  refine ev_aload_n 349 rfl dL_law_348 rfl rfl ?_
  refine ev_iload_n 350 rfl dL_law_349 rfl rfl ?_
  refine ev_iconst 351 rfl dL_law_350 (by decide) ?_
  refine ev_iadd 352 rfl dL_law_351 (lH_q hl (by decide) (by decide)) ?_
  refine ev_iaload_ro 353 rfl dL_law_352 qro_s (lH_0 hl (by decide)) (lH_1 hl (by decide)) ?_
  refine ev_aload_n 354 rfl dL_law_353 rfl rfl ?_
  refine ev_iload_n 355 rfl dL_law_354 rfl rfl ?_
  refine ev_iconst 356 rfl dL_law_355 (by decide) ?_
  refine ev_iadd 357 rfl dL_law_356 (lH_q hl (by decide) (by decide)) ?_
  refine ev_iaload_ro 358 rfl dL_law_357 qro_s (lH_0 hl (by decide)) (lH_1 hl (by decide)) ?_
  refine ev_aload_n 359 rfl dL_law_358 rfl rfl ?_
  refine ev_iload_n 360 rfl dL_law_359 rfl rfl ?_
  refine ev_iconst 361 rfl dL_law_360 (by decide) ?_
  refine ev_iadd 362 rfl dL_law_361 (lH_q hl (by decide) (by decide)) ?_
  refine ev_iaload_ro 363 rfl dL_law_362 qro_s (lH_0 hl (by decide)) (lH_1 hl (by decide)) ?_
  refine ev_aload_n 364 rfl dL_law_363 rfl rfl ?_
  refine ev_iload_n 365 rfl dL_law_364 rfl rfl ?_
  refine ev_iconst 366 rfl dL_law_365 (by decide) ?_
  refine ev_iadd 367 rfl dL_law_366 (lH_q hl (by decide) (by decide)) ?_
  refine ev_iaload_ro 368 rfl dL_law_367 qro_s (lH_0 hl (by decide)) (lH_1 hl (by decide)) ?_
  refine ev_aload_n 369 rfl dL_law_368 rfl rfl ?_
  refine ev_iload_n 370 rfl dL_law_369 rfl rfl ?_
  refine ev_iconst 371 rfl dL_law_370 (by decide) ?_
  refine ev_iadd 372 rfl dL_law_371 (lH_q hl (by decide) (by decide)) ?_
  refine ev_iaload_ro 373 rfl dL_law_372 qro_s (lH_0 hl (by decide)) (lH_1 hl (by decide)) ?_
  refine ev_callV (As := [(0, X.2.2 (s + 1)), (0, X.2.2 (s + 2)), (0, X.2.2 (s + 3)), (0, X.2.2 (s + 4)), (0, X.2.2 (s + 5))]) (rest := []) 376 rfl dL_law_373 lm_L_35 mm_X10_pour (s_0 hst) rfl rfl (Nat.le_of_ble_eq_true rfl) (Nat.le_of_ble_eq_true rfl) (Nat.le_refl _) H ?_
  intro r g H
  obtain ⟨v, sh1, pt1, h1, e1, e2, hst, H⟩ := H
  subst e1
  subst e2
  refine ev_aload_n 377 rfl dL_law_376 rfl rfl ?_
  refine ev_aload_n 378 rfl dL_law_377 rfl rfl ?_
  refine ev_iload_n 379 rfl dL_law_378 rfl rfl ?_
  refine ev_iconst 380 rfl dL_law_379 (by decide) ?_
  refine ev_iadd 381 rfl dL_law_380 (lH_q hl (by decide) (by decide)) ?_
  refine ev_iaload_ro 382 rfl dL_law_381 qro_s (lH_0 hl (by decide)) (lH_1 hl (by decide)) ?_
  refine ev_aload_n 383 rfl dL_law_382 rfl rfl ?_
  refine ev_iload_n 384 rfl dL_law_383 rfl rfl ?_
  refine ev_iconst 385 rfl dL_law_384 (by decide) ?_
  refine ev_iadd 386 rfl dL_law_385 (lH_q hl (by decide) (by decide)) ?_
  refine ev_iaload_ro 387 rfl dL_law_386 qro_s (lH_0 hl (by decide)) (lH_1 hl (by decide)) ?_
  refine ev_aload_n 388 rfl dL_law_387 rfl rfl ?_
  refine ev_iload_n 389 rfl dL_law_388 rfl rfl ?_
  refine ev_iconst 390 rfl dL_law_389 (by decide) ?_
  refine ev_iadd 391 rfl dL_law_390 (lH_q hl (by decide) (by decide)) ?_
  refine ev_iaload_ro 392 rfl dL_law_391 qro_s (lH_0 hl (by decide)) (lH_1 hl (by decide)) ?_
  refine ev_aload_n 393 rfl dL_law_392 rfl rfl ?_
  refine ev_iload_n 394 rfl dL_law_393 rfl rfl ?_
  refine ev_iconst 395 rfl dL_law_394 (by decide) ?_
  refine ev_iadd 396 rfl dL_law_395 (lH_q hl (by decide) (by decide)) ?_
  refine ev_iaload_ro 397 rfl dL_law_396 qro_s (lH_0 hl (by decide)) (lH_1 hl (by decide)) ?_
  refine ev_aload_n 398 rfl dL_law_397 rfl rfl ?_
  refine ev_iload_n 399 rfl dL_law_398 rfl rfl ?_
  refine ev_iconst 400 rfl dL_law_399 (by decide) ?_
  refine ev_iadd 401 rfl dL_law_400 (lH_q hl (by decide) (by decide)) ?_
  refine ev_iaload_ro 402 rfl dL_law_401 qro_s (lH_0 hl (by decide)) (lH_1 hl (by decide)) ?_
  refine ev_cVI (As := [(0, X.2.2 (s + 1)), (0, X.2.2 (s + 2)), (0, X.2.2 (s + 3)), (0, X.2.2 (s + 4)), (0, X.2.2 (s + 5))]) (rest := [(0, v)]) 405 rfl dL_law_402 lm_L_39 mm_X11_pour (s_78 hst) rfl rfl (Nat.le_of_ble_eq_true rfl) (Nat.le_of_ble_eq_true rfl) (Nat.le_refl _) H ?_
  intro v1 h2 H
  exact ev_icmp_eq (tgt := 1379) 408 rfl dL_law_405 (by decide) (fun _ => H.2) (fun c => absurd H.1.symm c)
theorem l_marcher (hl : lHd X s) (hst : St sh pt) (H : Run X d mc ms mX10_marcher [(2, 0), (0, X.2.2 (s + 1)), (0, X.2.2 (s + 2)), (0, X.2.2 (s + 3))] (sh, pt, h) (fun r g => ∃ v sh1 pt1 h1, r = some (0, v) ∧ g = (sh1, pt1, h1) ∧ St sh1 pt1 ∧ RunI X d mX11_marcher [(2, 78), (0, X.2.2 (s + 1)), (0, X.2.2 (s + 2)), (0, X.2.2 (s + 3))] sh1 pt1 h1 (fun v1 h2 => v1 = v ∧ Ev X (d + 1) rc rs mL_law 1379 [(2, -2), (2, 0), (2, 78), (0, s)] [] (sh1, pt1, h2) Q))) : Ev X (d + 1) (rc + mc) (rs + ms) mL_law 410 [(2, -2), (2, 0), (2, 78), (0, s)] [] (sh, pt, h) Q := by
  refine ev_aload_n 411 rfl dL_law_410 rfl rfl ?_
  refine ev_aload_n 412 rfl dL_law_411 rfl rfl ?_
  refine ev_iload_n 413 rfl dL_law_412 rfl rfl ?_
  refine ev_iconst 414 rfl dL_law_413 (by decide) ?_
  refine ev_iadd 415 rfl dL_law_414 (lH_q hl (by decide) (by decide)) ?_
  refine ev_iaload_ro 416 rfl dL_law_415 qro_s (lH_0 hl (by decide)) (lH_1 hl (by decide)) ?_
  refine ev_aload_n 417 rfl dL_law_416 rfl rfl ?_
  refine ev_iload_n 418 rfl dL_law_417 rfl rfl ?_
  refine ev_iconst 419 rfl dL_law_418 (by decide) ?_
  refine ev_iadd 420 rfl dL_law_419 (lH_q hl (by decide) (by decide)) ?_
  refine ev_iaload_ro 421 rfl dL_law_420 qro_s (lH_0 hl (by decide)) (lH_1 hl (by decide)) ?_
  refine ev_aload_n 422 rfl dL_law_421 rfl rfl ?_
  refine ev_iload_n 423 rfl dL_law_422 rfl rfl ?_
  refine ev_iconst 424 rfl dL_law_423 (by decide) ?_
  refine ev_iadd 425 rfl dL_law_424 (lH_q hl (by decide) (by decide)) ?_
  refine ev_iaload_ro 426 rfl dL_law_425 qro_s (lH_0 hl (by decide)) (lH_1 hl (by decide)) ?_
  refine ev_callV (As := [(0, X.2.2 (s + 1)), (0, X.2.2 (s + 2)), (0, X.2.2 (s + 3))]) (rest := []) 429 rfl dL_law_426 lm_L_40 mm_X10_marcher (s_0 hst) rfl rfl (Nat.le_of_ble_eq_true rfl) (Nat.le_of_ble_eq_true rfl) (Nat.le_refl _) H ?_
  intro r g H
  obtain ⟨v, sh1, pt1, h1, e1, e2, hst, H⟩ := H
  subst e1
  subst e2
  refine ev_aload_n 430 rfl dL_law_429 rfl rfl ?_
  refine ev_aload_n 431 rfl dL_law_430 rfl rfl ?_
  refine ev_iload_n 432 rfl dL_law_431 rfl rfl ?_
  refine ev_iconst 433 rfl dL_law_432 (by decide) ?_
  refine ev_iadd 434 rfl dL_law_433 (lH_q hl (by decide) (by decide)) ?_
  refine ev_iaload_ro 435 rfl dL_law_434 qro_s (lH_0 hl (by decide)) (lH_1 hl (by decide)) ?_
  refine ev_aload_n 436 rfl dL_law_435 rfl rfl ?_
  refine ev_iload_n 437 rfl dL_law_436 rfl rfl ?_
  refine ev_iconst 438 rfl dL_law_437 (by decide) ?_
  refine ev_iadd 439 rfl dL_law_438 (lH_q hl (by decide) (by decide)) ?_
  refine ev_iaload_ro 440 rfl dL_law_439 qro_s (lH_0 hl (by decide)) (lH_1 hl (by decide)) ?_
  refine ev_aload_n 441 rfl dL_law_440 rfl rfl ?_
  refine ev_iload_n 442 rfl dL_law_441 rfl rfl ?_
  refine ev_iconst 443 rfl dL_law_442 (by decide) ?_
  refine ev_iadd 444 rfl dL_law_443 (lH_q hl (by decide) (by decide)) ?_
  refine ev_iaload_ro 445 rfl dL_law_444 qro_s (lH_0 hl (by decide)) (lH_1 hl (by decide)) ?_
  refine ev_cVI (As := [(0, X.2.2 (s + 1)), (0, X.2.2 (s + 2)), (0, X.2.2 (s + 3))]) (rest := [(0, v)]) 448 rfl dL_law_445 lm_L_44 mm_X11_marcher (s_78 hst) rfl rfl (Nat.le_of_ble_eq_true rfl) (Nat.le_of_ble_eq_true rfl) (Nat.le_refl _) H ?_
  intro v1 h2 H
  exact ev_icmp_eq (tgt := 1379) 451 rfl dL_law_448 (by decide) (fun _ => H.2) (fun c => absurd H.1.symm c)
theorem l_prop (hl : lHd X s) (hst : St sh pt) (H : Run X d mc ms mX10_prop [(2, 0), (0, X.2.2 (s + 1)), (0, X.2.2 (s + 2))] (sh, pt, h) (fun r g => ∃ v sh1 pt1 h1, r = some (0, v) ∧ g = (sh1, pt1, h1) ∧ St sh1 pt1 ∧ RunI X d mX11_prop [(2, 78), (0, X.2.2 (s + 1)), (0, X.2.2 (s + 2))] sh1 pt1 h1 (fun v1 h2 => v1 = v ∧ Ev X (d + 1) rc rs mL_law 1379 [(2, -2), (2, 0), (2, 78), (0, s)] [] (sh1, pt1, h2) Q))) : Ev X (d + 1) (rc + mc) (rs + ms) mL_law 453 [(2, -2), (2, 0), (2, 78), (0, s)] [] (sh, pt, h) Q := by
  refine ev_aload_n 454 rfl dL_law_453 rfl rfl ?_
  refine ev_aload_n 455 rfl dL_law_454 rfl rfl ?_
  refine ev_iload_n 456 rfl dL_law_455 rfl rfl ?_
  refine ev_iconst 457 rfl dL_law_456 (by decide) ?_
  refine ev_iadd 458 rfl dL_law_457 (lH_q hl (by decide) (by decide)) ?_
  refine ev_iaload_ro 459 rfl dL_law_458 qro_s (lH_0 hl (by decide)) (lH_1 hl (by decide)) ?_
  refine ev_aload_n 460 rfl dL_law_459 rfl rfl ?_
  refine ev_iload_n 461 rfl dL_law_460 rfl rfl ?_
  refine ev_iconst 462 rfl dL_law_461 (by decide) ?_
  refine ev_iadd 463 rfl dL_law_462 (lH_q hl (by decide) (by decide)) ?_
  refine ev_iaload_ro 464 rfl dL_law_463 qro_s (lH_0 hl (by decide)) (lH_1 hl (by decide)) ?_
  refine ev_callV (As := [(0, X.2.2 (s + 1)), (0, X.2.2 (s + 2))]) (rest := []) 467 rfl dL_law_464 lm_L_45 mm_X10_prop (s_0 hst) rfl rfl (Nat.le_of_ble_eq_true rfl) (Nat.le_of_ble_eq_true rfl) (Nat.le_refl _) H ?_
  intro r g H
  obtain ⟨v, sh1, pt1, h1, e1, e2, hst, H⟩ := H
  subst e1
  subst e2
  refine ev_aload_n 468 rfl dL_law_467 rfl rfl ?_
  refine ev_aload_n 469 rfl dL_law_468 rfl rfl ?_
  refine ev_iload_n 470 rfl dL_law_469 rfl rfl ?_
  refine ev_iconst 471 rfl dL_law_470 (by decide) ?_
  refine ev_iadd 472 rfl dL_law_471 (lH_q hl (by decide) (by decide)) ?_
  refine ev_iaload_ro 473 rfl dL_law_472 qro_s (lH_0 hl (by decide)) (lH_1 hl (by decide)) ?_
  refine ev_aload_n 474 rfl dL_law_473 rfl rfl ?_
  refine ev_iload_n 475 rfl dL_law_474 rfl rfl ?_
  refine ev_iconst 476 rfl dL_law_475 (by decide) ?_
  refine ev_iadd 477 rfl dL_law_476 (lH_q hl (by decide) (by decide)) ?_
  refine ev_iaload_ro 478 rfl dL_law_477 qro_s (lH_0 hl (by decide)) (lH_1 hl (by decide)) ?_
  refine ev_cVI (As := [(0, X.2.2 (s + 1)), (0, X.2.2 (s + 2))]) (rest := [(0, v)]) 481 rfl dL_law_478 lm_L_49 mm_X11_prop (s_78 hst) rfl rfl (Nat.le_of_ble_eq_true rfl) (Nat.le_of_ble_eq_true rfl) (Nat.le_refl _) H ?_
  intro v1 h2 H
  exact ev_icmp_eq (tgt := 1379) 484 rfl dL_law_481 (by decide) (fun _ => H.2) (fun c => absurd H.1.symm c)
theorem l_group (hl : lHd X s) (hst : St sh pt) (H : Run X d mc ms mX10_group [(2, 0), (1, qlor (qlshl (X.2.2 (s + 1)) 32) (qland (X.2.2 (s + 2)) 4294967295)), (0, X.2.2 (s + 3))] (sh, pt, h) (fun r g => ∃ v sh1 pt1 h1, r = some (0, v) ∧ g = (sh1, pt1, h1) ∧ St sh1 pt1 ∧ RunI X d mX11_group [(2, 78), (1, qlor (qlshl (X.2.2 (s + 1)) 32) (qland (X.2.2 (s + 2)) 4294967295)), (0, X.2.2 (s + 3))] sh1 pt1 h1 (fun v1 h2 => v1 = v ∧ Ev X (d + 1) rc rs mL_law 1379 [(2, -2), (2, 0), (2, 78), (0, s)] [] (sh1, pt1, h2) Q))) : Ev X (d + 1) (rc + mc) (rs + ms) mL_law 486 [(2, -2), (2, 0), (2, 78), (0, s)] [] (sh, pt, h) Q := by
  refine ev_aload_n 487 rfl dL_law_486 rfl rfl ?_
  refine ev_aload_n 488 rfl dL_law_487 rfl rfl ?_
  refine ev_iload_n 489 rfl dL_law_488 rfl rfl ?_
  refine ev_iconst 490 rfl dL_law_489 (by decide) ?_
  refine ev_iadd 491 rfl dL_law_490 (lH_q hl (by decide) (by decide)) ?_
  refine ev_iaload_ro 492 rfl dL_law_491 qro_s (lH_0 hl (by decide)) (lH_1 hl (by decide)) ?_
  refine ev_i2l 493 rfl dL_law_492 ?_
  refine ev_bipush 495 rfl dL_law_493 (by decide) (by decide) ?_
  refine ev_lshl 496 rfl dL_law_495 ?_
  refine ev_aload_n 497 rfl dL_law_496 rfl rfl ?_
  refine ev_iload_n 498 rfl dL_law_497 rfl rfl ?_
  refine ev_iconst 499 rfl dL_law_498 (by decide) ?_
  refine ev_iadd 500 rfl dL_law_499 (lH_q hl (by decide) (by decide)) ?_
  refine ev_iaload_ro 501 rfl dL_law_500 qro_s (lH_0 hl (by decide)) (lH_1 hl (by decide)) ?_
  refine ev_i2l 502 rfl dL_law_501 ?_
  refine ev_ldc2 (v := 4294967295) 505 rfl dL_law_502 kl_L_23 (by decide) ?_
  refine ev_land 506 rfl dL_law_505 ?_
  refine ev_lor 507 rfl dL_law_506 ?_
  refine ev_aload_n 508 rfl dL_law_507 rfl rfl ?_
  refine ev_iload_n 509 rfl dL_law_508 rfl rfl ?_
  refine ev_iconst 510 rfl dL_law_509 (by decide) ?_
  refine ev_iadd 511 rfl dL_law_510 (lH_q hl (by decide) (by decide)) ?_
  refine ev_iaload_ro 512 rfl dL_law_511 qro_s (lH_0 hl (by decide)) (lH_1 hl (by decide)) ?_
  refine ev_callV (As := [(1, qlor (qlshl (X.2.2 (s + 1)) 32) (qland (X.2.2 (s + 2)) 4294967295)), (0, X.2.2 (s + 3))]) (rest := []) 515 rfl dL_law_512 lm_L_50 mm_X10_group (s_0 hst) rfl rfl (Nat.le_of_ble_eq_true rfl) (Nat.le_of_ble_eq_true rfl) (Nat.le_refl _) H ?_
  intro r g H
  obtain ⟨v, sh1, pt1, h1, e1, e2, hst, H⟩ := H
  subst e1
  subst e2
  refine ev_aload_n 516 rfl dL_law_515 rfl rfl ?_
  refine ev_aload_n 517 rfl dL_law_516 rfl rfl ?_
  refine ev_iload_n 518 rfl dL_law_517 rfl rfl ?_
  refine ev_iconst 519 rfl dL_law_518 (by decide) ?_
  refine ev_iadd 520 rfl dL_law_519 (lH_q hl (by decide) (by decide)) ?_
  refine ev_iaload_ro 521 rfl dL_law_520 qro_s (lH_0 hl (by decide)) (lH_1 hl (by decide)) ?_
  refine ev_i2l 522 rfl dL_law_521 ?_
  refine ev_bipush 524 rfl dL_law_522 (by decide) (by decide) ?_
  refine ev_lshl 525 rfl dL_law_524 ?_
  refine ev_aload_n 526 rfl dL_law_525 rfl rfl ?_
  refine ev_iload_n 527 rfl dL_law_526 rfl rfl ?_
  refine ev_iconst 528 rfl dL_law_527 (by decide) ?_
  refine ev_iadd 529 rfl dL_law_528 (lH_q hl (by decide) (by decide)) ?_
  refine ev_iaload_ro 530 rfl dL_law_529 qro_s (lH_0 hl (by decide)) (lH_1 hl (by decide)) ?_
  refine ev_i2l 531 rfl dL_law_530 ?_
  refine ev_ldc2 (v := 4294967295) 534 rfl dL_law_531 kl_L_23 (by decide) ?_
  refine ev_land 535 rfl dL_law_534 ?_
  refine ev_lor 536 rfl dL_law_535 ?_
  refine ev_aload_n 537 rfl dL_law_536 rfl rfl ?_
  refine ev_iload_n 538 rfl dL_law_537 rfl rfl ?_
  refine ev_iconst 539 rfl dL_law_538 (by decide) ?_
  refine ev_iadd 540 rfl dL_law_539 (lH_q hl (by decide) (by decide)) ?_
  refine ev_iaload_ro 541 rfl dL_law_540 qro_s (lH_0 hl (by decide)) (lH_1 hl (by decide)) ?_
  refine ev_cVI (As := [(1, qlor (qlshl (X.2.2 (s + 1)) 32) (qland (X.2.2 (s + 2)) 4294967295)), (0, X.2.2 (s + 3))]) (rest := [(0, v)]) 544 rfl dL_law_541 lm_L_54 mm_X11_group (s_78 hst) rfl rfl (Nat.le_of_ble_eq_true rfl) (Nat.le_of_ble_eq_true rfl) (Nat.le_refl _) H ?_
  intro v1 h2 H
  exact ev_icmp_eq (tgt := 1379) 547 rfl dL_law_544 (by decide) (fun _ => H.2) (fun c => absurd H.1.symm c)
theorem l_steps (hl : lHd X s) (hst : St sh pt) (H : Run X d mc ms mX10_steps [(2, 0), (0, X.2.2 (s + 1))] (sh, pt, h) (fun r g => ∃ v sh1 pt1 h1, r = some (0, v) ∧ g = (sh1, pt1, h1) ∧ St sh1 pt1 ∧ RunI X d mX11_steps [(2, 78), (0, X.2.2 (s + 1))] sh1 pt1 h1 (fun v1 h2 => v1 = v ∧ Ev X (d + 1) rc rs mL_law 1379 [(2, -2), (2, 0), (2, 78), (0, s)] [] (sh1, pt1, h2) Q))) : Ev X (d + 1) (rc + mc) (rs + ms) mL_law 549 [(2, -2), (2, 0), (2, 78), (0, s)] [] (sh, pt, h) Q := by
  refine ev_aload_n 550 rfl dL_law_549 rfl rfl ?_
  refine ev_aload_n 551 rfl dL_law_550 rfl rfl ?_
  refine ev_iload_n 552 rfl dL_law_551 rfl rfl ?_
  refine ev_iconst 553 rfl dL_law_552 (by decide) ?_
  refine ev_iadd 554 rfl dL_law_553 (lH_q hl (by decide) (by decide)) ?_
  refine ev_iaload_ro 555 rfl dL_law_554 qro_s (lH_0 hl (by decide)) (lH_1 hl (by decide)) ?_
  refine ev_callV (As := [(0, X.2.2 (s + 1))]) (rest := []) 558 rfl dL_law_555 lm_L_55 mm_X10_steps (s_0 hst) rfl rfl (Nat.le_of_ble_eq_true rfl) (Nat.le_of_ble_eq_true rfl) (Nat.le_refl _) H ?_
  intro r g H
  obtain ⟨v, sh1, pt1, h1, e1, e2, hst, H⟩ := H
  subst e1
  subst e2
  refine ev_aload_n 559 rfl dL_law_558 rfl rfl ?_
  refine ev_aload_n 560 rfl dL_law_559 rfl rfl ?_
  refine ev_iload_n 561 rfl dL_law_560 rfl rfl ?_
  refine ev_iconst 562 rfl dL_law_561 (by decide) ?_
  refine ev_iadd 563 rfl dL_law_562 (lH_q hl (by decide) (by decide)) ?_
  refine ev_iaload_ro 564 rfl dL_law_563 qro_s (lH_0 hl (by decide)) (lH_1 hl (by decide)) ?_
  refine ev_cVI (As := [(0, X.2.2 (s + 1))]) (rest := [(0, v)]) 567 rfl dL_law_564 lm_L_59 mm_X11_steps (s_78 hst) rfl rfl (Nat.le_of_ble_eq_true rfl) (Nat.le_of_ble_eq_true rfl) (Nat.le_refl _) H ?_
  intro v1 h2 H
  exact ev_icmp_eq (tgt := 1379) 570 rfl dL_law_567 (by decide) (fun _ => H.2) (fun c => absurd H.1.symm c)
theorem l_feed (hl : lHd X s) (hst : St sh pt) (H : Run X d mc ms mX10_feed [(2, 0), (0, X.2.2 (s + 1)), (0, X.2.2 (s + 2)), (0, X.2.2 (s + 3)), (0, X.2.2 (s + 4)), (0, X.2.2 (s + 5))] (sh, pt, h) (fun r g => ∃ v sh1 pt1 h1, r = some (0, v) ∧ g = (sh1, pt1, h1) ∧ St sh1 pt1 ∧ RunI X d mX11_feed [(2, 78), (0, X.2.2 (s + 1)), (0, X.2.2 (s + 2)), (0, X.2.2 (s + 3)), (0, X.2.2 (s + 4)), (0, X.2.2 (s + 5))] sh1 pt1 h1 (fun v1 h2 => v1 = v ∧ Ev X (d + 1) rc rs mL_law 1379 [(2, -2), (2, 0), (2, 78), (0, s)] [] (sh1, pt1, h2) Q))) : Ev X (d + 1) (rc + mc) (rs + ms) mL_law 572 [(2, -2), (2, 0), (2, 78), (0, s)] [] (sh, pt, h) Q := by
  refine ev_aload_n 573 rfl dL_law_572 rfl rfl ?_
  refine ev_aload_n 574 rfl dL_law_573 rfl rfl ?_
  refine ev_iload_n 575 rfl dL_law_574 rfl rfl ?_
  refine ev_iconst 576 rfl dL_law_575 (by decide) ?_
  refine ev_iadd 577 rfl dL_law_576 (lH_q hl (by decide) (by decide)) ?_
  refine ev_iaload_ro 578 rfl dL_law_577 qro_s (lH_0 hl (by decide)) (lH_1 hl (by decide)) ?_
  refine ev_aload_n 579 rfl dL_law_578 rfl rfl ?_
  refine ev_iload_n 580 rfl dL_law_579 rfl rfl ?_
  refine ev_iconst 581 rfl dL_law_580 (by decide) ?_
  refine ev_iadd 582 rfl dL_law_581 (lH_q hl (by decide) (by decide)) ?_
  refine ev_iaload_ro 583 rfl dL_law_582 qro_s (lH_0 hl (by decide)) (lH_1 hl (by decide)) ?_
  refine ev_aload_n 584 rfl dL_law_583 rfl rfl ?_
  refine ev_iload_n 585 rfl dL_law_584 rfl rfl ?_
  refine ev_iconst 586 rfl dL_law_585 (by decide) ?_
  refine ev_iadd 587 rfl dL_law_586 (lH_q hl (by decide) (by decide)) ?_
  refine ev_iaload_ro 588 rfl dL_law_587 qro_s (lH_0 hl (by decide)) (lH_1 hl (by decide)) ?_
  refine ev_aload_n 589 rfl dL_law_588 rfl rfl ?_
  refine ev_iload_n 590 rfl dL_law_589 rfl rfl ?_
  refine ev_iconst 591 rfl dL_law_590 (by decide) ?_
  refine ev_iadd 592 rfl dL_law_591 (lH_q hl (by decide) (by decide)) ?_
  refine ev_iaload_ro 593 rfl dL_law_592 qro_s (lH_0 hl (by decide)) (lH_1 hl (by decide)) ?_
  refine ev_aload_n 594 rfl dL_law_593 rfl rfl ?_
  refine ev_iload_n 595 rfl dL_law_594 rfl rfl ?_
  refine ev_iconst 596 rfl dL_law_595 (by decide) ?_
  refine ev_iadd 597 rfl dL_law_596 (lH_q hl (by decide) (by decide)) ?_
  refine ev_iaload_ro 598 rfl dL_law_597 qro_s (lH_0 hl (by decide)) (lH_1 hl (by decide)) ?_
  refine ev_callV (As := [(0, X.2.2 (s + 1)), (0, X.2.2 (s + 2)), (0, X.2.2 (s + 3)), (0, X.2.2 (s + 4)), (0, X.2.2 (s + 5))]) (rest := []) 601 rfl dL_law_598 lm_L_60 mm_X10_feed (s_0 hst) rfl rfl (Nat.le_of_ble_eq_true rfl) (Nat.le_of_ble_eq_true rfl) (Nat.le_refl _) H ?_
  intro r g H
  obtain ⟨v, sh1, pt1, h1, e1, e2, hst, H⟩ := H
  subst e1
  subst e2
  refine ev_aload_n 602 rfl dL_law_601 rfl rfl ?_
  refine ev_aload_n 603 rfl dL_law_602 rfl rfl ?_
  refine ev_iload_n 604 rfl dL_law_603 rfl rfl ?_
  refine ev_iconst 605 rfl dL_law_604 (by decide) ?_
  refine ev_iadd 606 rfl dL_law_605 (lH_q hl (by decide) (by decide)) ?_
  refine ev_iaload_ro 607 rfl dL_law_606 qro_s (lH_0 hl (by decide)) (lH_1 hl (by decide)) ?_
  refine ev_aload_n 608 rfl dL_law_607 rfl rfl ?_
  refine ev_iload_n 609 rfl dL_law_608 rfl rfl ?_
  refine ev_iconst 610 rfl dL_law_609 (by decide) ?_
  refine ev_iadd 611 rfl dL_law_610 (lH_q hl (by decide) (by decide)) ?_
  refine ev_iaload_ro 612 rfl dL_law_611 qro_s (lH_0 hl (by decide)) (lH_1 hl (by decide)) ?_
  refine ev_aload_n 613 rfl dL_law_612 rfl rfl ?_
  refine ev_iload_n 614 rfl dL_law_613 rfl rfl ?_
  refine ev_iconst 615 rfl dL_law_614 (by decide) ?_
  refine ev_iadd 616 rfl dL_law_615 (lH_q hl (by decide) (by decide)) ?_
  refine ev_iaload_ro 617 rfl dL_law_616 qro_s (lH_0 hl (by decide)) (lH_1 hl (by decide)) ?_
  refine ev_aload_n 618 rfl dL_law_617 rfl rfl ?_
  refine ev_iload_n 619 rfl dL_law_618 rfl rfl ?_
  refine ev_iconst 620 rfl dL_law_619 (by decide) ?_
  refine ev_iadd 621 rfl dL_law_620 (lH_q hl (by decide) (by decide)) ?_
  refine ev_iaload_ro 622 rfl dL_law_621 qro_s (lH_0 hl (by decide)) (lH_1 hl (by decide)) ?_
  refine ev_aload_n 623 rfl dL_law_622 rfl rfl ?_
  refine ev_iload_n 624 rfl dL_law_623 rfl rfl ?_
  refine ev_iconst 625 rfl dL_law_624 (by decide) ?_
  refine ev_iadd 626 rfl dL_law_625 (lH_q hl (by decide) (by decide)) ?_
  refine ev_iaload_ro 627 rfl dL_law_626 qro_s (lH_0 hl (by decide)) (lH_1 hl (by decide)) ?_
  refine ev_cVI (As := [(0, X.2.2 (s + 1)), (0, X.2.2 (s + 2)), (0, X.2.2 (s + 3)), (0, X.2.2 (s + 4)), (0, X.2.2 (s + 5))]) (rest := [(0, v)]) 630 rfl dL_law_627 lm_L_64 mm_X11_feed (s_78 hst) rfl rfl (Nat.le_of_ble_eq_true rfl) (Nat.le_of_ble_eq_true rfl) (Nat.le_refl _) H ?_
  intro v1 h2 H
  exact ev_icmp_eq (tgt := 1379) 633 rfl dL_law_630 (by decide) (fun _ => H.2) (fun c => absurd H.1.symm c)
theorem l_orders (hl : lHd X s) (hst : St sh pt) (H : Run X d mc ms mX10_orders [(2, 0), (0, X.2.2 (s + 1))] (sh, pt, h) (fun r g => ∃ v sh1 pt1 h1, r = some (0, v) ∧ g = (sh1, pt1, h1) ∧ St sh1 pt1 ∧ RunI X d mX11_orders [(2, 78), (0, X.2.2 (s + 1))] sh1 pt1 h1 (fun v1 h2 => v1 = v ∧ Ev X (d + 1) rc rs mL_law 1379 [(2, -2), (2, 0), (2, 78), (0, s)] [] (sh1, pt1, h2) Q))) : Ev X (d + 1) (rc + mc) (rs + ms) mL_law 635 [(2, -2), (2, 0), (2, 78), (0, s)] [] (sh, pt, h) Q := by
  refine ev_aload_n 636 rfl dL_law_635 rfl rfl ?_
  refine ev_aload_n 637 rfl dL_law_636 rfl rfl ?_
  refine ev_iload_n 638 rfl dL_law_637 rfl rfl ?_
  refine ev_iconst 639 rfl dL_law_638 (by decide) ?_
  refine ev_iadd 640 rfl dL_law_639 (lH_q hl (by decide) (by decide)) ?_
  refine ev_iaload_ro 641 rfl dL_law_640 qro_s (lH_0 hl (by decide)) (lH_1 hl (by decide)) ?_
  refine ev_callV (As := [(0, X.2.2 (s + 1))]) (rest := []) 644 rfl dL_law_641 lm_L_65 mm_X10_orders (s_0 hst) rfl rfl (Nat.le_of_ble_eq_true rfl) (Nat.le_of_ble_eq_true rfl) (Nat.le_refl _) H ?_
  intro r g H
  obtain ⟨v, sh1, pt1, h1, e1, e2, hst, H⟩ := H
  subst e1
  subst e2
  refine ev_aload_n 645 rfl dL_law_644 rfl rfl ?_
  refine ev_aload_n 646 rfl dL_law_645 rfl rfl ?_
  refine ev_iload_n 647 rfl dL_law_646 rfl rfl ?_
  refine ev_iconst 648 rfl dL_law_647 (by decide) ?_
  refine ev_iadd 649 rfl dL_law_648 (lH_q hl (by decide) (by decide)) ?_
  refine ev_iaload_ro 650 rfl dL_law_649 qro_s (lH_0 hl (by decide)) (lH_1 hl (by decide)) ?_
  refine ev_cVI (As := [(0, X.2.2 (s + 1))]) (rest := [(0, v)]) 653 rfl dL_law_650 lm_L_69 mm_X11_orders (s_78 hst) rfl rfl (Nat.le_of_ble_eq_true rfl) (Nat.le_of_ble_eq_true rfl) (Nat.le_refl _) H ?_
  intro v1 h2 H
  exact ev_icmp_eq (tgt := 1379) 656 rfl dL_law_653 (by decide) (fun _ => H.2) (fun c => absurd H.1.symm c)
theorem l_fault (hl : lHd X s) (hst : St sh pt) (H : Run X d mc ms mX10_fault [(2, 0), (0, X.2.2 (s + 1))] (sh, pt, h) (fun r g => ∃ v sh1 pt1 h1, r = some (0, v) ∧ g = (sh1, pt1, h1) ∧ St sh1 pt1 ∧ RunI X d mX11_fault [(2, 78), (0, X.2.2 (s + 1))] sh1 pt1 h1 (fun v1 h2 => v1 = v ∧ Ev X (d + 1) rc rs mL_law 1379 [(2, -2), (2, 0), (2, 78), (0, s)] [] (sh1, pt1, h2) Q))) : Ev X (d + 1) (rc + mc) (rs + ms) mL_law 658 [(2, -2), (2, 0), (2, 78), (0, s)] [] (sh, pt, h) Q := by
  refine ev_aload_n 659 rfl dL_law_658 rfl rfl ?_
  refine ev_aload_n 660 rfl dL_law_659 rfl rfl ?_
  refine ev_iload_n 661 rfl dL_law_660 rfl rfl ?_
  refine ev_iconst 662 rfl dL_law_661 (by decide) ?_
  refine ev_iadd 663 rfl dL_law_662 (lH_q hl (by decide) (by decide)) ?_
  refine ev_iaload_ro 664 rfl dL_law_663 qro_s (lH_0 hl (by decide)) (lH_1 hl (by decide)) ?_
  refine ev_callV (As := [(0, X.2.2 (s + 1))]) (rest := []) 667 rfl dL_law_664 lm_L_70 mm_X10_fault (s_0 hst) rfl rfl (Nat.le_of_ble_eq_true rfl) (Nat.le_of_ble_eq_true rfl) (Nat.le_refl _) H ?_
  intro r g H
  obtain ⟨v, sh1, pt1, h1, e1, e2, hst, H⟩ := H
  subst e1
  subst e2
  refine ev_aload_n 668 rfl dL_law_667 rfl rfl ?_
  refine ev_aload_n 669 rfl dL_law_668 rfl rfl ?_
  refine ev_iload_n 670 rfl dL_law_669 rfl rfl ?_
  refine ev_iconst 671 rfl dL_law_670 (by decide) ?_
  refine ev_iadd 672 rfl dL_law_671 (lH_q hl (by decide) (by decide)) ?_
  refine ev_iaload_ro 673 rfl dL_law_672 qro_s (lH_0 hl (by decide)) (lH_1 hl (by decide)) ?_
  refine ev_cVI (As := [(0, X.2.2 (s + 1))]) (rest := [(0, v)]) 676 rfl dL_law_673 lm_L_73 mm_X11_fault (s_78 hst) rfl rfl (Nat.le_of_ble_eq_true rfl) (Nat.le_of_ble_eq_true rfl) (Nat.le_refl _) H ?_
  intro v1 h2 H
  exact ev_icmp_eq (tgt := 1379) 679 rfl dL_law_676 (by decide) (fun _ => H.2) (fun c => absurd H.1.symm c)
theorem l_run (hl : lHd X s) (hst : St sh pt) (H : Run X d mc ms mX10_run [(2, 0)] (sh, pt, h) (fun r g => ∃ v sh1 pt1 h1, r = some (0, v) ∧ g = (sh1, pt1, h1) ∧ St sh1 pt1 ∧ RunI X d mX11_run [(2, 78)] sh1 pt1 h1 (fun v1 h2 => v1 = v ∧ Ev X (d + 1) rc rs mL_law 1379 [(2, -2), (2, 0), (2, 78), (0, s)] [] (sh1, pt1, h2) Q))) : Ev X (d + 1) (rc + mc) (rs + ms) mL_law 681 [(2, -2), (2, 0), (2, 78), (0, s)] [] (sh, pt, h) Q := by
  refine ev_aload_n 682 rfl dL_law_681 rfl rfl ?_
  refine ev_callV (As := []) (rest := []) 685 rfl dL_law_682 lm_L_74 mm_X10_run (s_0 hst) rfl rfl (Nat.le_of_ble_eq_true rfl) (Nat.le_of_ble_eq_true rfl) (Nat.le_refl _) H ?_
  intro r g H
  obtain ⟨v, sh1, pt1, h1, e1, e2, hst, H⟩ := H
  subst e1
  subst e2
  refine ev_aload_n 686 rfl dL_law_685 rfl rfl ?_
  refine ev_cVI (As := []) (rest := [(0, v)]) 689 rfl dL_law_686 lm_L_77 mm_X11_run (s_78 hst) rfl rfl (Nat.le_of_ble_eq_true rfl) (Nat.le_of_ble_eq_true rfl) (Nat.le_refl _) H ?_
  intro v1 h2 H
  exact ev_icmp_eq (tgt := 1379) 692 rfl dL_law_689 (by decide) (fun _ => H.2) (fun c => absurd H.1.symm c)
theorem l_error (hl : lHd X s) (hst : St sh pt) (H : Run X d mc ms mX10_error [(2, 0), (0, X.2.2 (s + 1))] (sh, pt, h) (fun r g => ∃ v sh1 pt1 h1, r = some (0, v) ∧ g = (sh1, pt1, h1) ∧ St sh1 pt1 ∧ RunI X d mX11_error [(2, 78), (0, X.2.2 (s + 1))] sh1 pt1 h1 (fun v1 h2 => v1 = v ∧ Ev X (d + 1) rc rs mL_law 1379 [(2, -2), (2, 0), (2, 78), (0, s)] [] (sh1, pt1, h2) Q))) : Ev X (d + 1) (rc + mc) (rs + ms) mL_law 694 [(2, -2), (2, 0), (2, 78), (0, s)] [] (sh, pt, h) Q := by
  refine ev_aload_n 695 rfl dL_law_694 rfl rfl ?_
  refine ev_aload_n 696 rfl dL_law_695 rfl rfl ?_
  refine ev_iload_n 697 rfl dL_law_696 rfl rfl ?_
  refine ev_iconst 698 rfl dL_law_697 (by decide) ?_
  refine ev_iadd 699 rfl dL_law_698 (lH_q hl (by decide) (by decide)) ?_
  refine ev_iaload_ro 700 rfl dL_law_699 qro_s (lH_0 hl (by decide)) (lH_1 hl (by decide)) ?_
  refine ev_callV (As := [(0, X.2.2 (s + 1))]) (rest := []) 703 rfl dL_law_700 lm_L_78 mm_X10_error (s_0 hst) rfl rfl (Nat.le_of_ble_eq_true rfl) (Nat.le_of_ble_eq_true rfl) (Nat.le_refl _) H ?_
  intro r g H
  obtain ⟨v, sh1, pt1, h1, e1, e2, hst, H⟩ := H
  subst e1
  subst e2
  refine ev_aload_n 704 rfl dL_law_703 rfl rfl ?_
  refine ev_aload_n 705 rfl dL_law_704 rfl rfl ?_
  refine ev_iload_n 706 rfl dL_law_705 rfl rfl ?_
  refine ev_iconst 707 rfl dL_law_706 (by decide) ?_
  refine ev_iadd 708 rfl dL_law_707 (lH_q hl (by decide) (by decide)) ?_
  refine ev_iaload_ro 709 rfl dL_law_708 qro_s (lH_0 hl (by decide)) (lH_1 hl (by decide)) ?_
  refine ev_cVI (As := [(0, X.2.2 (s + 1))]) (rest := [(0, v)]) 712 rfl dL_law_709 lm_L_81 mm_X11_error (s_78 hst) rfl rfl (Nat.le_of_ble_eq_true rfl) (Nat.le_of_ble_eq_true rfl) (Nat.le_refl _) H ?_
  intro v1 h2 H
  exact ev_icmp_eq (tgt := 1379) 715 rfl dL_law_712 (by decide) (fun _ => H.2) (fun c => absurd H.1.symm c)
theorem l_at (hl : lHd X s) (hst : St sh pt) (H : Run X d mc ms mX10_at [(2, 0), (0, X.2.2 (s + 1)), (0, X.2.2 (s + 2)), (0, X.2.2 (s + 3))] (sh, pt, h) (fun r g => ∃ v sh1 pt1 h1, r = some (0, v) ∧ g = (sh1, pt1, h1) ∧ St sh1 pt1 ∧ RunI X d mX11_at [(2, 78), (0, X.2.2 (s + 1)), (0, X.2.2 (s + 2)), (0, X.2.2 (s + 3))] sh1 pt1 h1 (fun v1 h2 => v1 = v ∧ Ev X (d + 1) rc rs mL_law 1379 [(2, -2), (2, 0), (2, 78), (0, s)] [] (sh1, pt1, h2) Q))) : Ev X (d + 1) (rc + mc) (rs + ms) mL_law 717 [(2, -2), (2, 0), (2, 78), (0, s)] [] (sh, pt, h) Q := by
  refine ev_aload_n 718 rfl dL_law_717 rfl rfl ?_
  refine ev_aload_n 719 rfl dL_law_718 rfl rfl ?_
  refine ev_iload_n 720 rfl dL_law_719 rfl rfl ?_
  refine ev_iconst 721 rfl dL_law_720 (by decide) ?_
  refine ev_iadd 722 rfl dL_law_721 (lH_q hl (by decide) (by decide)) ?_
  refine ev_iaload_ro 723 rfl dL_law_722 qro_s (lH_0 hl (by decide)) (lH_1 hl (by decide)) ?_
  refine ev_aload_n 724 rfl dL_law_723 rfl rfl ?_
  refine ev_iload_n 725 rfl dL_law_724 rfl rfl ?_
  refine ev_iconst 726 rfl dL_law_725 (by decide) ?_
  refine ev_iadd 727 rfl dL_law_726 (lH_q hl (by decide) (by decide)) ?_
  refine ev_iaload_ro 728 rfl dL_law_727 qro_s (lH_0 hl (by decide)) (lH_1 hl (by decide)) ?_
  refine ev_aload_n 729 rfl dL_law_728 rfl rfl ?_
  refine ev_iload_n 730 rfl dL_law_729 rfl rfl ?_
  refine ev_iconst 731 rfl dL_law_730 (by decide) ?_
  refine ev_iadd 732 rfl dL_law_731 (lH_q hl (by decide) (by decide)) ?_
  refine ev_iaload_ro 733 rfl dL_law_732 qro_s (lH_0 hl (by decide)) (lH_1 hl (by decide)) ?_
  refine ev_callV (As := [(0, X.2.2 (s + 1)), (0, X.2.2 (s + 2)), (0, X.2.2 (s + 3))]) (rest := []) 736 rfl dL_law_733 lm_L_82 mm_X10_at (s_0 hst) rfl rfl (Nat.le_of_ble_eq_true rfl) (Nat.le_of_ble_eq_true rfl) (Nat.le_refl _) H ?_
  intro r g H
  obtain ⟨v, sh1, pt1, h1, e1, e2, hst, H⟩ := H
  subst e1
  subst e2
  refine ev_aload_n 737 rfl dL_law_736 rfl rfl ?_
  refine ev_aload_n 738 rfl dL_law_737 rfl rfl ?_
  refine ev_iload_n 739 rfl dL_law_738 rfl rfl ?_
  refine ev_iconst 740 rfl dL_law_739 (by decide) ?_
  refine ev_iadd 741 rfl dL_law_740 (lH_q hl (by decide) (by decide)) ?_
  refine ev_iaload_ro 742 rfl dL_law_741 qro_s (lH_0 hl (by decide)) (lH_1 hl (by decide)) ?_
  refine ev_aload_n 743 rfl dL_law_742 rfl rfl ?_
  refine ev_iload_n 744 rfl dL_law_743 rfl rfl ?_
  refine ev_iconst 745 rfl dL_law_744 (by decide) ?_
  refine ev_iadd 746 rfl dL_law_745 (lH_q hl (by decide) (by decide)) ?_
  refine ev_iaload_ro 747 rfl dL_law_746 qro_s (lH_0 hl (by decide)) (lH_1 hl (by decide)) ?_
  refine ev_aload_n 748 rfl dL_law_747 rfl rfl ?_
  refine ev_iload_n 749 rfl dL_law_748 rfl rfl ?_
  refine ev_iconst 750 rfl dL_law_749 (by decide) ?_
  refine ev_iadd 751 rfl dL_law_750 (lH_q hl (by decide) (by decide)) ?_
  refine ev_iaload_ro 752 rfl dL_law_751 qro_s (lH_0 hl (by decide)) (lH_1 hl (by decide)) ?_
  refine ev_cVI (As := [(0, X.2.2 (s + 1)), (0, X.2.2 (s + 2)), (0, X.2.2 (s + 3))]) (rest := [(0, v)]) 755 rfl dL_law_752 lm_L_85 mm_X11_at (s_78 hst) rfl rfl (Nat.le_of_ble_eq_true rfl) (Nat.le_of_ble_eq_true rfl) (Nat.le_refl _) H ?_
  intro v1 h2 H
  exact ev_icmp_eq (tgt := 1379) 758 rfl dL_law_755 (by decide) (fun _ => H.2) (fun c => absurd H.1.symm c)
theorem l_told (hl : lHd X s) (hst : St sh pt) (H : Run X d mc ms mX10_told [(2, 0), (0, X.2.2 (s + 1))] (sh, pt, h) (fun r g => ∃ v sh1 pt1 h1, r = some (0, v) ∧ g = (sh1, pt1, h1) ∧ St sh1 pt1 ∧ RunI X d mX11_told [(2, 78), (0, X.2.2 (s + 1))] sh1 pt1 h1 (fun v1 h2 => v1 = v ∧ Ev X (d + 1) rc rs mL_law 1379 [(2, -2), (2, 0), (2, 78), (0, s)] [] (sh1, pt1, h2) Q))) : Ev X (d + 1) (rc + mc) (rs + ms) mL_law 760 [(2, -2), (2, 0), (2, 78), (0, s)] [] (sh, pt, h) Q := by
  refine ev_aload_n 761 rfl dL_law_760 rfl rfl ?_
  refine ev_aload_n 762 rfl dL_law_761 rfl rfl ?_
  refine ev_iload_n 763 rfl dL_law_762 rfl rfl ?_
  refine ev_iconst 764 rfl dL_law_763 (by decide) ?_
  refine ev_iadd 765 rfl dL_law_764 (lH_q hl (by decide) (by decide)) ?_
  refine ev_iaload_ro 766 rfl dL_law_765 qro_s (lH_0 hl (by decide)) (lH_1 hl (by decide)) ?_
  refine ev_callV (As := [(0, X.2.2 (s + 1))]) (rest := []) 769 rfl dL_law_766 lm_L_86 mm_X10_told (s_0 hst) rfl rfl (Nat.le_of_ble_eq_true rfl) (Nat.le_of_ble_eq_true rfl) (Nat.le_refl _) H ?_
  intro r g H
  obtain ⟨v, sh1, pt1, h1, e1, e2, hst, H⟩ := H
  subst e1
  subst e2
  refine ev_aload_n 770 rfl dL_law_769 rfl rfl ?_
  refine ev_aload_n 771 rfl dL_law_770 rfl rfl ?_
  refine ev_iload_n 772 rfl dL_law_771 rfl rfl ?_
  refine ev_iconst 773 rfl dL_law_772 (by decide) ?_
  refine ev_iadd 774 rfl dL_law_773 (lH_q hl (by decide) (by decide)) ?_
  refine ev_iaload_ro 775 rfl dL_law_774 qro_s (lH_0 hl (by decide)) (lH_1 hl (by decide)) ?_
  refine ev_cVI (As := [(0, X.2.2 (s + 1))]) (rest := [(0, v)]) 778 rfl dL_law_775 lm_L_89 mm_X11_told (s_78 hst) rfl rfl (Nat.le_of_ble_eq_true rfl) (Nat.le_of_ble_eq_true rfl) (Nat.le_refl _) H ?_
  intro v1 h2 H
  exact ev_icmp_eq (tgt := 1379) 781 rfl dL_law_778 (by decide) (fun _ => H.2) (fun c => absurd H.1.symm c)
theorem l_clash (hl : lHd X s) (hst : St sh pt) (H : Run X d mc ms mX10_clash [(2, 0), (0, X.2.2 (s + 1)), (0, X.2.2 (s + 2))] (sh, pt, h) (fun r g => ∃ v sh1 pt1 h1, r = some (0, v) ∧ g = (sh1, pt1, h1) ∧ St sh1 pt1 ∧ RunI X d mX11_clash [(2, 78), (0, X.2.2 (s + 1)), (0, X.2.2 (s + 2))] sh1 pt1 h1 (fun v1 h2 => v1 = v ∧ Ev X (d + 1) rc rs mL_law 1379 [(2, -2), (2, 0), (2, 78), (0, s)] [] (sh1, pt1, h2) Q))) : Ev X (d + 1) (rc + mc) (rs + ms) mL_law 783 [(2, -2), (2, 0), (2, 78), (0, s)] [] (sh, pt, h) Q := by
  refine ev_aload_n 784 rfl dL_law_783 rfl rfl ?_
  refine ev_aload_n 785 rfl dL_law_784 rfl rfl ?_
  refine ev_iload_n 786 rfl dL_law_785 rfl rfl ?_
  refine ev_iconst 787 rfl dL_law_786 (by decide) ?_
  refine ev_iadd 788 rfl dL_law_787 (lH_q hl (by decide) (by decide)) ?_
  refine ev_iaload_ro 789 rfl dL_law_788 qro_s (lH_0 hl (by decide)) (lH_1 hl (by decide)) ?_
  refine ev_aload_n 790 rfl dL_law_789 rfl rfl ?_
  refine ev_iload_n 791 rfl dL_law_790 rfl rfl ?_
  refine ev_iconst 792 rfl dL_law_791 (by decide) ?_
  refine ev_iadd 793 rfl dL_law_792 (lH_q hl (by decide) (by decide)) ?_
  refine ev_iaload_ro 794 rfl dL_law_793 qro_s (lH_0 hl (by decide)) (lH_1 hl (by decide)) ?_
  refine ev_callV (As := [(0, X.2.2 (s + 1)), (0, X.2.2 (s + 2))]) (rest := []) 797 rfl dL_law_794 lm_L_90 mm_X10_clash (s_0 hst) rfl rfl (Nat.le_of_ble_eq_true rfl) (Nat.le_of_ble_eq_true rfl) (Nat.le_refl _) H ?_
  intro r g H
  obtain ⟨v, sh1, pt1, h1, e1, e2, hst, H⟩ := H
  subst e1
  subst e2
  refine ev_aload_n 798 rfl dL_law_797 rfl rfl ?_
  refine ev_aload_n 799 rfl dL_law_798 rfl rfl ?_
  refine ev_iload_n 800 rfl dL_law_799 rfl rfl ?_
  refine ev_iconst 801 rfl dL_law_800 (by decide) ?_
  refine ev_iadd 802 rfl dL_law_801 (lH_q hl (by decide) (by decide)) ?_
  refine ev_iaload_ro 803 rfl dL_law_802 qro_s (lH_0 hl (by decide)) (lH_1 hl (by decide)) ?_
  refine ev_aload_n 804 rfl dL_law_803 rfl rfl ?_
  refine ev_iload_n 805 rfl dL_law_804 rfl rfl ?_
  refine ev_iconst 806 rfl dL_law_805 (by decide) ?_
  refine ev_iadd 807 rfl dL_law_806 (lH_q hl (by decide) (by decide)) ?_
  refine ev_iaload_ro 808 rfl dL_law_807 qro_s (lH_0 hl (by decide)) (lH_1 hl (by decide)) ?_
  refine ev_cVI (As := [(0, X.2.2 (s + 1)), (0, X.2.2 (s + 2))]) (rest := [(0, v)]) 811 rfl dL_law_808 lm_L_94 mm_X11_clash (s_78 hst) rfl rfl (Nat.le_of_ble_eq_true rfl) (Nat.le_of_ble_eq_true rfl) (Nat.le_refl _) H ?_
  intro v1 h2 H
  exact ev_icmp_eq (tgt := 1379) 814 rfl dL_law_811 (by decide) (fun _ => H.2) (fun c => absurd H.1.symm c)
theorem l_dressed (hl : lHd X s) (hst : St sh pt) (H : Run X d mc ms mX10_dressed [(2, 0), (0, X.2.2 (s + 1)), (0, X.2.2 (s + 2))] (sh, pt, h) (fun r g => ∃ v sh1 pt1 h1, r = some (0, v) ∧ g = (sh1, pt1, h1) ∧ St sh1 pt1 ∧ RunI X d mX11_dressed [(2, 78), (0, X.2.2 (s + 1)), (0, X.2.2 (s + 2))] sh1 pt1 h1 (fun v1 h2 => v1 = v ∧ Ev X (d + 1) rc rs mL_law 1379 [(2, -2), (2, 0), (2, 78), (0, s)] [] (sh1, pt1, h2) Q))) : Ev X (d + 1) (rc + mc) (rs + ms) mL_law 816 [(2, -2), (2, 0), (2, 78), (0, s)] [] (sh, pt, h) Q := by
  refine ev_aload_n 817 rfl dL_law_816 rfl rfl ?_
  refine ev_aload_n 818 rfl dL_law_817 rfl rfl ?_
  refine ev_iload_n 819 rfl dL_law_818 rfl rfl ?_
  refine ev_iconst 820 rfl dL_law_819 (by decide) ?_
  refine ev_iadd 821 rfl dL_law_820 (lH_q hl (by decide) (by decide)) ?_
  refine ev_iaload_ro 822 rfl dL_law_821 qro_s (lH_0 hl (by decide)) (lH_1 hl (by decide)) ?_
  refine ev_aload_n 823 rfl dL_law_822 rfl rfl ?_
  refine ev_iload_n 824 rfl dL_law_823 rfl rfl ?_
  refine ev_iconst 825 rfl dL_law_824 (by decide) ?_
  refine ev_iadd 826 rfl dL_law_825 (lH_q hl (by decide) (by decide)) ?_
  refine ev_iaload_ro 827 rfl dL_law_826 qro_s (lH_0 hl (by decide)) (lH_1 hl (by decide)) ?_
  refine ev_callV (As := [(0, X.2.2 (s + 1)), (0, X.2.2 (s + 2))]) (rest := []) 830 rfl dL_law_827 lm_L_95 mm_X10_dressed (s_0 hst) rfl rfl (Nat.le_of_ble_eq_true rfl) (Nat.le_of_ble_eq_true rfl) (Nat.le_refl _) H ?_
  intro r g H
  obtain ⟨v, sh1, pt1, h1, e1, e2, hst, H⟩ := H
  subst e1
  subst e2
  refine ev_aload_n 831 rfl dL_law_830 rfl rfl ?_
  refine ev_aload_n 832 rfl dL_law_831 rfl rfl ?_
  refine ev_iload_n 833 rfl dL_law_832 rfl rfl ?_
  refine ev_iconst 834 rfl dL_law_833 (by decide) ?_
  refine ev_iadd 835 rfl dL_law_834 (lH_q hl (by decide) (by decide)) ?_
  refine ev_iaload_ro 836 rfl dL_law_835 qro_s (lH_0 hl (by decide)) (lH_1 hl (by decide)) ?_
  refine ev_aload_n 837 rfl dL_law_836 rfl rfl ?_
  refine ev_iload_n 838 rfl dL_law_837 rfl rfl ?_
  refine ev_iconst 839 rfl dL_law_838 (by decide) ?_
  refine ev_iadd 840 rfl dL_law_839 (lH_q hl (by decide) (by decide)) ?_
  refine ev_iaload_ro 841 rfl dL_law_840 qro_s (lH_0 hl (by decide)) (lH_1 hl (by decide)) ?_
  refine ev_cVI (As := [(0, X.2.2 (s + 1)), (0, X.2.2 (s + 2))]) (rest := [(0, v)]) 844 rfl dL_law_841 lm_L_98 mm_X11_dressed (s_78 hst) rfl rfl (Nat.le_of_ble_eq_true rfl) (Nat.le_of_ble_eq_true rfl) (Nat.le_refl _) H ?_
  intro v1 h2 H
  exact ev_icmp_eq (tgt := 1379) 847 rfl dL_law_844 (by decide) (fun _ => H.2) (fun c => absurd H.1.symm c)
theorem l_like (hl : lHd X s) (hst : St sh pt) (H : Run X d mc ms mX10_like [(2, 0), (0, X.2.2 (s + 1)), (0, X.2.2 (s + 2))] (sh, pt, h) (fun r g => ∃ v sh1 pt1 h1, r = some (0, v) ∧ g = (sh1, pt1, h1) ∧ St sh1 pt1 ∧ RunI X d mX11_like [(2, 78), (0, X.2.2 (s + 1)), (0, X.2.2 (s + 2))] sh1 pt1 h1 (fun v1 h2 => v1 = v ∧ Ev X (d + 1) rc rs mL_law 1379 [(2, -2), (2, 0), (2, 78), (0, s)] [] (sh1, pt1, h2) Q))) : Ev X (d + 1) (rc + mc) (rs + ms) mL_law 849 [(2, -2), (2, 0), (2, 78), (0, s)] [] (sh, pt, h) Q := by
  refine ev_aload_n 850 rfl dL_law_849 rfl rfl ?_
  refine ev_aload_n 851 rfl dL_law_850 rfl rfl ?_
  refine ev_iload_n 852 rfl dL_law_851 rfl rfl ?_
  refine ev_iconst 853 rfl dL_law_852 (by decide) ?_
  refine ev_iadd 854 rfl dL_law_853 (lH_q hl (by decide) (by decide)) ?_
  refine ev_iaload_ro 855 rfl dL_law_854 qro_s (lH_0 hl (by decide)) (lH_1 hl (by decide)) ?_
  refine ev_aload_n 856 rfl dL_law_855 rfl rfl ?_
  refine ev_iload_n 857 rfl dL_law_856 rfl rfl ?_
  refine ev_iconst 858 rfl dL_law_857 (by decide) ?_
  refine ev_iadd 859 rfl dL_law_858 (lH_q hl (by decide) (by decide)) ?_
  refine ev_iaload_ro 860 rfl dL_law_859 qro_s (lH_0 hl (by decide)) (lH_1 hl (by decide)) ?_
  refine ev_callV (As := [(0, X.2.2 (s + 1)), (0, X.2.2 (s + 2))]) (rest := []) 863 rfl dL_law_860 lm_L_99 mm_X10_like (s_0 hst) rfl rfl (Nat.le_of_ble_eq_true rfl) (Nat.le_of_ble_eq_true rfl) (Nat.le_refl _) H ?_
  intro r g H
  obtain ⟨v, sh1, pt1, h1, e1, e2, hst, H⟩ := H
  subst e1
  subst e2
  refine ev_aload_n 864 rfl dL_law_863 rfl rfl ?_
  refine ev_aload_n 865 rfl dL_law_864 rfl rfl ?_
  refine ev_iload_n 866 rfl dL_law_865 rfl rfl ?_
  refine ev_iconst 867 rfl dL_law_866 (by decide) ?_
  refine ev_iadd 868 rfl dL_law_867 (lH_q hl (by decide) (by decide)) ?_
  refine ev_iaload_ro 869 rfl dL_law_868 qro_s (lH_0 hl (by decide)) (lH_1 hl (by decide)) ?_
  refine ev_aload_n 870 rfl dL_law_869 rfl rfl ?_
  refine ev_iload_n 871 rfl dL_law_870 rfl rfl ?_
  refine ev_iconst 872 rfl dL_law_871 (by decide) ?_
  refine ev_iadd 873 rfl dL_law_872 (lH_q hl (by decide) (by decide)) ?_
  refine ev_iaload_ro 874 rfl dL_law_873 qro_s (lH_0 hl (by decide)) (lH_1 hl (by decide)) ?_
  refine ev_cVI (As := [(0, X.2.2 (s + 1)), (0, X.2.2 (s + 2))]) (rest := [(0, v)]) 877 rfl dL_law_874 lm_L_102 mm_X11_like (s_78 hst) rfl rfl (Nat.le_of_ble_eq_true rfl) (Nat.le_of_ble_eq_true rfl) (Nat.le_refl _) H ?_
  intro v1 h2 H
  exact ev_icmp_eq (tgt := 1379) 880 rfl dL_law_877 (by decide) (fun _ => H.2) (fun c => absurd H.1.symm c)
theorem l_seen (hl : lHd X s) (hst : St sh pt) (H : Run X d mc ms mX10_seen [(2, 0), (0, X.2.2 (s + 1)), (0, X.2.2 (s + 2)), (0, X.2.2 (s + 3))] (sh, pt, h) (fun r g => ∃ v sh1 pt1 h1, r = some (0, v) ∧ g = (sh1, pt1, h1) ∧ St sh1 pt1 ∧ RunI X d mX11_seen [(2, 78), (0, X.2.2 (s + 1)), (0, X.2.2 (s + 2)), (0, X.2.2 (s + 3))] sh1 pt1 h1 (fun v1 h2 => v1 = v ∧ Ev X (d + 1) rc rs mL_law 1379 [(2, -2), (2, 0), (2, 78), (0, s)] [] (sh1, pt1, h2) Q))) : Ev X (d + 1) (rc + mc) (rs + ms) mL_law 882 [(2, -2), (2, 0), (2, 78), (0, s)] [] (sh, pt, h) Q := by
  refine ev_aload_n 883 rfl dL_law_882 rfl rfl ?_
  refine ev_aload_n 884 rfl dL_law_883 rfl rfl ?_
  refine ev_iload_n 885 rfl dL_law_884 rfl rfl ?_
  refine ev_iconst 886 rfl dL_law_885 (by decide) ?_
  refine ev_iadd 887 rfl dL_law_886 (lH_q hl (by decide) (by decide)) ?_
  refine ev_iaload_ro 888 rfl dL_law_887 qro_s (lH_0 hl (by decide)) (lH_1 hl (by decide)) ?_
  refine ev_aload_n 889 rfl dL_law_888 rfl rfl ?_
  refine ev_iload_n 890 rfl dL_law_889 rfl rfl ?_
  refine ev_iconst 891 rfl dL_law_890 (by decide) ?_
  refine ev_iadd 892 rfl dL_law_891 (lH_q hl (by decide) (by decide)) ?_
  refine ev_iaload_ro 893 rfl dL_law_892 qro_s (lH_0 hl (by decide)) (lH_1 hl (by decide)) ?_
  refine ev_aload_n 894 rfl dL_law_893 rfl rfl ?_
  refine ev_iload_n 895 rfl dL_law_894 rfl rfl ?_
  refine ev_iconst 896 rfl dL_law_895 (by decide) ?_
  refine ev_iadd 897 rfl dL_law_896 (lH_q hl (by decide) (by decide)) ?_
  refine ev_iaload_ro 898 rfl dL_law_897 qro_s (lH_0 hl (by decide)) (lH_1 hl (by decide)) ?_
  refine ev_callV (As := [(0, X.2.2 (s + 1)), (0, X.2.2 (s + 2)), (0, X.2.2 (s + 3))]) (rest := []) 901 rfl dL_law_898 lm_L_103 mm_X10_seen (s_0 hst) rfl rfl (Nat.le_of_ble_eq_true rfl) (Nat.le_of_ble_eq_true rfl) (Nat.le_refl _) H ?_
  intro r g H
  obtain ⟨v, sh1, pt1, h1, e1, e2, hst, H⟩ := H
  subst e1
  subst e2
  refine ev_aload_n 902 rfl dL_law_901 rfl rfl ?_
  refine ev_aload_n 903 rfl dL_law_902 rfl rfl ?_
  refine ev_iload_n 904 rfl dL_law_903 rfl rfl ?_
  refine ev_iconst 905 rfl dL_law_904 (by decide) ?_
  refine ev_iadd 906 rfl dL_law_905 (lH_q hl (by decide) (by decide)) ?_
  refine ev_iaload_ro 907 rfl dL_law_906 qro_s (lH_0 hl (by decide)) (lH_1 hl (by decide)) ?_
  refine ev_aload_n 908 rfl dL_law_907 rfl rfl ?_
  refine ev_iload_n 909 rfl dL_law_908 rfl rfl ?_
  refine ev_iconst 910 rfl dL_law_909 (by decide) ?_
  refine ev_iadd 911 rfl dL_law_910 (lH_q hl (by decide) (by decide)) ?_
  refine ev_iaload_ro 912 rfl dL_law_911 qro_s (lH_0 hl (by decide)) (lH_1 hl (by decide)) ?_
  refine ev_aload_n 913 rfl dL_law_912 rfl rfl ?_
  refine ev_iload_n 914 rfl dL_law_913 rfl rfl ?_
  refine ev_iconst 915 rfl dL_law_914 (by decide) ?_
  refine ev_iadd 916 rfl dL_law_915 (lH_q hl (by decide) (by decide)) ?_
  refine ev_iaload_ro 917 rfl dL_law_916 qro_s (lH_0 hl (by decide)) (lH_1 hl (by decide)) ?_
  refine ev_cVI (As := [(0, X.2.2 (s + 1)), (0, X.2.2 (s + 2)), (0, X.2.2 (s + 3))]) (rest := [(0, v)]) 920 rfl dL_law_917 lm_L_106 mm_X11_seen (s_78 hst) rfl rfl (Nat.le_of_ble_eq_true rfl) (Nat.le_of_ble_eq_true rfl) (Nat.le_refl _) H ?_
  intro v1 h2 H
  exact ev_icmp_eq (tgt := 1379) 923 rfl dL_law_920 (by decide) (fun _ => H.2) (fun c => absurd H.1.symm c)
theorem l_goes (hl : lHd X s) (hst : St sh pt) (H : Run X d mc ms mX10_goes [(2, 0), (0, X.2.2 (s + 1)), (0, X.2.2 (s + 2)), (0, X.2.2 (s + 3))] (sh, pt, h) (fun r g => ∃ v sh1 pt1 h1, r = some (0, v) ∧ g = (sh1, pt1, h1) ∧ St sh1 pt1 ∧ RunI X d mX11_goes_ [(2, 78), (0, X.2.2 (s + 1)), (0, X.2.2 (s + 2)), (0, X.2.2 (s + 3))] sh1 pt1 h1 (fun v1 h2 => v1 = v ∧ Ev X (d + 1) rc rs mL_law 1379 [(2, -2), (2, 0), (2, 78), (0, s)] [] (sh1, pt1, h2) Q))) : Ev X (d + 1) (rc + mc) (rs + ms) mL_law 925 [(2, -2), (2, 0), (2, 78), (0, s)] [] (sh, pt, h) Q := by
  refine ev_aload_n 926 rfl dL_law_925 rfl rfl ?_
  refine ev_aload_n 927 rfl dL_law_926 rfl rfl ?_
  refine ev_iload_n 928 rfl dL_law_927 rfl rfl ?_
  refine ev_iconst 929 rfl dL_law_928 (by decide) ?_
  refine ev_iadd 930 rfl dL_law_929 (lH_q hl (by decide) (by decide)) ?_
  refine ev_iaload_ro 931 rfl dL_law_930 qro_s (lH_0 hl (by decide)) (lH_1 hl (by decide)) ?_
  refine ev_aload_n 932 rfl dL_law_931 rfl rfl ?_
  refine ev_iload_n 933 rfl dL_law_932 rfl rfl ?_
  refine ev_iconst 934 rfl dL_law_933 (by decide) ?_
  refine ev_iadd 935 rfl dL_law_934 (lH_q hl (by decide) (by decide)) ?_
  refine ev_iaload_ro 936 rfl dL_law_935 qro_s (lH_0 hl (by decide)) (lH_1 hl (by decide)) ?_
  refine ev_aload_n 937 rfl dL_law_936 rfl rfl ?_
  refine ev_iload_n 938 rfl dL_law_937 rfl rfl ?_
  refine ev_iconst 939 rfl dL_law_938 (by decide) ?_
  refine ev_iadd 940 rfl dL_law_939 (lH_q hl (by decide) (by decide)) ?_
  refine ev_iaload_ro 941 rfl dL_law_940 qro_s (lH_0 hl (by decide)) (lH_1 hl (by decide)) ?_
  refine ev_callV (As := [(0, X.2.2 (s + 1)), (0, X.2.2 (s + 2)), (0, X.2.2 (s + 3))]) (rest := []) 944 rfl dL_law_941 lm_L_107 mm_X10_goes (s_0 hst) rfl rfl (Nat.le_of_ble_eq_true rfl) (Nat.le_of_ble_eq_true rfl) (Nat.le_refl _) H ?_
  intro r g H
  obtain ⟨v, sh1, pt1, h1, e1, e2, hst, H⟩ := H
  subst e1
  subst e2
  refine ev_aload_n 945 rfl dL_law_944 rfl rfl ?_
  refine ev_aload_n 946 rfl dL_law_945 rfl rfl ?_
  refine ev_iload_n 947 rfl dL_law_946 rfl rfl ?_
  refine ev_iconst 948 rfl dL_law_947 (by decide) ?_
  refine ev_iadd 949 rfl dL_law_948 (lH_q hl (by decide) (by decide)) ?_
  refine ev_iaload_ro 950 rfl dL_law_949 qro_s (lH_0 hl (by decide)) (lH_1 hl (by decide)) ?_
  refine ev_aload_n 951 rfl dL_law_950 rfl rfl ?_
  refine ev_iload_n 952 rfl dL_law_951 rfl rfl ?_
  refine ev_iconst 953 rfl dL_law_952 (by decide) ?_
  refine ev_iadd 954 rfl dL_law_953 (lH_q hl (by decide) (by decide)) ?_
  refine ev_iaload_ro 955 rfl dL_law_954 qro_s (lH_0 hl (by decide)) (lH_1 hl (by decide)) ?_
  refine ev_aload_n 956 rfl dL_law_955 rfl rfl ?_
  refine ev_iload_n 957 rfl dL_law_956 rfl rfl ?_
  refine ev_iconst 958 rfl dL_law_957 (by decide) ?_
  refine ev_iadd 959 rfl dL_law_958 (lH_q hl (by decide) (by decide)) ?_
  refine ev_iaload_ro 960 rfl dL_law_959 qro_s (lH_0 hl (by decide)) (lH_1 hl (by decide)) ?_
  refine ev_cVI (As := [(0, X.2.2 (s + 1)), (0, X.2.2 (s + 2)), (0, X.2.2 (s + 3))]) (rest := [(0, v)]) 963 rfl dL_law_960 lm_L_110 mm_X11_goes_ (s_78 hst) rfl rfl (Nat.le_of_ble_eq_true rfl) (Nat.le_of_ble_eq_true rfl) (Nat.le_refl _) H ?_
  intro v1 h2 H
  exact ev_icmp_eq (tgt := 1379) 966 rfl dL_law_963 (by decide) (fun _ => H.2) (fun c => absurd H.1.symm c)
theorem l_spotOf (hl : lHd X s) (hst : St sh pt) (H : Run X d mc ms mX10_spotOf [(2, 0), (0, X.2.2 (s + 1))] (sh, pt, h) (fun r g => ∃ v sh1 pt1 h1, r = some (0, v) ∧ g = (sh1, pt1, h1) ∧ St sh1 pt1 ∧ RunI X d mX11_spotOf [(2, 78), (0, X.2.2 (s + 1))] sh1 pt1 h1 (fun v1 h2 => v1 = v ∧ Ev X (d + 1) rc rs mL_law 1379 [(2, -2), (2, 0), (2, 78), (0, s)] [] (sh1, pt1, h2) Q))) : Ev X (d + 1) (rc + mc) (rs + ms) mL_law 968 [(2, -2), (2, 0), (2, 78), (0, s)] [] (sh, pt, h) Q := by
  refine ev_aload_n 969 rfl dL_law_968 rfl rfl ?_
  refine ev_aload_n 970 rfl dL_law_969 rfl rfl ?_
  refine ev_iload_n 971 rfl dL_law_970 rfl rfl ?_
  refine ev_iconst 972 rfl dL_law_971 (by decide) ?_
  refine ev_iadd 973 rfl dL_law_972 (lH_q hl (by decide) (by decide)) ?_
  refine ev_iaload_ro 974 rfl dL_law_973 qro_s (lH_0 hl (by decide)) (lH_1 hl (by decide)) ?_
  refine ev_callV (As := [(0, X.2.2 (s + 1))]) (rest := []) 977 rfl dL_law_974 lm_L_111 mm_X10_spotOf (s_0 hst) rfl rfl (Nat.le_of_ble_eq_true rfl) (Nat.le_of_ble_eq_true rfl) (Nat.le_refl _) H ?_
  intro r g H
  obtain ⟨v, sh1, pt1, h1, e1, e2, hst, H⟩ := H
  subst e1
  subst e2
  refine ev_aload_n 978 rfl dL_law_977 rfl rfl ?_
  refine ev_aload_n 979 rfl dL_law_978 rfl rfl ?_
  refine ev_iload_n 980 rfl dL_law_979 rfl rfl ?_
  refine ev_iconst 981 rfl dL_law_980 (by decide) ?_
  refine ev_iadd 982 rfl dL_law_981 (lH_q hl (by decide) (by decide)) ?_
  refine ev_iaload_ro 983 rfl dL_law_982 qro_s (lH_0 hl (by decide)) (lH_1 hl (by decide)) ?_
  refine ev_cVI (As := [(0, X.2.2 (s + 1))]) (rest := [(0, v)]) 986 rfl dL_law_983 lm_L_114 mm_X11_spotOf (s_78 hst) rfl rfl (Nat.le_of_ble_eq_true rfl) (Nat.le_of_ble_eq_true rfl) (Nat.le_refl _) H ?_
  intro v1 h2 H
  exact ev_icmp_eq (tgt := 1379) 989 rfl dL_law_986 (by decide) (fun _ => H.2) (fun c => absurd H.1.symm c)
theorem l_path (hl : lHd X s) (hst : St sh pt) (H : Run X d mc ms mX10_path [(2, 0), (0, X.2.2 (s + 1)), (0, X.2.2 (s + 2)), (0, X.2.2 (s + 3)), (0, X.2.2 (s + 4))] (sh, pt, h) (fun r g => ∃ v sh1 pt1 h1, r = some (0, v) ∧ g = (sh1, pt1, h1) ∧ St sh1 pt1 ∧ RunI X d mX11_path [(2, 78), (0, X.2.2 (s + 1)), (0, X.2.2 (s + 2)), (0, X.2.2 (s + 3)), (0, X.2.2 (s + 4))] sh1 pt1 h1 (fun v1 h2 => v1 = v ∧ Ev X (d + 1) rc rs mL_law 1379 [(2, -2), (2, 0), (2, 78), (0, s)] [] (sh1, pt1, h2) Q))) : Ev X (d + 1) (rc + mc) (rs + ms) mL_law 991 [(2, -2), (2, 0), (2, 78), (0, s)] [] (sh, pt, h) Q := by
  refine ev_aload_n 992 rfl dL_law_991 rfl rfl ?_
  refine ev_aload_n 993 rfl dL_law_992 rfl rfl ?_
  refine ev_iload_n 994 rfl dL_law_993 rfl rfl ?_
  refine ev_iconst 995 rfl dL_law_994 (by decide) ?_
  refine ev_iadd 996 rfl dL_law_995 (lH_q hl (by decide) (by decide)) ?_
  refine ev_iaload_ro 997 rfl dL_law_996 qro_s (lH_0 hl (by decide)) (lH_1 hl (by decide)) ?_
  refine ev_aload_n 998 rfl dL_law_997 rfl rfl ?_
  refine ev_iload_n 999 rfl dL_law_998 rfl rfl ?_
  refine ev_iconst 1000 rfl dL_law_999 (by decide) ?_
  refine ev_iadd 1001 rfl dL_law_1000 (lH_q hl (by decide) (by decide)) ?_
  refine ev_iaload_ro 1002 rfl dL_law_1001 qro_s (lH_0 hl (by decide)) (lH_1 hl (by decide)) ?_
  refine ev_aload_n 1003 rfl dL_law_1002 rfl rfl ?_
  refine ev_iload_n 1004 rfl dL_law_1003 rfl rfl ?_
  refine ev_iconst 1005 rfl dL_law_1004 (by decide) ?_
  refine ev_iadd 1006 rfl dL_law_1005 (lH_q hl (by decide) (by decide)) ?_
  refine ev_iaload_ro 1007 rfl dL_law_1006 qro_s (lH_0 hl (by decide)) (lH_1 hl (by decide)) ?_
  refine ev_aload_n 1008 rfl dL_law_1007 rfl rfl ?_
  refine ev_iload_n 1009 rfl dL_law_1008 rfl rfl ?_
  refine ev_iconst 1010 rfl dL_law_1009 (by decide) ?_
  refine ev_iadd 1011 rfl dL_law_1010 (lH_q hl (by decide) (by decide)) ?_
  refine ev_iaload_ro 1012 rfl dL_law_1011 qro_s (lH_0 hl (by decide)) (lH_1 hl (by decide)) ?_
  refine ev_callV (As := [(0, X.2.2 (s + 1)), (0, X.2.2 (s + 2)), (0, X.2.2 (s + 3)), (0, X.2.2 (s + 4))]) (rest := []) 1015 rfl dL_law_1012 lm_L_115 mm_X10_path (s_0 hst) rfl rfl (Nat.le_of_ble_eq_true rfl) (Nat.le_of_ble_eq_true rfl) (Nat.le_refl _) H ?_
  intro r g H
  obtain ⟨v, sh1, pt1, h1, e1, e2, hst, H⟩ := H
  subst e1
  subst e2
  refine ev_aload_n 1016 rfl dL_law_1015 rfl rfl ?_
  refine ev_aload_n 1017 rfl dL_law_1016 rfl rfl ?_
  refine ev_iload_n 1018 rfl dL_law_1017 rfl rfl ?_
  refine ev_iconst 1019 rfl dL_law_1018 (by decide) ?_
  refine ev_iadd 1020 rfl dL_law_1019 (lH_q hl (by decide) (by decide)) ?_
  refine ev_iaload_ro 1021 rfl dL_law_1020 qro_s (lH_0 hl (by decide)) (lH_1 hl (by decide)) ?_
  refine ev_aload_n 1022 rfl dL_law_1021 rfl rfl ?_
  refine ev_iload_n 1023 rfl dL_law_1022 rfl rfl ?_
  refine ev_iconst 1024 rfl dL_law_1023 (by decide) ?_
  refine ev_iadd 1025 rfl dL_law_1024 (lH_q hl (by decide) (by decide)) ?_
  refine ev_iaload_ro 1026 rfl dL_law_1025 qro_s (lH_0 hl (by decide)) (lH_1 hl (by decide)) ?_
  refine ev_aload_n 1027 rfl dL_law_1026 rfl rfl ?_
  refine ev_iload_n 1028 rfl dL_law_1027 rfl rfl ?_
  refine ev_iconst 1029 rfl dL_law_1028 (by decide) ?_
  refine ev_iadd 1030 rfl dL_law_1029 (lH_q hl (by decide) (by decide)) ?_
  refine ev_iaload_ro 1031 rfl dL_law_1030 qro_s (lH_0 hl (by decide)) (lH_1 hl (by decide)) ?_
  refine ev_aload_n 1032 rfl dL_law_1031 rfl rfl ?_
  refine ev_iload_n 1033 rfl dL_law_1032 rfl rfl ?_
  refine ev_iconst 1034 rfl dL_law_1033 (by decide) ?_
  refine ev_iadd 1035 rfl dL_law_1034 (lH_q hl (by decide) (by decide)) ?_
  refine ev_iaload_ro 1036 rfl dL_law_1035 qro_s (lH_0 hl (by decide)) (lH_1 hl (by decide)) ?_
  refine ev_cVI (As := [(0, X.2.2 (s + 1)), (0, X.2.2 (s + 2)), (0, X.2.2 (s + 3)), (0, X.2.2 (s + 4))]) (rest := [(0, v)]) 1039 rfl dL_law_1036 lm_L_119 mm_X11_path (s_78 hst) rfl rfl (Nat.le_of_ble_eq_true rfl) (Nat.le_of_ble_eq_true rfl) (Nat.le_refl _) H ?_
  intro v1 h2 H
  exact ev_icmp_eq (tgt := 1379) 1042 rfl dL_law_1039 (by decide) (fun _ => H.2) (fun c => absurd H.1.symm c)
theorem l_move (hl : lHd X s) (hst : St sh pt) (H : Run X d mc ms mX10_move [(2, 0), (0, X.2.2 (s + 1))] (sh, pt, h) (fun r g => ∃ v sh1 pt1 h1, r = some (0, v) ∧ g = (sh1, pt1, h1) ∧ St sh1 pt1 ∧ RunI X d mX11_move [(2, 78), (0, X.2.2 (s + 1))] sh1 pt1 h1 (fun v1 h2 => v1 = v ∧ Ev X (d + 1) rc rs mL_law 1379 [(2, -2), (2, 0), (2, 78), (0, s)] [] (sh1, pt1, h2) Q))) : Ev X (d + 1) (rc + mc) (rs + ms) mL_law 1044 [(2, -2), (2, 0), (2, 78), (0, s)] [] (sh, pt, h) Q := by
  refine ev_aload_n 1045 rfl dL_law_1044 rfl rfl ?_
  refine ev_aload_n 1046 rfl dL_law_1045 rfl rfl ?_
  refine ev_iload_n 1047 rfl dL_law_1046 rfl rfl ?_
  refine ev_iconst 1048 rfl dL_law_1047 (by decide) ?_
  refine ev_iadd 1049 rfl dL_law_1048 (lH_q hl (by decide) (by decide)) ?_
  refine ev_iaload_ro 1050 rfl dL_law_1049 qro_s (lH_0 hl (by decide)) (lH_1 hl (by decide)) ?_
  refine ev_callV (As := [(0, X.2.2 (s + 1))]) (rest := []) 1053 rfl dL_law_1050 lm_L_120 mm_X10_move (s_0 hst) rfl rfl (Nat.le_of_ble_eq_true rfl) (Nat.le_of_ble_eq_true rfl) (Nat.le_refl _) H ?_
  intro r g H
  obtain ⟨v, sh1, pt1, h1, e1, e2, hst, H⟩ := H
  subst e1
  subst e2
  refine ev_aload_n 1054 rfl dL_law_1053 rfl rfl ?_
  refine ev_aload_n 1055 rfl dL_law_1054 rfl rfl ?_
  refine ev_iload_n 1056 rfl dL_law_1055 rfl rfl ?_
  refine ev_iconst 1057 rfl dL_law_1056 (by decide) ?_
  refine ev_iadd 1058 rfl dL_law_1057 (lH_q hl (by decide) (by decide)) ?_
  refine ev_iaload_ro 1059 rfl dL_law_1058 qro_s (lH_0 hl (by decide)) (lH_1 hl (by decide)) ?_
  refine ev_cVI (As := [(0, X.2.2 (s + 1))]) (rest := [(0, v)]) 1062 rfl dL_law_1059 lm_L_123 mm_X11_move (s_78 hst) rfl rfl (Nat.le_of_ble_eq_true rfl) (Nat.le_of_ble_eq_true rfl) (Nat.le_refl _) H ?_
  intro v1 h2 H
  exact ev_icmp_eq (tgt := 1379) 1065 rfl dL_law_1062 (by decide) (fun _ => H.2) (fun c => absurd H.1.symm c)
theorem l_person (hl : lHd X s) (hst : St sh pt) (H : Run X d mc ms mX10_person [(2, 0), (0, X.2.2 (s + 1))] (sh, pt, h) (fun r g => ∃ v sh1 pt1 h1, r = some (0, v) ∧ g = (sh1, pt1, h1) ∧ St sh1 pt1 ∧ RunI X d mX11_person [(2, 78), (0, X.2.2 (s + 1))] sh1 pt1 h1 (fun v1 h2 => v1 = v ∧ Ev X (d + 1) rc rs mL_law 1379 [(2, -2), (2, 0), (2, 78), (0, s)] [] (sh1, pt1, h2) Q))) : Ev X (d + 1) (rc + mc) (rs + ms) mL_law 1067 [(2, -2), (2, 0), (2, 78), (0, s)] [] (sh, pt, h) Q := by
  refine ev_aload_n 1068 rfl dL_law_1067 rfl rfl ?_
  refine ev_aload_n 1069 rfl dL_law_1068 rfl rfl ?_
  refine ev_iload_n 1070 rfl dL_law_1069 rfl rfl ?_
  refine ev_iconst 1071 rfl dL_law_1070 (by decide) ?_
  refine ev_iadd 1072 rfl dL_law_1071 (lH_q hl (by decide) (by decide)) ?_
  refine ev_iaload_ro 1073 rfl dL_law_1072 qro_s (lH_0 hl (by decide)) (lH_1 hl (by decide)) ?_
  refine ev_callV (As := [(0, X.2.2 (s + 1))]) (rest := []) 1076 rfl dL_law_1073 lm_L_124 mm_X10_person (s_0 hst) rfl rfl (Nat.le_of_ble_eq_true rfl) (Nat.le_of_ble_eq_true rfl) (Nat.le_refl _) H ?_
  intro r g H
  obtain ⟨v, sh1, pt1, h1, e1, e2, hst, H⟩ := H
  subst e1
  subst e2
  refine ev_aload_n 1077 rfl dL_law_1076 rfl rfl ?_
  refine ev_aload_n 1078 rfl dL_law_1077 rfl rfl ?_
  refine ev_iload_n 1079 rfl dL_law_1078 rfl rfl ?_
  refine ev_iconst 1080 rfl dL_law_1079 (by decide) ?_
  refine ev_iadd 1081 rfl dL_law_1080 (lH_q hl (by decide) (by decide)) ?_
  refine ev_iaload_ro 1082 rfl dL_law_1081 qro_s (lH_0 hl (by decide)) (lH_1 hl (by decide)) ?_
  refine ev_cVI (As := [(0, X.2.2 (s + 1))]) (rest := [(0, v)]) 1085 rfl dL_law_1082 lm_L_127 mm_X11_person (s_78 hst) rfl rfl (Nat.le_of_ble_eq_true rfl) (Nat.le_of_ble_eq_true rfl) (Nat.le_refl _) H ?_
  intro v1 h2 H
  exact ev_icmp_eq (tgt := 1379) 1088 rfl dL_law_1085 (by decide) (fun _ => H.2) (fun c => absurd H.1.symm c)
theorem l_away (hl : lHd X s) (hst : St sh pt) (H : Run X d mc ms mX10_away [(2, 0), (0, X.2.2 (s + 1)), (0, X.2.2 (s + 2)), (0, X.2.2 (s + 3)), (0, X.2.2 (s + 4))] (sh, pt, h) (fun r g => ∃ v sh1 pt1 h1, r = some (0, v) ∧ g = (sh1, pt1, h1) ∧ St sh1 pt1 ∧ RunI X d mX11_away [(2, 78), (0, X.2.2 (s + 1)), (0, X.2.2 (s + 2)), (0, X.2.2 (s + 3)), (0, X.2.2 (s + 4))] sh1 pt1 h1 (fun v1 h2 => v1 = v ∧ Ev X (d + 1) rc rs mL_law 1379 [(2, -2), (2, 0), (2, 78), (0, s)] [] (sh1, pt1, h2) Q))) : Ev X (d + 1) (rc + mc) (rs + ms) mL_law 1090 [(2, -2), (2, 0), (2, 78), (0, s)] [] (sh, pt, h) Q := by
  refine ev_aload_n 1091 rfl dL_law_1090 rfl rfl ?_
  refine ev_aload_n 1092 rfl dL_law_1091 rfl rfl ?_
  refine ev_iload_n 1093 rfl dL_law_1092 rfl rfl ?_
  refine ev_iconst 1094 rfl dL_law_1093 (by decide) ?_
  refine ev_iadd 1095 rfl dL_law_1094 (lH_q hl (by decide) (by decide)) ?_
  refine ev_iaload_ro 1096 rfl dL_law_1095 qro_s (lH_0 hl (by decide)) (lH_1 hl (by decide)) ?_
  refine ev_aload_n 1097 rfl dL_law_1096 rfl rfl ?_
  refine ev_iload_n 1098 rfl dL_law_1097 rfl rfl ?_
  refine ev_iconst 1099 rfl dL_law_1098 (by decide) ?_
  refine ev_iadd 1100 rfl dL_law_1099 (lH_q hl (by decide) (by decide)) ?_
  refine ev_iaload_ro 1101 rfl dL_law_1100 qro_s (lH_0 hl (by decide)) (lH_1 hl (by decide)) ?_
  refine ev_aload_n 1102 rfl dL_law_1101 rfl rfl ?_
  refine ev_iload_n 1103 rfl dL_law_1102 rfl rfl ?_
  refine ev_iconst 1104 rfl dL_law_1103 (by decide) ?_
  refine ev_iadd 1105 rfl dL_law_1104 (lH_q hl (by decide) (by decide)) ?_
  refine ev_iaload_ro 1106 rfl dL_law_1105 qro_s (lH_0 hl (by decide)) (lH_1 hl (by decide)) ?_
  refine ev_aload_n 1107 rfl dL_law_1106 rfl rfl ?_
  refine ev_iload_n 1108 rfl dL_law_1107 rfl rfl ?_
  refine ev_iconst 1109 rfl dL_law_1108 (by decide) ?_
  refine ev_iadd 1110 rfl dL_law_1109 (lH_q hl (by decide) (by decide)) ?_
  refine ev_iaload_ro 1111 rfl dL_law_1110 qro_s (lH_0 hl (by decide)) (lH_1 hl (by decide)) ?_
  refine ev_callV (As := [(0, X.2.2 (s + 1)), (0, X.2.2 (s + 2)), (0, X.2.2 (s + 3)), (0, X.2.2 (s + 4))]) (rest := []) 1114 rfl dL_law_1111 lm_L_128 mm_X10_away (s_0 hst) rfl rfl (Nat.le_of_ble_eq_true rfl) (Nat.le_of_ble_eq_true rfl) (Nat.le_refl _) H ?_
  intro r g H
  obtain ⟨v, sh1, pt1, h1, e1, e2, hst, H⟩ := H
  subst e1
  subst e2
  refine ev_aload_n 1115 rfl dL_law_1114 rfl rfl ?_
  refine ev_aload_n 1116 rfl dL_law_1115 rfl rfl ?_
  refine ev_iload_n 1117 rfl dL_law_1116 rfl rfl ?_
  refine ev_iconst 1118 rfl dL_law_1117 (by decide) ?_
  refine ev_iadd 1119 rfl dL_law_1118 (lH_q hl (by decide) (by decide)) ?_
  refine ev_iaload_ro 1120 rfl dL_law_1119 qro_s (lH_0 hl (by decide)) (lH_1 hl (by decide)) ?_
  refine ev_aload_n 1121 rfl dL_law_1120 rfl rfl ?_
  refine ev_iload_n 1122 rfl dL_law_1121 rfl rfl ?_
  refine ev_iconst 1123 rfl dL_law_1122 (by decide) ?_
  refine ev_iadd 1124 rfl dL_law_1123 (lH_q hl (by decide) (by decide)) ?_
  refine ev_iaload_ro 1125 rfl dL_law_1124 qro_s (lH_0 hl (by decide)) (lH_1 hl (by decide)) ?_
  refine ev_aload_n 1126 rfl dL_law_1125 rfl rfl ?_
  refine ev_iload_n 1127 rfl dL_law_1126 rfl rfl ?_
  refine ev_iconst 1128 rfl dL_law_1127 (by decide) ?_
  refine ev_iadd 1129 rfl dL_law_1128 (lH_q hl (by decide) (by decide)) ?_
  refine ev_iaload_ro 1130 rfl dL_law_1129 qro_s (lH_0 hl (by decide)) (lH_1 hl (by decide)) ?_
  refine ev_aload_n 1131 rfl dL_law_1130 rfl rfl ?_
  refine ev_iload_n 1132 rfl dL_law_1131 rfl rfl ?_
  refine ev_iconst 1133 rfl dL_law_1132 (by decide) ?_
  refine ev_iadd 1134 rfl dL_law_1133 (lH_q hl (by decide) (by decide)) ?_
  refine ev_iaload_ro 1135 rfl dL_law_1134 qro_s (lH_0 hl (by decide)) (lH_1 hl (by decide)) ?_
  refine ev_cVI (As := [(0, X.2.2 (s + 1)), (0, X.2.2 (s + 2)), (0, X.2.2 (s + 3)), (0, X.2.2 (s + 4))]) (rest := [(0, v)]) 1138 rfl dL_law_1135 lm_L_132 mm_X11_away (s_78 hst) rfl rfl (Nat.le_of_ble_eq_true rfl) (Nat.le_of_ble_eq_true rfl) (Nat.le_refl _) H ?_
  intro v1 h2 H
  exact ev_icmp_eq (tgt := 1379) 1141 rfl dL_law_1138 (by decide) (fun _ => H.2) (fun c => absurd H.1.symm c)
theorem l_filled (hl : lHd X s) (hst : St sh pt) (H : Run X d mc ms mX10_filled [(2, 0), (0, X.2.2 (s + 1)), (0, X.2.2 (s + 2))] (sh, pt, h) (fun r g => ∃ v sh1 pt1 h1, r = some (0, v) ∧ g = (sh1, pt1, h1) ∧ St sh1 pt1 ∧ RunI X d mX11_filled [(2, 78), (0, X.2.2 (s + 1)), (0, X.2.2 (s + 2))] sh1 pt1 h1 (fun v1 h2 => v1 = v ∧ Ev X (d + 1) rc rs mL_law 1379 [(2, -2), (2, 0), (2, 78), (0, s)] [] (sh1, pt1, h2) Q))) : Ev X (d + 1) (rc + mc) (rs + ms) mL_law 1143 [(2, -2), (2, 0), (2, 78), (0, s)] [] (sh, pt, h) Q := by
  refine ev_aload_n 1144 rfl dL_law_1143 rfl rfl ?_
  refine ev_aload_n 1145 rfl dL_law_1144 rfl rfl ?_
  refine ev_iload_n 1146 rfl dL_law_1145 rfl rfl ?_
  refine ev_iconst 1147 rfl dL_law_1146 (by decide) ?_
  refine ev_iadd 1148 rfl dL_law_1147 (lH_q hl (by decide) (by decide)) ?_
  refine ev_iaload_ro 1149 rfl dL_law_1148 qro_s (lH_0 hl (by decide)) (lH_1 hl (by decide)) ?_
  refine ev_aload_n 1150 rfl dL_law_1149 rfl rfl ?_
  refine ev_iload_n 1151 rfl dL_law_1150 rfl rfl ?_
  refine ev_iconst 1152 rfl dL_law_1151 (by decide) ?_
  refine ev_iadd 1153 rfl dL_law_1152 (lH_q hl (by decide) (by decide)) ?_
  refine ev_iaload_ro 1154 rfl dL_law_1153 qro_s (lH_0 hl (by decide)) (lH_1 hl (by decide)) ?_
  refine ev_callV (As := [(0, X.2.2 (s + 1)), (0, X.2.2 (s + 2))]) (rest := []) 1157 rfl dL_law_1154 lm_L_133 mm_X10_filled (s_0 hst) rfl rfl (Nat.le_of_ble_eq_true rfl) (Nat.le_of_ble_eq_true rfl) (Nat.le_refl _) H ?_
  intro r g H
  obtain ⟨v, sh1, pt1, h1, e1, e2, hst, H⟩ := H
  subst e1
  subst e2
  refine ev_aload_n 1158 rfl dL_law_1157 rfl rfl ?_
  refine ev_aload_n 1159 rfl dL_law_1158 rfl rfl ?_
  refine ev_iload_n 1160 rfl dL_law_1159 rfl rfl ?_
  refine ev_iconst 1161 rfl dL_law_1160 (by decide) ?_
  refine ev_iadd 1162 rfl dL_law_1161 (lH_q hl (by decide) (by decide)) ?_
  refine ev_iaload_ro 1163 rfl dL_law_1162 qro_s (lH_0 hl (by decide)) (lH_1 hl (by decide)) ?_
  refine ev_aload_n 1164 rfl dL_law_1163 rfl rfl ?_
  refine ev_iload_n 1165 rfl dL_law_1164 rfl rfl ?_
  refine ev_iconst 1166 rfl dL_law_1165 (by decide) ?_
  refine ev_iadd 1167 rfl dL_law_1166 (lH_q hl (by decide) (by decide)) ?_
  refine ev_iaload_ro 1168 rfl dL_law_1167 qro_s (lH_0 hl (by decide)) (lH_1 hl (by decide)) ?_
  refine ev_cVI (As := [(0, X.2.2 (s + 1)), (0, X.2.2 (s + 2))]) (rest := [(0, v)]) 1171 rfl dL_law_1168 lm_L_136 mm_X11_filled (s_78 hst) rfl rfl (Nat.le_of_ble_eq_true rfl) (Nat.le_of_ble_eq_true rfl) (Nat.le_refl _) H ?_
  intro v1 h2 H
  exact ev_icmp_eq (tgt := 1379) 1174 rfl dL_law_1171 (by decide) (fun _ => H.2) (fun c => absurd H.1.symm c)
theorem l_who (hl : lHd X s) (hst : St sh pt) (H : Run X d mc ms mX10_who [(2, 0), (0, X.2.2 (s + 1)), (0, X.2.2 (s + 2)), (0, X.2.2 (s + 3))] (sh, pt, h) (fun r g => ∃ v sh1 pt1 h1, r = some (0, v) ∧ g = (sh1, pt1, h1) ∧ St sh1 pt1 ∧ RunI X d mX11_who [(2, 78), (0, X.2.2 (s + 1)), (0, X.2.2 (s + 2)), (0, X.2.2 (s + 3))] sh1 pt1 h1 (fun v1 h2 => v1 = v ∧ Ev X (d + 1) rc rs mL_law 1379 [(2, -2), (2, 0), (2, 78), (0, s)] [] (sh1, pt1, h2) Q))) : Ev X (d + 1) (rc + mc) (rs + ms) mL_law 1176 [(2, -2), (2, 0), (2, 78), (0, s)] [] (sh, pt, h) Q := by
  refine ev_aload_n 1177 rfl dL_law_1176 rfl rfl ?_
  refine ev_aload_n 1178 rfl dL_law_1177 rfl rfl ?_
  refine ev_iload_n 1179 rfl dL_law_1178 rfl rfl ?_
  refine ev_iconst 1180 rfl dL_law_1179 (by decide) ?_
  refine ev_iadd 1181 rfl dL_law_1180 (lH_q hl (by decide) (by decide)) ?_
  refine ev_iaload_ro 1182 rfl dL_law_1181 qro_s (lH_0 hl (by decide)) (lH_1 hl (by decide)) ?_
  refine ev_aload_n 1183 rfl dL_law_1182 rfl rfl ?_
  refine ev_iload_n 1184 rfl dL_law_1183 rfl rfl ?_
  refine ev_iconst 1185 rfl dL_law_1184 (by decide) ?_
  refine ev_iadd 1186 rfl dL_law_1185 (lH_q hl (by decide) (by decide)) ?_
  refine ev_iaload_ro 1187 rfl dL_law_1186 qro_s (lH_0 hl (by decide)) (lH_1 hl (by decide)) ?_
  refine ev_aload_n 1188 rfl dL_law_1187 rfl rfl ?_
  refine ev_iload_n 1189 rfl dL_law_1188 rfl rfl ?_
  refine ev_iconst 1190 rfl dL_law_1189 (by decide) ?_
  refine ev_iadd 1191 rfl dL_law_1190 (lH_q hl (by decide) (by decide)) ?_
  refine ev_iaload_ro 1192 rfl dL_law_1191 qro_s (lH_0 hl (by decide)) (lH_1 hl (by decide)) ?_
  refine ev_callV (As := [(0, X.2.2 (s + 1)), (0, X.2.2 (s + 2)), (0, X.2.2 (s + 3))]) (rest := []) 1195 rfl dL_law_1192 lm_L_137 mm_X10_who (s_0 hst) rfl rfl (Nat.le_of_ble_eq_true rfl) (Nat.le_of_ble_eq_true rfl) (Nat.le_refl _) H ?_
  intro r g H
  obtain ⟨v, sh1, pt1, h1, e1, e2, hst, H⟩ := H
  subst e1
  subst e2
  refine ev_aload_n 1196 rfl dL_law_1195 rfl rfl ?_
  refine ev_aload_n 1197 rfl dL_law_1196 rfl rfl ?_
  refine ev_iload_n 1198 rfl dL_law_1197 rfl rfl ?_
  refine ev_iconst 1199 rfl dL_law_1198 (by decide) ?_
  refine ev_iadd 1200 rfl dL_law_1199 (lH_q hl (by decide) (by decide)) ?_
  refine ev_iaload_ro 1201 rfl dL_law_1200 qro_s (lH_0 hl (by decide)) (lH_1 hl (by decide)) ?_
  refine ev_aload_n 1202 rfl dL_law_1201 rfl rfl ?_
  refine ev_iload_n 1203 rfl dL_law_1202 rfl rfl ?_
  refine ev_iconst 1204 rfl dL_law_1203 (by decide) ?_
  refine ev_iadd 1205 rfl dL_law_1204 (lH_q hl (by decide) (by decide)) ?_
  refine ev_iaload_ro 1206 rfl dL_law_1205 qro_s (lH_0 hl (by decide)) (lH_1 hl (by decide)) ?_
  refine ev_aload_n 1207 rfl dL_law_1206 rfl rfl ?_
  refine ev_iload_n 1208 rfl dL_law_1207 rfl rfl ?_
  refine ev_iconst 1209 rfl dL_law_1208 (by decide) ?_
  refine ev_iadd 1210 rfl dL_law_1209 (lH_q hl (by decide) (by decide)) ?_
  refine ev_iaload_ro 1211 rfl dL_law_1210 qro_s (lH_0 hl (by decide)) (lH_1 hl (by decide)) ?_
  refine ev_cVI (As := [(0, X.2.2 (s + 1)), (0, X.2.2 (s + 2)), (0, X.2.2 (s + 3))]) (rest := [(0, v)]) 1214 rfl dL_law_1211 lm_L_140 mm_X11_who (s_78 hst) rfl rfl (Nat.le_of_ble_eq_true rfl) (Nat.le_of_ble_eq_true rfl) (Nat.le_refl _) H ?_
  intro v1 h2 H
  exact ev_icmp_eq (tgt := 1379) 1217 rfl dL_law_1214 (by decide) (fun _ => H.2) (fun c => absurd H.1.symm c)
theorem l_mark (hl : lHd X s) (hst : St sh pt) (H : Run X d mc ms mX10_mark [(2, 0), (0, X.2.2 (s + 1)), (0, X.2.2 (s + 2)), (0, X.2.2 (s + 3)), (0, X.2.2 (s + 4))] (sh, pt, h) (fun r g => ∃ v sh1 pt1 h1, r = some (0, v) ∧ g = (sh1, pt1, h1) ∧ St sh1 pt1 ∧ RunI X d mX11_mark [(2, 78), (0, X.2.2 (s + 1)), (0, X.2.2 (s + 2)), (0, X.2.2 (s + 3)), (0, X.2.2 (s + 4))] sh1 pt1 h1 (fun v1 h2 => v1 = v ∧ Ev X (d + 1) rc rs mL_law 1379 [(2, -2), (2, 0), (2, 78), (0, s)] [] (sh1, pt1, h2) Q))) : Ev X (d + 1) (rc + mc) (rs + ms) mL_law 1219 [(2, -2), (2, 0), (2, 78), (0, s)] [] (sh, pt, h) Q := by
  refine ev_aload_n 1220 rfl dL_law_1219 rfl rfl ?_
  refine ev_aload_n 1221 rfl dL_law_1220 rfl rfl ?_
  refine ev_iload_n 1222 rfl dL_law_1221 rfl rfl ?_
  refine ev_iconst 1223 rfl dL_law_1222 (by decide) ?_
  refine ev_iadd 1224 rfl dL_law_1223 (lH_q hl (by decide) (by decide)) ?_
  refine ev_iaload_ro 1225 rfl dL_law_1224 qro_s (lH_0 hl (by decide)) (lH_1 hl (by decide)) ?_
  refine ev_aload_n 1226 rfl dL_law_1225 rfl rfl ?_
  refine ev_iload_n 1227 rfl dL_law_1226 rfl rfl ?_
  refine ev_iconst 1228 rfl dL_law_1227 (by decide) ?_
  refine ev_iadd 1229 rfl dL_law_1228 (lH_q hl (by decide) (by decide)) ?_
  refine ev_iaload_ro 1230 rfl dL_law_1229 qro_s (lH_0 hl (by decide)) (lH_1 hl (by decide)) ?_
  refine ev_aload_n 1231 rfl dL_law_1230 rfl rfl ?_
  refine ev_iload_n 1232 rfl dL_law_1231 rfl rfl ?_
  refine ev_iconst 1233 rfl dL_law_1232 (by decide) ?_
  refine ev_iadd 1234 rfl dL_law_1233 (lH_q hl (by decide) (by decide)) ?_
  refine ev_iaload_ro 1235 rfl dL_law_1234 qro_s (lH_0 hl (by decide)) (lH_1 hl (by decide)) ?_
  refine ev_aload_n 1236 rfl dL_law_1235 rfl rfl ?_
  refine ev_iload_n 1237 rfl dL_law_1236 rfl rfl ?_
  refine ev_iconst 1238 rfl dL_law_1237 (by decide) ?_
  refine ev_iadd 1239 rfl dL_law_1238 (lH_q hl (by decide) (by decide)) ?_
  refine ev_iaload_ro 1240 rfl dL_law_1239 qro_s (lH_0 hl (by decide)) (lH_1 hl (by decide)) ?_
  refine ev_callV (As := [(0, X.2.2 (s + 1)), (0, X.2.2 (s + 2)), (0, X.2.2 (s + 3)), (0, X.2.2 (s + 4))]) (rest := []) 1243 rfl dL_law_1240 lm_L_141 mm_X10_mark (s_0 hst) rfl rfl (Nat.le_of_ble_eq_true rfl) (Nat.le_of_ble_eq_true rfl) (Nat.le_refl _) H ?_
  intro r g H
  obtain ⟨v, sh1, pt1, h1, e1, e2, hst, H⟩ := H
  subst e1
  subst e2
  refine ev_aload_n 1244 rfl dL_law_1243 rfl rfl ?_
  refine ev_aload_n 1245 rfl dL_law_1244 rfl rfl ?_
  refine ev_iload_n 1246 rfl dL_law_1245 rfl rfl ?_
  refine ev_iconst 1247 rfl dL_law_1246 (by decide) ?_
  refine ev_iadd 1248 rfl dL_law_1247 (lH_q hl (by decide) (by decide)) ?_
  refine ev_iaload_ro 1249 rfl dL_law_1248 qro_s (lH_0 hl (by decide)) (lH_1 hl (by decide)) ?_
  refine ev_aload_n 1250 rfl dL_law_1249 rfl rfl ?_
  refine ev_iload_n 1251 rfl dL_law_1250 rfl rfl ?_
  refine ev_iconst 1252 rfl dL_law_1251 (by decide) ?_
  refine ev_iadd 1253 rfl dL_law_1252 (lH_q hl (by decide) (by decide)) ?_
  refine ev_iaload_ro 1254 rfl dL_law_1253 qro_s (lH_0 hl (by decide)) (lH_1 hl (by decide)) ?_
  refine ev_aload_n 1255 rfl dL_law_1254 rfl rfl ?_
  refine ev_iload_n 1256 rfl dL_law_1255 rfl rfl ?_
  refine ev_iconst 1257 rfl dL_law_1256 (by decide) ?_
  refine ev_iadd 1258 rfl dL_law_1257 (lH_q hl (by decide) (by decide)) ?_
  refine ev_iaload_ro 1259 rfl dL_law_1258 qro_s (lH_0 hl (by decide)) (lH_1 hl (by decide)) ?_
  refine ev_aload_n 1260 rfl dL_law_1259 rfl rfl ?_
  refine ev_iload_n 1261 rfl dL_law_1260 rfl rfl ?_
  refine ev_iconst 1262 rfl dL_law_1261 (by decide) ?_
  refine ev_iadd 1263 rfl dL_law_1262 (lH_q hl (by decide) (by decide)) ?_
  refine ev_iaload_ro 1264 rfl dL_law_1263 qro_s (lH_0 hl (by decide)) (lH_1 hl (by decide)) ?_
  refine ev_cVI (As := [(0, X.2.2 (s + 1)), (0, X.2.2 (s + 2)), (0, X.2.2 (s + 3)), (0, X.2.2 (s + 4))]) (rest := [(0, v)]) 1267 rfl dL_law_1264 lm_L_144 mm_X11_mark (s_78 hst) rfl rfl (Nat.le_of_ble_eq_true rfl) (Nat.le_of_ble_eq_true rfl) (Nat.le_refl _) H ?_
  intro v1 h2 H
  exact ev_icmp_eq (tgt := 1379) 1270 rfl dL_law_1267 (by decide) (fun _ => H.2) (fun c => absurd H.1.symm c)
theorem l_weight (hl : lHd X s) (hst : St sh pt) (H : Run X d mc ms mX10_weight [(2, 0), (0, X.2.2 (s + 1)), (0, X.2.2 (s + 2))] (sh, pt, h) (fun r g => ∃ v sh1 pt1 h1, r = some (0, v) ∧ g = (sh1, pt1, h1) ∧ St sh1 pt1 ∧ RunI X d mX11_weight [(2, 78), (0, X.2.2 (s + 1)), (0, X.2.2 (s + 2))] sh1 pt1 h1 (fun v1 h2 => v1 = v ∧ Ev X (d + 1) rc rs mL_law 1379 [(2, -2), (2, 0), (2, 78), (0, s)] [] (sh1, pt1, h2) Q))) : Ev X (d + 1) (rc + mc) (rs + ms) mL_law 1272 [(2, -2), (2, 0), (2, 78), (0, s)] [] (sh, pt, h) Q := by
  refine ev_aload_n 1273 rfl dL_law_1272 rfl rfl ?_
  refine ev_aload_n 1274 rfl dL_law_1273 rfl rfl ?_
  refine ev_iload_n 1275 rfl dL_law_1274 rfl rfl ?_
  refine ev_iconst 1276 rfl dL_law_1275 (by decide) ?_
  refine ev_iadd 1277 rfl dL_law_1276 (lH_q hl (by decide) (by decide)) ?_
  refine ev_iaload_ro 1278 rfl dL_law_1277 qro_s (lH_0 hl (by decide)) (lH_1 hl (by decide)) ?_
  refine ev_aload_n 1279 rfl dL_law_1278 rfl rfl ?_
  refine ev_iload_n 1280 rfl dL_law_1279 rfl rfl ?_
  refine ev_iconst 1281 rfl dL_law_1280 (by decide) ?_
  refine ev_iadd 1282 rfl dL_law_1281 (lH_q hl (by decide) (by decide)) ?_
  refine ev_iaload_ro 1283 rfl dL_law_1282 qro_s (lH_0 hl (by decide)) (lH_1 hl (by decide)) ?_
  refine ev_callV (As := [(0, X.2.2 (s + 1)), (0, X.2.2 (s + 2))]) (rest := []) 1286 rfl dL_law_1283 lm_L_145 mm_X10_weight (s_0 hst) rfl rfl (Nat.le_of_ble_eq_true rfl) (Nat.le_of_ble_eq_true rfl) (Nat.le_refl _) H ?_
  intro r g H
  obtain ⟨v, sh1, pt1, h1, e1, e2, hst, H⟩ := H
  subst e1
  subst e2
  refine ev_aload_n 1287 rfl dL_law_1286 rfl rfl ?_
  refine ev_aload_n 1288 rfl dL_law_1287 rfl rfl ?_
  refine ev_iload_n 1289 rfl dL_law_1288 rfl rfl ?_
  refine ev_iconst 1290 rfl dL_law_1289 (by decide) ?_
  refine ev_iadd 1291 rfl dL_law_1290 (lH_q hl (by decide) (by decide)) ?_
  refine ev_iaload_ro 1292 rfl dL_law_1291 qro_s (lH_0 hl (by decide)) (lH_1 hl (by decide)) ?_
  refine ev_aload_n 1293 rfl dL_law_1292 rfl rfl ?_
  refine ev_iload_n 1294 rfl dL_law_1293 rfl rfl ?_
  refine ev_iconst 1295 rfl dL_law_1294 (by decide) ?_
  refine ev_iadd 1296 rfl dL_law_1295 (lH_q hl (by decide) (by decide)) ?_
  refine ev_iaload_ro 1297 rfl dL_law_1296 qro_s (lH_0 hl (by decide)) (lH_1 hl (by decide)) ?_
  refine ev_cVI (As := [(0, X.2.2 (s + 1)), (0, X.2.2 (s + 2))]) (rest := [(0, v)]) 1300 rfl dL_law_1297 lm_L_148 mm_X11_weight (s_78 hst) rfl rfl (Nat.le_of_ble_eq_true rfl) (Nat.le_of_ble_eq_true rfl) (Nat.le_refl _) H ?_
  intro v1 h2 H
  exact ev_icmp_eq (tgt := 1379) 1303 rfl dL_law_1300 (by decide) (fun _ => H.2) (fun c => absurd H.1.symm c)
theorem l_total (hl : lHd X s) (hst : St sh pt) (H : Run X d mc ms mX10_total [(2, 0), (0, X.2.2 (s + 1))] (sh, pt, h) (fun r g => ∃ v sh1 pt1 h1, r = some (0, v) ∧ g = (sh1, pt1, h1) ∧ St sh1 pt1 ∧ RunI X d mX11_total [(2, 78), (0, X.2.2 (s + 1))] sh1 pt1 h1 (fun v1 h2 => v1 = v ∧ Ev X (d + 1) rc rs mL_law 1379 [(2, -2), (2, 0), (2, 78), (0, s)] [] (sh1, pt1, h2) Q))) : Ev X (d + 1) (rc + mc) (rs + ms) mL_law 1305 [(2, -2), (2, 0), (2, 78), (0, s)] [] (sh, pt, h) Q := by
  refine ev_aload_n 1306 rfl dL_law_1305 rfl rfl ?_
  refine ev_aload_n 1307 rfl dL_law_1306 rfl rfl ?_
  refine ev_iload_n 1308 rfl dL_law_1307 rfl rfl ?_
  refine ev_iconst 1309 rfl dL_law_1308 (by decide) ?_
  refine ev_iadd 1310 rfl dL_law_1309 (lH_q hl (by decide) (by decide)) ?_
  refine ev_iaload_ro 1311 rfl dL_law_1310 qro_s (lH_0 hl (by decide)) (lH_1 hl (by decide)) ?_
  refine ev_callV (As := [(0, X.2.2 (s + 1))]) (rest := []) 1314 rfl dL_law_1311 lm_L_149 mm_X10_total (s_0 hst) rfl rfl (Nat.le_of_ble_eq_true rfl) (Nat.le_of_ble_eq_true rfl) (Nat.le_refl _) H ?_
  intro r g H
  obtain ⟨v, sh1, pt1, h1, e1, e2, hst, H⟩ := H
  subst e1
  subst e2
  refine ev_aload_n 1315 rfl dL_law_1314 rfl rfl ?_
  refine ev_aload_n 1316 rfl dL_law_1315 rfl rfl ?_
  refine ev_iload_n 1317 rfl dL_law_1316 rfl rfl ?_
  refine ev_iconst 1318 rfl dL_law_1317 (by decide) ?_
  refine ev_iadd 1319 rfl dL_law_1318 (lH_q hl (by decide) (by decide)) ?_
  refine ev_iaload_ro 1320 rfl dL_law_1319 qro_s (lH_0 hl (by decide)) (lH_1 hl (by decide)) ?_
  refine ev_cVI (As := [(0, X.2.2 (s + 1))]) (rest := [(0, v)]) 1323 rfl dL_law_1320 lm_L_152 mm_X11_total (s_78 hst) rfl rfl (Nat.le_of_ble_eq_true rfl) (Nat.le_of_ble_eq_true rfl) (Nat.le_refl _) H ?_
  intro v1 h2 H
  exact ev_icmp_eq (tgt := 1379) 1326 rfl dL_law_1323 (by decide) (fun _ => H.2) (fun c => absurd H.1.symm c)
theorem l_upper (hl : lHd X s) (hst : St sh pt) (H : Run X d mc ms mX10_upper [(2, 0)] (sh, pt, h) (fun r g => ∃ v sh1 pt1 h1, r = some (1, v) ∧ g = (sh1, pt1, h1) ∧ St sh1 pt1 ∧ RunL X d mX11_upper [(2, 78)] sh1 pt1 h1 (fun v1 h2 => v1 = v ∧ Ev X (d + 1) rc rs mL_law 1379 [(2, -2), (2, 0), (2, 78), (0, s)] [] (sh1, pt1, h2) Q))) : Ev X (d + 1) (rc + mc) (rs + ms) mL_law 1328 [(2, -2), (2, 0), (2, 78), (0, s)] [] (sh, pt, h) Q := by
  refine ev_aload_n 1329 rfl dL_law_1328 rfl rfl ?_
  refine ev_callV (As := []) (rest := []) 1332 rfl dL_law_1329 lm_L_153 mm_X10_upper (s_0 hst) rfl rfl (Nat.le_of_ble_eq_true rfl) (Nat.le_of_ble_eq_true rfl) (Nat.le_refl _) H ?_
  intro r g H
  obtain ⟨v, sh1, pt1, h1, e1, e2, hst, H⟩ := H
  subst e1
  subst e2
  refine ev_aload_n 1333 rfl dL_law_1332 rfl rfl ?_
  refine ev_cVL (As := []) (rest := [(1, v)]) 1336 rfl dL_law_1333 lm_L_157 mm_X11_upper (s_78 hst) rfl rfl (Nat.le_of_ble_eq_true rfl) (Nat.le_of_ble_eq_true rfl) (Nat.le_refl _) H ?_
  intro v1 h2 H
  exact ev_lc_eq (tgt := 1379) 1340 rfl dL_law_1336 dL_law_1337 (by decide) (fun _ => H.2) (fun c => absurd H.1.symm c)
theorem l_lower (hl : lHd X s) (hst : St sh pt) (H : Run X d mc ms mX10_lower [(2, 0)] (sh, pt, h) (fun r g => ∃ v sh1 pt1 h1, r = some (1, v) ∧ g = (sh1, pt1, h1) ∧ St sh1 pt1 ∧ RunL X d mX11_lower [(2, 78)] sh1 pt1 h1 (fun v1 h2 => v1 = v ∧ Ev X (d + 1) rc rs mL_law 1379 [(2, -2), (2, 0), (2, 78), (0, s)] [] (sh1, pt1, h2) Q))) : Ev X (d + 1) (rc + mc) (rs + ms) mL_law 1342 [(2, -2), (2, 0), (2, 78), (0, s)] [] (sh, pt, h) Q := by
  refine ev_aload_n 1343 rfl dL_law_1342 rfl rfl ?_
  refine ev_callV (As := []) (rest := []) 1346 rfl dL_law_1343 lm_L_158 mm_X10_lower (s_0 hst) rfl rfl (Nat.le_of_ble_eq_true rfl) (Nat.le_of_ble_eq_true rfl) (Nat.le_refl _) H ?_
  intro r g H
  obtain ⟨v, sh1, pt1, h1, e1, e2, hst, H⟩ := H
  subst e1
  subst e2
  refine ev_aload_n 1347 rfl dL_law_1346 rfl rfl ?_
  refine ev_cVL (As := []) (rest := [(1, v)]) 1350 rfl dL_law_1347 lm_L_161 mm_X11_lower (s_78 hst) rfl rfl (Nat.le_of_ble_eq_true rfl) (Nat.le_of_ble_eq_true rfl) (Nat.le_refl _) H ?_
  intro v1 h2 H
  exact ev_lc_eq (tgt := 1379) 1354 rfl dL_law_1350 dL_law_1351 (by decide) (fun _ => H.2) (fun c => absurd H.1.symm c)
theorem l_rank (hl : lHd X s) (hst : St sh pt) (H : Run X d mc ms mX10_rank [(2, 0), (0, X.2.2 (s + 1))] (sh, pt, h) (fun r g => ∃ v sh1 pt1 h1, r = some (0, v) ∧ g = (sh1, pt1, h1) ∧ St sh1 pt1 ∧ RunI X d mX11_rank [(2, 78), (0, X.2.2 (s + 1))] sh1 pt1 h1 (fun v1 h2 => v1 = v ∧ Ev X (d + 1) rc rs mL_law 1379 [(2, -2), (2, 0), (2, 78), (0, s)] [] (sh1, pt1, h2) Q))) : Ev X (d + 1) (rc + mc) (rs + ms) mL_law 1356 [(2, -2), (2, 0), (2, 78), (0, s)] [] (sh, pt, h) Q := by
  refine ev_aload_n 1357 rfl dL_law_1356 rfl rfl ?_
  refine ev_aload_n 1358 rfl dL_law_1357 rfl rfl ?_
  refine ev_iload_n 1359 rfl dL_law_1358 rfl rfl ?_
  refine ev_iconst 1360 rfl dL_law_1359 (by decide) ?_
  refine ev_iadd 1361 rfl dL_law_1360 (lH_q hl (by decide) (by decide)) ?_
  refine ev_iaload_ro 1362 rfl dL_law_1361 qro_s (lH_0 hl (by decide)) (lH_1 hl (by decide)) ?_
  refine ev_callV (As := [(0, X.2.2 (s + 1))]) (rest := []) 1365 rfl dL_law_1362 lm_L_162 mm_X10_rank (s_0 hst) rfl rfl (Nat.le_of_ble_eq_true rfl) (Nat.le_of_ble_eq_true rfl) (Nat.le_refl _) H ?_
  intro r g H
  obtain ⟨v, sh1, pt1, h1, e1, e2, hst, H⟩ := H
  subst e1
  subst e2
  refine ev_aload_n 1366 rfl dL_law_1365 rfl rfl ?_
  refine ev_aload_n 1367 rfl dL_law_1366 rfl rfl ?_
  refine ev_iload_n 1368 rfl dL_law_1367 rfl rfl ?_
  refine ev_iconst 1369 rfl dL_law_1368 (by decide) ?_
  refine ev_iadd 1370 rfl dL_law_1369 (lH_q hl (by decide) (by decide)) ?_
  refine ev_iaload_ro 1371 rfl dL_law_1370 qro_s (lH_0 hl (by decide)) (lH_1 hl (by decide)) ?_
  refine ev_cVI (As := [(0, X.2.2 (s + 1))]) (rest := [(0, v)]) 1374 rfl dL_law_1371 lm_L_165 mm_X11_rank (s_78 hst) rfl rfl (Nat.le_of_ble_eq_true rfl) (Nat.le_of_ble_eq_true rfl) (Nat.le_refl _) H ?_
  intro v1 h2 H
  exact ev_icmp_eq (tgt := 1379) 1377 rfl dL_law_1374 (by decide) (fun _ => H.2) (fun c => absurd H.1.symm c)
end
