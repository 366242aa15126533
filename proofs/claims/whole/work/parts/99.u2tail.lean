theorem lc_3000 : (Jvm.Cond.static ({ cls := "SensorTreeModel", name := "letters", desc := "(IIIIIII)J" } : Jvm.MethodName)) ∈ lw_g := lw_at 1074 (by decide +kernel) (by decide +kernel)
set_option maxRecDepth 30000 in
theorem lc_3001 : (Jvm.Cond.code ({ cls := "SensorTreeModel", name := "letters", desc := "(IIIIIII)J" } : Jvm.MethodName) prog_13_method_10_code (7 : Nat) (Option.some Jvm.ClassFile.FieldType.long)) ∈ lw_g := lw_at 1075 rfl (by decide +kernel)
theorem lc_3002 : (Jvm.Cond.methodLink "SensorTreeModel" (92 : Nat) ({ cls := "SensorTreeModel", name := "letters", desc := "(IIIIIII)J" } : Jvm.MethodName)) ∈ lw_g := lw_at 1073 (by decide +kernel) (by decide +kernel)
theorem md_l0 {σ : sx_M} {τ : sx_L} {Q : Int64 → sx_M → sx_L → Prop} (h : Q 326396 σ τ) : wp_Mo_letters 112 111 115 116 0 0 0 σ τ Q := by
  unfold wp_Mo_letters wp_Mo_appends wp_Mo_appends_b21
  exact h
theorem md_l1 {σ : sx_M} {τ : sx_L} {Q : Int64 → sx_M → sx_L → Prop} (h : Q 243146 σ τ) : wp_Mo_letters 108 105 110 107 0 0 0 σ τ Q := by
  unfold wp_Mo_letters wp_Mo_appends wp_Mo_appends_b21
  exact h
theorem md_l2 {σ : sx_M} {τ : sx_L} {Q : Int64 → sx_M → sx_L → Prop} (h : Q 3379448 σ τ) : wp_Mo_letters 102 105 114 115 116 0 0 σ τ Q := by
  unfold wp_Mo_letters wp_Mo_appends wp_Mo_appends_b21
  exact h
theorem md_l3 {σ : sx_M} {τ : sx_L} {Q : Int64 → sx_M → sx_L → Prop} (h : Q 11088176 σ τ) : wp_Mo_letters 116 119 105 99 101 0 0 σ τ Q := by
  unfold wp_Mo_letters wp_Mo_appends wp_Mo_appends_b21
  exact h
theorem md_l4 {σ : sx_M} {τ : sx_L} {Q : Int64 → sx_M → sx_L → Prop} (h : Q 79495460 σ τ) : wp_Mo_letters 101 110 111 117 103 104 0 σ τ Q := by
  unfold wp_Mo_letters wp_Mo_appends wp_Mo_appends_b21
  exact h
theorem md_l5 {σ : sx_M} {τ : sx_L} {Q : Int64 → sx_M → sx_L → Prop} (h : Q 847604 σ τ) : wp_Mo_letters 97 112 97 114 116 0 0 σ τ Q := by
  unfold wp_Mo_letters wp_Mo_appends wp_Mo_appends_b21
  exact h
theorem md_l6 {σ : sx_M} {τ : sx_L} {Q : Int64 → sx_M → sx_L → Prop} (h : Q 361373 σ τ) : wp_Mo_letters 114 105 115 101 0 0 0 σ τ Q := by
  unfold wp_Mo_letters wp_Mo_appends wp_Mo_appends_b21
  exact h
theorem md_l7 {σ : sx_M} {τ : sx_L} {Q : Int64 → sx_M → sx_L → Prop} (h : Q 358472 σ τ) : wp_Mo_letters 114 101 115 116 0 0 0 σ τ Q := by
  unfold wp_Mo_letters wp_Mo_appends wp_Mo_appends_b21
  exact h
theorem md_l8 {σ : sx_M} {τ : sx_L} {Q : Int64 → sx_M → sx_L → Prop} (h : Q 3547106 σ τ) : wp_Mo_letters 102 114 101 115 104 0 0 σ τ Q := by
  unfold wp_Mo_letters wp_Mo_appends wp_Mo_appends_b21
  exact h
theorem md_l9 {σ : sx_M} {τ : sx_L} {Q : Int64 → sx_M → sx_L → Prop} (h : Q 7742498 σ τ) : wp_Mo_letters 110 111 105 115 101 0 0 σ τ Q := by
  unfold wp_Mo_letters wp_Mo_appends wp_Mo_appends_b21
  exact h
theorem md_l10 {σ : sx_M} {τ : sx_L} {Q : Int64 → sx_M → sx_L → Prop} (h : Q 377761 σ τ) : wp_Mo_letters 115 101 101 100 0 0 0 σ τ Q := by
  unfold wp_Mo_letters wp_Mo_appends wp_Mo_appends_b21
  exact h
theorem md_l11 {σ : sx_M} {τ : sx_L} {Q : Int64 → sx_M → sx_L → Prop} (h : Q 148755 σ τ) : wp_Mo_letters 103 111 97 108 0 0 0 σ τ Q := by
  unfold wp_Mo_letters wp_Mo_appends wp_Mo_appends_b21
  exact h
theorem md_l12 {σ : sx_M} {τ : sx_L} {Q : Int64 → sx_M → sx_L → Prop} (h : Q 168850 σ τ) : wp_Mo_letters 104 111 112 115 0 0 0 σ τ Q := by
  unfold wp_Mo_letters wp_Mo_appends wp_Mo_appends_b21
  exact h
theorem md_l13 {σ : sx_M} {τ : sx_L} {Q : Int64 → sx_M → sx_L → Prop} (h : Q 1903978 σ τ) : wp_Mo_letters 99 111 115 116 115 0 0 σ τ Q := by
  unfold wp_Mo_letters wp_Mo_appends wp_Mo_appends_b21
  exact h
theorem md_b0 {l : Launch} {K : sx_K} {X : sx_T} {σ : sx_M} {τ : sx_L} (hX : sx_C X K prog_13_method_2_code 1 "SensorTreeModel" none rm_Mo_init l) (hK : kx_F K) (kk : sx_G X K 1 228 [(0, .ref (K.2.2.1 50 0 0))] [] (sx_H K σ (sx_ul τ 57 0 326396))) : sx_G X K 1 208 [(0, .ref (K.2.2.1 50 0 0))] [] (sx_H K σ τ) := by
  refine sx_aload_n (pc2 := 209) hX 0 d_Mo_init_208 rfl rfl rfl ?_
  refine fg_Mo_34 (pc2 := 212) hX (kr_50 hK) d_Mo_init_209 rfl ?_
  refine sx_iconst (v := 0) (pc2 := 213) hX d_Mo_init_212 (by decide) rfl ?_
  refine sx_bipush (v := 112) (pc2 := 215) hX d_Mo_init_213 (by decide) rfl ?_
  refine sx_bipush (v := 111) (pc2 := 217) hX d_Mo_init_215 (by decide) rfl ?_
  refine sx_bipush (v := 115) (pc2 := 219) hX d_Mo_init_217 (by decide) rfl ?_
  refine sx_bipush (v := 116) (pc2 := 221) hX d_Mo_init_219 (by decide) rfl ?_
  refine sx_iconst (v := 0) (pc2 := 222) hX d_Mo_init_221 (by decide) rfl ?_
  refine sx_iconst (v := 0) (pc2 := 223) hX d_Mo_init_222 (by decide) rfl ?_
  refine sx_iconst (v := 0) (pc2 := 224) hX d_Mo_init_223 (by decide) rfl ?_
  refine sx_callSl (pc2 := 227) (As := [.int 112, .int 111, .int 115, .int 116, .int 0, .int 0, .int 0]) hX (c_Mo_letters hK 112 111 115 116 0 0 0 σ τ (fun r σ2 τ2 => r = 326396 ∧ σ2 = σ ∧ τ2 = τ) (md_l0 ⟨rfl, rfl, rfl⟩)) lc_3000 hy_Mo_letters lc_3001 lk_364 lc_3002 ⟨rfl, rfl⟩ ⟨Nat.le_of_ble_eq_true rfl, Nat.le_of_ble_eq_true rfl⟩ (Nat.le_of_ble_eq_true rfl) rfl d_Mo_init_224 rfl (fun r σ2 τ2 h => ?_)
  rw [h.1, h.2.1, h.2.2]
  exact sx_last (k := 57) (pc2 := 228) hX (hK.1 57 (by decide) (by decide)) (fun n p h => hK.2 57 n p h) (fun _ => rfl) (in_I (n := 0) rfl (by decide) (by decide)) d_Mo_init_227 rfl kk
theorem md_b1 {l : Launch} {K : sx_K} {X : sx_T} {σ : sx_M} {τ : sx_L} (hX : sx_C X K prog_13_method_2_code 1 "SensorTreeModel" none rm_Mo_init l) (hK : kx_F K) (kk : sx_G X K 1 248 [(0, .ref (K.2.2.1 50 0 0))] [] (sx_H K σ (sx_ul τ 57 1 243146))) : sx_G X K 1 228 [(0, .ref (K.2.2.1 50 0 0))] [] (sx_H K σ τ) := by
  refine sx_aload_n (pc2 := 229) hX 0 d_Mo_init_228 rfl rfl rfl ?_
  refine fg_Mo_34 (pc2 := 232) hX (kr_50 hK) d_Mo_init_229 rfl ?_
  refine sx_iconst (v := 1) (pc2 := 233) hX d_Mo_init_232 (by decide) rfl ?_
  refine sx_bipush (v := 108) (pc2 := 235) hX d_Mo_init_233 (by decide) rfl ?_
  refine sx_bipush (v := 105) (pc2 := 237) hX d_Mo_init_235 (by decide) rfl ?_
  refine sx_bipush (v := 110) (pc2 := 239) hX d_Mo_init_237 (by decide) rfl ?_
  refine sx_bipush (v := 107) (pc2 := 241) hX d_Mo_init_239 (by decide) rfl ?_
  refine sx_iconst (v := 0) (pc2 := 242) hX d_Mo_init_241 (by decide) rfl ?_
  refine sx_iconst (v := 0) (pc2 := 243) hX d_Mo_init_242 (by decide) rfl ?_
  refine sx_iconst (v := 0) (pc2 := 244) hX d_Mo_init_243 (by decide) rfl ?_
  refine sx_callSl (pc2 := 247) (As := [.int 108, .int 105, .int 110, .int 107, .int 0, .int 0, .int 0]) hX (c_Mo_letters hK 108 105 110 107 0 0 0 σ τ (fun r σ2 τ2 => r = 243146 ∧ σ2 = σ ∧ τ2 = τ) (md_l1 ⟨rfl, rfl, rfl⟩)) lc_3000 hy_Mo_letters lc_3001 lk_364 lc_3002 ⟨rfl, rfl⟩ ⟨Nat.le_of_ble_eq_true rfl, Nat.le_of_ble_eq_true rfl⟩ (Nat.le_of_ble_eq_true rfl) rfl d_Mo_init_244 rfl (fun r σ2 τ2 h => ?_)
  rw [h.1, h.2.1, h.2.2]
  exact sx_last (k := 57) (pc2 := 248) hX (hK.1 57 (by decide) (by decide)) (fun n p h => hK.2 57 n p h) (fun _ => rfl) (in_I (n := 1) rfl (by decide) (by decide)) d_Mo_init_247 rfl kk
theorem md_b2 {l : Launch} {K : sx_K} {X : sx_T} {σ : sx_M} {τ : sx_L} (hX : sx_C X K prog_13_method_2_code 1 "SensorTreeModel" none rm_Mo_init l) (hK : kx_F K) (kk : sx_G X K 1 269 [(0, .ref (K.2.2.1 50 0 0))] [] (sx_H K σ (sx_ul τ 57 2 3379448))) : sx_G X K 1 248 [(0, .ref (K.2.2.1 50 0 0))] [] (sx_H K σ τ) := by
  refine sx_aload_n (pc2 := 249) hX 0 d_Mo_init_248 rfl rfl rfl ?_
  refine fg_Mo_34 (pc2 := 252) hX (kr_50 hK) d_Mo_init_249 rfl ?_
  refine sx_iconst (v := 2) (pc2 := 253) hX d_Mo_init_252 (by decide) rfl ?_
  refine sx_bipush (v := 102) (pc2 := 255) hX d_Mo_init_253 (by decide) rfl ?_
  refine sx_bipush (v := 105) (pc2 := 257) hX d_Mo_init_255 (by decide) rfl ?_
  refine sx_bipush (v := 114) (pc2 := 259) hX d_Mo_init_257 (by decide) rfl ?_
  refine sx_bipush (v := 115) (pc2 := 261) hX d_Mo_init_259 (by decide) rfl ?_
  refine sx_bipush (v := 116) (pc2 := 263) hX d_Mo_init_261 (by decide) rfl ?_
  refine sx_iconst (v := 0) (pc2 := 264) hX d_Mo_init_263 (by decide) rfl ?_
  refine sx_iconst (v := 0) (pc2 := 265) hX d_Mo_init_264 (by decide) rfl ?_
  refine sx_callSl (pc2 := 268) (As := [.int 102, .int 105, .int 114, .int 115, .int 116, .int 0, .int 0]) hX (c_Mo_letters hK 102 105 114 115 116 0 0 σ τ (fun r σ2 τ2 => r = 3379448 ∧ σ2 = σ ∧ τ2 = τ) (md_l2 ⟨rfl, rfl, rfl⟩)) lc_3000 hy_Mo_letters lc_3001 lk_364 lc_3002 ⟨rfl, rfl⟩ ⟨Nat.le_of_ble_eq_true rfl, Nat.le_of_ble_eq_true rfl⟩ (Nat.le_of_ble_eq_true rfl) rfl d_Mo_init_265 rfl (fun r σ2 τ2 h => ?_)
  rw [h.1, h.2.1, h.2.2]
  exact sx_last (k := 57) (pc2 := 269) hX (hK.1 57 (by decide) (by decide)) (fun n p h => hK.2 57 n p h) (fun _ => rfl) (in_I (n := 2) rfl (by decide) (by decide)) d_Mo_init_268 rfl kk
theorem md_b3 {l : Launch} {K : sx_K} {X : sx_T} {σ : sx_M} {τ : sx_L} (hX : sx_C X K prog_13_method_2_code 1 "SensorTreeModel" none rm_Mo_init l) (hK : kx_F K) (kk : sx_G X K 1 290 [(0, .ref (K.2.2.1 50 0 0))] [] (sx_H K σ (sx_ul τ 57 3 11088176))) : sx_G X K 1 269 [(0, .ref (K.2.2.1 50 0 0))] [] (sx_H K σ τ) := by
  refine sx_aload_n (pc2 := 270) hX 0 d_Mo_init_269 rfl rfl rfl ?_
  refine fg_Mo_34 (pc2 := 273) hX (kr_50 hK) d_Mo_init_270 rfl ?_
  refine sx_iconst (v := 3) (pc2 := 274) hX d_Mo_init_273 (by decide) rfl ?_
  refine sx_bipush (v := 116) (pc2 := 276) hX d_Mo_init_274 (by decide) rfl ?_
  refine sx_bipush (v := 119) (pc2 := 278) hX d_Mo_init_276 (by decide) rfl ?_
  refine sx_bipush (v := 105) (pc2 := 280) hX d_Mo_init_278 (by decide) rfl ?_
  refine sx_bipush (v := 99) (pc2 := 282) hX d_Mo_init_280 (by decide) rfl ?_
  refine sx_bipush (v := 101) (pc2 := 284) hX d_Mo_init_282 (by decide) rfl ?_
  refine sx_iconst (v := 0) (pc2 := 285) hX d_Mo_init_284 (by decide) rfl ?_
  refine sx_iconst (v := 0) (pc2 := 286) hX d_Mo_init_285 (by decide) rfl ?_
  refine sx_callSl (pc2 := 289) (As := [.int 116, .int 119, .int 105, .int 99, .int 101, .int 0, .int 0]) hX (c_Mo_letters hK 116 119 105 99 101 0 0 σ τ (fun r σ2 τ2 => r = 11088176 ∧ σ2 = σ ∧ τ2 = τ) (md_l3 ⟨rfl, rfl, rfl⟩)) lc_3000 hy_Mo_letters lc_3001 lk_364 lc_3002 ⟨rfl, rfl⟩ ⟨Nat.le_of_ble_eq_true rfl, Nat.le_of_ble_eq_true rfl⟩ (Nat.le_of_ble_eq_true rfl) rfl d_Mo_init_286 rfl (fun r σ2 τ2 h => ?_)
  rw [h.1, h.2.1, h.2.2]
  exact sx_last (k := 57) (pc2 := 290) hX (hK.1 57 (by decide) (by decide)) (fun n p h => hK.2 57 n p h) (fun _ => rfl) (in_I (n := 3) rfl (by decide) (by decide)) d_Mo_init_289 rfl kk
theorem md_b4 {l : Launch} {K : sx_K} {X : sx_T} {σ : sx_M} {τ : sx_L} (hX : sx_C X K prog_13_method_2_code 1 "SensorTreeModel" none rm_Mo_init l) (hK : kx_F K) (kk : sx_G X K 1 312 [(0, .ref (K.2.2.1 50 0 0))] [] (sx_H K σ (sx_ul τ 57 4 79495460))) : sx_G X K 1 290 [(0, .ref (K.2.2.1 50 0 0))] [] (sx_H K σ τ) := by
  refine sx_aload_n (pc2 := 291) hX 0 d_Mo_init_290 rfl rfl rfl ?_
  refine fg_Mo_34 (pc2 := 294) hX (kr_50 hK) d_Mo_init_291 rfl ?_
  refine sx_iconst (v := 4) (pc2 := 295) hX d_Mo_init_294 (by decide) rfl ?_
  refine sx_bipush (v := 101) (pc2 := 297) hX d_Mo_init_295 (by decide) rfl ?_
  refine sx_bipush (v := 110) (pc2 := 299) hX d_Mo_init_297 (by decide) rfl ?_
  refine sx_bipush (v := 111) (pc2 := 301) hX d_Mo_init_299 (by decide) rfl ?_
  refine sx_bipush (v := 117) (pc2 := 303) hX d_Mo_init_301 (by decide) rfl ?_
  refine sx_bipush (v := 103) (pc2 := 305) hX d_Mo_init_303 (by decide) rfl ?_
  refine sx_bipush (v := 104) (pc2 := 307) hX d_Mo_init_305 (by decide) rfl ?_
  refine sx_iconst (v := 0) (pc2 := 308) hX d_Mo_init_307 (by decide) rfl ?_
  refine sx_callSl (pc2 := 311) (As := [.int 101, .int 110, .int 111, .int 117, .int 103, .int 104, .int 0]) hX (c_Mo_letters hK 101 110 111 117 103 104 0 σ τ (fun r σ2 τ2 => r = 79495460 ∧ σ2 = σ ∧ τ2 = τ) (md_l4 ⟨rfl, rfl, rfl⟩)) lc_3000 hy_Mo_letters lc_3001 lk_364 lc_3002 ⟨rfl, rfl⟩ ⟨Nat.le_of_ble_eq_true rfl, Nat.le_of_ble_eq_true rfl⟩ (Nat.le_of_ble_eq_true rfl) rfl d_Mo_init_308 rfl (fun r σ2 τ2 h => ?_)
  rw [h.1, h.2.1, h.2.2]
  exact sx_last (k := 57) (pc2 := 312) hX (hK.1 57 (by decide) (by decide)) (fun n p h => hK.2 57 n p h) (fun _ => rfl) (in_I (n := 4) rfl (by decide) (by decide)) d_Mo_init_311 rfl kk
theorem md_b5 {l : Launch} {K : sx_K} {X : sx_T} {σ : sx_M} {τ : sx_L} (hX : sx_C X K prog_13_method_2_code 1 "SensorTreeModel" none rm_Mo_init l) (hK : kx_F K) (kk : sx_G X K 1 333 [(0, .ref (K.2.2.1 50 0 0))] [] (sx_H K σ (sx_ul τ 57 5 847604))) : sx_G X K 1 312 [(0, .ref (K.2.2.1 50 0 0))] [] (sx_H K σ τ) := by
  refine sx_aload_n (pc2 := 313) hX 0 d_Mo_init_312 rfl rfl rfl ?_
  refine fg_Mo_34 (pc2 := 316) hX (kr_50 hK) d_Mo_init_313 rfl ?_
  refine sx_iconst (v := 5) (pc2 := 317) hX d_Mo_init_316 (by decide) rfl ?_
  refine sx_bipush (v := 97) (pc2 := 319) hX d_Mo_init_317 (by decide) rfl ?_
  refine sx_bipush (v := 112) (pc2 := 321) hX d_Mo_init_319 (by decide) rfl ?_
  refine sx_bipush (v := 97) (pc2 := 323) hX d_Mo_init_321 (by decide) rfl ?_
  refine sx_bipush (v := 114) (pc2 := 325) hX d_Mo_init_323 (by decide) rfl ?_
  refine sx_bipush (v := 116) (pc2 := 327) hX d_Mo_init_325 (by decide) rfl ?_
  refine sx_iconst (v := 0) (pc2 := 328) hX d_Mo_init_327 (by decide) rfl ?_
  refine sx_iconst (v := 0) (pc2 := 329) hX d_Mo_init_328 (by decide) rfl ?_
  refine sx_callSl (pc2 := 332) (As := [.int 97, .int 112, .int 97, .int 114, .int 116, .int 0, .int 0]) hX (c_Mo_letters hK 97 112 97 114 116 0 0 σ τ (fun r σ2 τ2 => r = 847604 ∧ σ2 = σ ∧ τ2 = τ) (md_l5 ⟨rfl, rfl, rfl⟩)) lc_3000 hy_Mo_letters lc_3001 lk_364 lc_3002 ⟨rfl, rfl⟩ ⟨Nat.le_of_ble_eq_true rfl, Nat.le_of_ble_eq_true rfl⟩ (Nat.le_of_ble_eq_true rfl) rfl d_Mo_init_329 rfl (fun r σ2 τ2 h => ?_)
  rw [h.1, h.2.1, h.2.2]
  exact sx_last (k := 57) (pc2 := 333) hX (hK.1 57 (by decide) (by decide)) (fun n p h => hK.2 57 n p h) (fun _ => rfl) (in_I (n := 5) rfl (by decide) (by decide)) d_Mo_init_332 rfl kk
theorem md_b6 {l : Launch} {K : sx_K} {X : sx_T} {σ : sx_M} {τ : sx_L} (hX : sx_C X K prog_13_method_2_code 1 "SensorTreeModel" none rm_Mo_init l) (hK : kx_F K) (kk : sx_G X K 1 354 [(0, .ref (K.2.2.1 50 0 0))] [] (sx_H K σ (sx_ul τ 57 6 361373))) : sx_G X K 1 333 [(0, .ref (K.2.2.1 50 0 0))] [] (sx_H K σ τ) := by
  refine sx_aload_n (pc2 := 334) hX 0 d_Mo_init_333 rfl rfl rfl ?_
  refine fg_Mo_34 (pc2 := 337) hX (kr_50 hK) d_Mo_init_334 rfl ?_
  refine sx_bipush (v := 6) (pc2 := 339) hX d_Mo_init_337 (by decide) rfl ?_
  refine sx_bipush (v := 114) (pc2 := 341) hX d_Mo_init_339 (by decide) rfl ?_
  refine sx_bipush (v := 105) (pc2 := 343) hX d_Mo_init_341 (by decide) rfl ?_
  refine sx_bipush (v := 115) (pc2 := 345) hX d_Mo_init_343 (by decide) rfl ?_
  refine sx_bipush (v := 101) (pc2 := 347) hX d_Mo_init_345 (by decide) rfl ?_
  refine sx_iconst (v := 0) (pc2 := 348) hX d_Mo_init_347 (by decide) rfl ?_
  refine sx_iconst (v := 0) (pc2 := 349) hX d_Mo_init_348 (by decide) rfl ?_
  refine sx_iconst (v := 0) (pc2 := 350) hX d_Mo_init_349 (by decide) rfl ?_
  refine sx_callSl (pc2 := 353) (As := [.int 114, .int 105, .int 115, .int 101, .int 0, .int 0, .int 0]) hX (c_Mo_letters hK 114 105 115 101 0 0 0 σ τ (fun r σ2 τ2 => r = 361373 ∧ σ2 = σ ∧ τ2 = τ) (md_l6 ⟨rfl, rfl, rfl⟩)) lc_3000 hy_Mo_letters lc_3001 lk_364 lc_3002 ⟨rfl, rfl⟩ ⟨Nat.le_of_ble_eq_true rfl, Nat.le_of_ble_eq_true rfl⟩ (Nat.le_of_ble_eq_true rfl) rfl d_Mo_init_350 rfl (fun r σ2 τ2 h => ?_)
  rw [h.1, h.2.1, h.2.2]
  exact sx_last (k := 57) (pc2 := 354) hX (hK.1 57 (by decide) (by decide)) (fun n p h => hK.2 57 n p h) (fun _ => rfl) (in_I (n := 6) rfl (by decide) (by decide)) d_Mo_init_353 rfl kk
theorem md_b7 {l : Launch} {K : sx_K} {X : sx_T} {σ : sx_M} {τ : sx_L} (hX : sx_C X K prog_13_method_2_code 1 "SensorTreeModel" none rm_Mo_init l) (hK : kx_F K) (kk : sx_G X K 1 375 [(0, .ref (K.2.2.1 50 0 0))] [] (sx_H K σ (sx_ul τ 57 7 358472))) : sx_G X K 1 354 [(0, .ref (K.2.2.1 50 0 0))] [] (sx_H K σ τ) := by
  refine sx_aload_n (pc2 := 355) hX 0 d_Mo_init_354 rfl rfl rfl ?_
  refine fg_Mo_34 (pc2 := 358) hX (kr_50 hK) d_Mo_init_355 rfl ?_
  refine sx_bipush (v := 7) (pc2 := 360) hX d_Mo_init_358 (by decide) rfl ?_
  refine sx_bipush (v := 114) (pc2 := 362) hX d_Mo_init_360 (by decide) rfl ?_
  refine sx_bipush (v := 101) (pc2 := 364) hX d_Mo_init_362 (by decide) rfl ?_
  refine sx_bipush (v := 115) (pc2 := 366) hX d_Mo_init_364 (by decide) rfl ?_
  refine sx_bipush (v := 116) (pc2 := 368) hX d_Mo_init_366 (by decide) rfl ?_
  refine sx_iconst (v := 0) (pc2 := 369) hX d_Mo_init_368 (by decide) rfl ?_
  refine sx_iconst (v := 0) (pc2 := 370) hX d_Mo_init_369 (by decide) rfl ?_
  refine sx_iconst (v := 0) (pc2 := 371) hX d_Mo_init_370 (by decide) rfl ?_
  refine sx_callSl (pc2 := 374) (As := [.int 114, .int 101, .int 115, .int 116, .int 0, .int 0, .int 0]) hX (c_Mo_letters hK 114 101 115 116 0 0 0 σ τ (fun r σ2 τ2 => r = 358472 ∧ σ2 = σ ∧ τ2 = τ) (md_l7 ⟨rfl, rfl, rfl⟩)) lc_3000 hy_Mo_letters lc_3001 lk_364 lc_3002 ⟨rfl, rfl⟩ ⟨Nat.le_of_ble_eq_true rfl, Nat.le_of_ble_eq_true rfl⟩ (Nat.le_of_ble_eq_true rfl) rfl d_Mo_init_371 rfl (fun r σ2 τ2 h => ?_)
  rw [h.1, h.2.1, h.2.2]
  exact sx_last (k := 57) (pc2 := 375) hX (hK.1 57 (by decide) (by decide)) (fun n p h => hK.2 57 n p h) (fun _ => rfl) (in_I (n := 7) rfl (by decide) (by decide)) d_Mo_init_374 rfl kk
theorem md_b8 {l : Launch} {K : sx_K} {X : sx_T} {σ : sx_M} {τ : sx_L} (hX : sx_C X K prog_13_method_2_code 1 "SensorTreeModel" none rm_Mo_init l) (hK : kx_F K) (kk : sx_G X K 1 397 [(0, .ref (K.2.2.1 50 0 0))] [] (sx_H K σ (sx_ul τ 57 8 3547106))) : sx_G X K 1 375 [(0, .ref (K.2.2.1 50 0 0))] [] (sx_H K σ τ) := by
  refine sx_aload_n (pc2 := 376) hX 0 d_Mo_init_375 rfl rfl rfl ?_
  refine fg_Mo_34 (pc2 := 379) hX (kr_50 hK) d_Mo_init_376 rfl ?_
  refine sx_bipush (v := 8) (pc2 := 381) hX d_Mo_init_379 (by decide) rfl ?_
  refine sx_bipush (v := 102) (pc2 := 383) hX d_Mo_init_381 (by decide) rfl ?_
  refine sx_bipush (v := 114) (pc2 := 385) hX d_Mo_init_383 (by decide) rfl ?_
  refine sx_bipush (v := 101) (pc2 := 387) hX d_Mo_init_385 (by decide) rfl ?_
  refine sx_bipush (v := 115) (pc2 := 389) hX d_Mo_init_387 (by decide) rfl ?_
  refine sx_bipush (v := 104) (pc2 := 391) hX d_Mo_init_389 (by decide) rfl ?_
  refine sx_iconst (v := 0) (pc2 := 392) hX d_Mo_init_391 (by decide) rfl ?_
  refine sx_iconst (v := 0) (pc2 := 393) hX d_Mo_init_392 (by decide) rfl ?_
  refine sx_callSl (pc2 := 396) (As := [.int 102, .int 114, .int 101, .int 115, .int 104, .int 0, .int 0]) hX (c_Mo_letters hK 102 114 101 115 104 0 0 σ τ (fun r σ2 τ2 => r = 3547106 ∧ σ2 = σ ∧ τ2 = τ) (md_l8 ⟨rfl, rfl, rfl⟩)) lc_3000 hy_Mo_letters lc_3001 lk_364 lc_3002 ⟨rfl, rfl⟩ ⟨Nat.le_of_ble_eq_true rfl, Nat.le_of_ble_eq_true rfl⟩ (Nat.le_of_ble_eq_true rfl) rfl d_Mo_init_393 rfl (fun r σ2 τ2 h => ?_)
  rw [h.1, h.2.1, h.2.2]
  exact sx_last (k := 57) (pc2 := 397) hX (hK.1 57 (by decide) (by decide)) (fun n p h => hK.2 57 n p h) (fun _ => rfl) (in_I (n := 8) rfl (by decide) (by decide)) d_Mo_init_396 rfl kk
theorem md_b9 {l : Launch} {K : sx_K} {X : sx_T} {σ : sx_M} {τ : sx_L} (hX : sx_C X K prog_13_method_2_code 1 "SensorTreeModel" none rm_Mo_init l) (hK : kx_F K) (kk : sx_G X K 1 419 [(0, .ref (K.2.2.1 50 0 0))] [] (sx_H K σ (sx_ul τ 57 9 7742498))) : sx_G X K 1 397 [(0, .ref (K.2.2.1 50 0 0))] [] (sx_H K σ τ) := by
  refine sx_aload_n (pc2 := 398) hX 0 d_Mo_init_397 rfl rfl rfl ?_
  refine fg_Mo_34 (pc2 := 401) hX (kr_50 hK) d_Mo_init_398 rfl ?_
  refine sx_bipush (v := 9) (pc2 := 403) hX d_Mo_init_401 (by decide) rfl ?_
  refine sx_bipush (v := 110) (pc2 := 405) hX d_Mo_init_403 (by decide) rfl ?_
  refine sx_bipush (v := 111) (pc2 := 407) hX d_Mo_init_405 (by decide) rfl ?_
  refine sx_bipush (v := 105) (pc2 := 409) hX d_Mo_init_407 (by decide) rfl ?_
  refine sx_bipush (v := 115) (pc2 := 411) hX d_Mo_init_409 (by decide) rfl ?_
  refine sx_bipush (v := 101) (pc2 := 413) hX d_Mo_init_411 (by decide) rfl ?_
  refine sx_iconst (v := 0) (pc2 := 414) hX d_Mo_init_413 (by decide) rfl ?_
  refine sx_iconst (v := 0) (pc2 := 415) hX d_Mo_init_414 (by decide) rfl ?_
  refine sx_callSl (pc2 := 418) (As := [.int 110, .int 111, .int 105, .int 115, .int 101, .int 0, .int 0]) hX (c_Mo_letters hK 110 111 105 115 101 0 0 σ τ (fun r σ2 τ2 => r = 7742498 ∧ σ2 = σ ∧ τ2 = τ) (md_l9 ⟨rfl, rfl, rfl⟩)) lc_3000 hy_Mo_letters lc_3001 lk_364 lc_3002 ⟨rfl, rfl⟩ ⟨Nat.le_of_ble_eq_true rfl, Nat.le_of_ble_eq_true rfl⟩ (Nat.le_of_ble_eq_true rfl) rfl d_Mo_init_415 rfl (fun r σ2 τ2 h => ?_)
  rw [h.1, h.2.1, h.2.2]
  exact sx_last (k := 57) (pc2 := 419) hX (hK.1 57 (by decide) (by decide)) (fun n p h => hK.2 57 n p h) (fun _ => rfl) (in_I (n := 9) rfl (by decide) (by decide)) d_Mo_init_418 rfl kk
theorem md_b10 {l : Launch} {K : sx_K} {X : sx_T} {σ : sx_M} {τ : sx_L} (hX : sx_C X K prog_13_method_2_code 1 "SensorTreeModel" none rm_Mo_init l) (hK : kx_F K) (kk : sx_G X K 1 440 [(0, .ref (K.2.2.1 50 0 0))] [] (sx_H K σ (sx_ul τ 57 10 377761))) : sx_G X K 1 419 [(0, .ref (K.2.2.1 50 0 0))] [] (sx_H K σ τ) := by
  refine sx_aload_n (pc2 := 420) hX 0 d_Mo_init_419 rfl rfl rfl ?_
  refine fg_Mo_34 (pc2 := 423) hX (kr_50 hK) d_Mo_init_420 rfl ?_
  refine sx_bipush (v := 10) (pc2 := 425) hX d_Mo_init_423 (by decide) rfl ?_
  refine sx_bipush (v := 115) (pc2 := 427) hX d_Mo_init_425 (by decide) rfl ?_
  refine sx_bipush (v := 101) (pc2 := 429) hX d_Mo_init_427 (by decide) rfl ?_
  refine sx_bipush (v := 101) (pc2 := 431) hX d_Mo_init_429 (by decide) rfl ?_
  refine sx_bipush (v := 100) (pc2 := 433) hX d_Mo_init_431 (by decide) rfl ?_
  refine sx_iconst (v := 0) (pc2 := 434) hX d_Mo_init_433 (by decide) rfl ?_
  refine sx_iconst (v := 0) (pc2 := 435) hX d_Mo_init_434 (by decide) rfl ?_
  refine sx_iconst (v := 0) (pc2 := 436) hX d_Mo_init_435 (by decide) rfl ?_
  refine sx_callSl (pc2 := 439) (As := [.int 115, .int 101, .int 101, .int 100, .int 0, .int 0, .int 0]) hX (c_Mo_letters hK 115 101 101 100 0 0 0 σ τ (fun r σ2 τ2 => r = 377761 ∧ σ2 = σ ∧ τ2 = τ) (md_l10 ⟨rfl, rfl, rfl⟩)) lc_3000 hy_Mo_letters lc_3001 lk_364 lc_3002 ⟨rfl, rfl⟩ ⟨Nat.le_of_ble_eq_true rfl, Nat.le_of_ble_eq_true rfl⟩ (Nat.le_of_ble_eq_true rfl) rfl d_Mo_init_436 rfl (fun r σ2 τ2 h => ?_)
  rw [h.1, h.2.1, h.2.2]
  exact sx_last (k := 57) (pc2 := 440) hX (hK.1 57 (by decide) (by decide)) (fun n p h => hK.2 57 n p h) (fun _ => rfl) (in_I (n := 10) rfl (by decide) (by decide)) d_Mo_init_439 rfl kk
theorem md_b11 {l : Launch} {K : sx_K} {X : sx_T} {σ : sx_M} {τ : sx_L} (hX : sx_C X K prog_13_method_2_code 1 "SensorTreeModel" none rm_Mo_init l) (hK : kx_F K) (kk : sx_G X K 1 461 [(0, .ref (K.2.2.1 50 0 0))] [] (sx_H K σ (sx_ul τ 57 11 148755))) : sx_G X K 1 440 [(0, .ref (K.2.2.1 50 0 0))] [] (sx_H K σ τ) := by
  refine sx_aload_n (pc2 := 441) hX 0 d_Mo_init_440 rfl rfl rfl ?_
  refine fg_Mo_34 (pc2 := 444) hX (kr_50 hK) d_Mo_init_441 rfl ?_
  refine sx_bipush (v := 11) (pc2 := 446) hX d_Mo_init_444 (by decide) rfl ?_
  refine sx_bipush (v := 103) (pc2 := 448) hX d_Mo_init_446 (by decide) rfl ?_
  refine sx_bipush (v := 111) (pc2 := 450) hX d_Mo_init_448 (by decide) rfl ?_
  refine sx_bipush (v := 97) (pc2 := 452) hX d_Mo_init_450 (by decide) rfl ?_
  refine sx_bipush (v := 108) (pc2 := 454) hX d_Mo_init_452 (by decide) rfl ?_
  refine sx_iconst (v := 0) (pc2 := 455) hX d_Mo_init_454 (by decide) rfl ?_
  refine sx_iconst (v := 0) (pc2 := 456) hX d_Mo_init_455 (by decide) rfl ?_
  refine sx_iconst (v := 0) (pc2 := 457) hX d_Mo_init_456 (by decide) rfl ?_
  refine sx_callSl (pc2 := 460) (As := [.int 103, .int 111, .int 97, .int 108, .int 0, .int 0, .int 0]) hX (c_Mo_letters hK 103 111 97 108 0 0 0 σ τ (fun r σ2 τ2 => r = 148755 ∧ σ2 = σ ∧ τ2 = τ) (md_l11 ⟨rfl, rfl, rfl⟩)) lc_3000 hy_Mo_letters lc_3001 lk_364 lc_3002 ⟨rfl, rfl⟩ ⟨Nat.le_of_ble_eq_true rfl, Nat.le_of_ble_eq_true rfl⟩ (Nat.le_of_ble_eq_true rfl) rfl d_Mo_init_457 rfl (fun r σ2 τ2 h => ?_)
  rw [h.1, h.2.1, h.2.2]
  exact sx_last (k := 57) (pc2 := 461) hX (hK.1 57 (by decide) (by decide)) (fun n p h => hK.2 57 n p h) (fun _ => rfl) (in_I (n := 11) rfl (by decide) (by decide)) d_Mo_init_460 rfl kk
theorem md_b12 {l : Launch} {K : sx_K} {X : sx_T} {σ : sx_M} {τ : sx_L} (hX : sx_C X K prog_13_method_2_code 1 "SensorTreeModel" none rm_Mo_init l) (hK : kx_F K) (kk : sx_G X K 1 482 [(0, .ref (K.2.2.1 50 0 0))] [] (sx_H K σ (sx_ul τ 57 12 168850))) : sx_G X K 1 461 [(0, .ref (K.2.2.1 50 0 0))] [] (sx_H K σ τ) := by
  refine sx_aload_n (pc2 := 462) hX 0 d_Mo_init_461 rfl rfl rfl ?_
  refine fg_Mo_34 (pc2 := 465) hX (kr_50 hK) d_Mo_init_462 rfl ?_
  refine sx_bipush (v := 12) (pc2 := 467) hX d_Mo_init_465 (by decide) rfl ?_
  refine sx_bipush (v := 104) (pc2 := 469) hX d_Mo_init_467 (by decide) rfl ?_
  refine sx_bipush (v := 111) (pc2 := 471) hX d_Mo_init_469 (by decide) rfl ?_
  refine sx_bipush (v := 112) (pc2 := 473) hX d_Mo_init_471 (by decide) rfl ?_
  refine sx_bipush (v := 115) (pc2 := 475) hX d_Mo_init_473 (by decide) rfl ?_
  refine sx_iconst (v := 0) (pc2 := 476) hX d_Mo_init_475 (by decide) rfl ?_
  refine sx_iconst (v := 0) (pc2 := 477) hX d_Mo_init_476 (by decide) rfl ?_
  refine sx_iconst (v := 0) (pc2 := 478) hX d_Mo_init_477 (by decide) rfl ?_
  refine sx_callSl (pc2 := 481) (As := [.int 104, .int 111, .int 112, .int 115, .int 0, .int 0, .int 0]) hX (c_Mo_letters hK 104 111 112 115 0 0 0 σ τ (fun r σ2 τ2 => r = 168850 ∧ σ2 = σ ∧ τ2 = τ) (md_l12 ⟨rfl, rfl, rfl⟩)) lc_3000 hy_Mo_letters lc_3001 lk_364 lc_3002 ⟨rfl, rfl⟩ ⟨Nat.le_of_ble_eq_true rfl, Nat.le_of_ble_eq_true rfl⟩ (Nat.le_of_ble_eq_true rfl) rfl d_Mo_init_478 rfl (fun r σ2 τ2 h => ?_)
  rw [h.1, h.2.1, h.2.2]
  exact sx_last (k := 57) (pc2 := 482) hX (hK.1 57 (by decide) (by decide)) (fun n p h => hK.2 57 n p h) (fun _ => rfl) (in_I (n := 12) rfl (by decide) (by decide)) d_Mo_init_481 rfl kk
theorem md_b13 {l : Launch} {K : sx_K} {X : sx_T} {σ : sx_M} {τ : sx_L} (hX : sx_C X K prog_13_method_2_code 1 "SensorTreeModel" none rm_Mo_init l) (hK : kx_F K) (kk : sx_G X K 1 504 [(0, .ref (K.2.2.1 50 0 0))] [] (sx_H K σ (sx_ul τ 57 13 1903978))) : sx_G X K 1 482 [(0, .ref (K.2.2.1 50 0 0))] [] (sx_H K σ τ) := by
  refine sx_aload_n (pc2 := 483) hX 0 d_Mo_init_482 rfl rfl rfl ?_
  refine fg_Mo_34 (pc2 := 486) hX (kr_50 hK) d_Mo_init_483 rfl ?_
  refine sx_bipush (v := 13) (pc2 := 488) hX d_Mo_init_486 (by decide) rfl ?_
  refine sx_bipush (v := 99) (pc2 := 490) hX d_Mo_init_488 (by decide) rfl ?_
  refine sx_bipush (v := 111) (pc2 := 492) hX d_Mo_init_490 (by decide) rfl ?_
  refine sx_bipush (v := 115) (pc2 := 494) hX d_Mo_init_492 (by decide) rfl ?_
  refine sx_bipush (v := 116) (pc2 := 496) hX d_Mo_init_494 (by decide) rfl ?_
  refine sx_bipush (v := 115) (pc2 := 498) hX d_Mo_init_496 (by decide) rfl ?_
  refine sx_iconst (v := 0) (pc2 := 499) hX d_Mo_init_498 (by decide) rfl ?_
  refine sx_iconst (v := 0) (pc2 := 500) hX d_Mo_init_499 (by decide) rfl ?_
  refine sx_callSl (pc2 := 503) (As := [.int 99, .int 111, .int 115, .int 116, .int 115, .int 0, .int 0]) hX (c_Mo_letters hK 99 111 115 116 115 0 0 σ τ (fun r σ2 τ2 => r = 1903978 ∧ σ2 = σ ∧ τ2 = τ) (md_l13 ⟨rfl, rfl, rfl⟩)) lc_3000 hy_Mo_letters lc_3001 lk_364 lc_3002 ⟨rfl, rfl⟩ ⟨Nat.le_of_ble_eq_true rfl, Nat.le_of_ble_eq_true rfl⟩ (Nat.le_of_ble_eq_true rfl) rfl d_Mo_init_500 rfl (fun r σ2 τ2 h => ?_)
  rw [h.1, h.2.1, h.2.2]
  exact sx_last (k := 57) (pc2 := 504) hX (hK.1 57 (by decide) (by decide)) (fun n p h => hK.2 57 n p h) (fun _ => rfl) (in_I (n := 13) rfl (by decide) (by decide)) d_Mo_init_503 rfl kk
def md_τ : sx_L := (sx_ul (sx_ul (sx_ul (sx_ul (sx_ul (sx_ul (sx_ul (sx_ul (sx_ul (sx_ul (sx_ul (sx_ul (sx_ul (sx_ul (fun _ _ => 0) 57 0 326396) 57 1 243146) 57 2 3379448) 57 3 11088176) 57 4 79495460) 57 5 847604) 57 6 361373) 57 7 358472) 57 8 3547106) 57 9 7742498) 57 10 377761) 57 11 148755) 57 12 168850) 57 13 1903978)
theorem md_tail {l : Launch} {K : sx_K} {X : sx_T} {Q : sx_M → sx_L → Prop} (hX : sx_C X K prog_13_method_2_code 1 "SensorTreeModel" none rm_Mo_init l) (hK : kx_F K) (h : wp_Mo_plain 0 md_σ md_τ (fun ρ θ => wp_Mo_plain 1 ρ θ (fun ρ θ => wp_Mo_begins ρ θ (fun ρ θ => wp_Mo_keepsRow ρ θ Q)))) (kk : ∀ σ τ, Q σ τ → sx_G X K 1 522 [(0, .ref (K.2.2.1 50 0 0))] [] (sx_H K σ τ)) : sx_G X K 1 208 [(0, .ref (K.2.2.1 50 0 0))] [] (sx_H K md_σ (fun _ _ => 0)) := by
  refine md_b0 hX hK ?_
  refine md_b1 hX hK ?_
  refine md_b2 hX hK ?_
  refine md_b3 hX hK ?_
  refine md_b4 hX hK ?_
  refine md_b5 hX hK ?_
  refine md_b6 hX hK ?_
  refine md_b7 hX hK ?_
  refine md_b8 hX hK ?_
  refine md_b9 hX hK ?_
  refine md_b10 hX hK ?_
  refine md_b11 hX hK ?_
  refine md_b12 hX hK ?_
  refine md_b13 hX hK ?_
  change sx_G X K 1 504 [(0, .ref (K.2.2.1 50 0 0))] [] (sx_H K md_σ md_τ)
  refine sx_aload_n (pc2 := 505) hX 0 d_Mo_init_504 rfl rfl rfl ?_
  refine sx_iconst (v := 0) (pc2 := 506) hX d_Mo_init_505 (by decide) rfl ?_
  refine sx_callVv (Q := fun ρ θ => wp_Mo_plain 1 ρ θ (fun ρ θ => wp_Mo_begins ρ θ (fun ρ θ => wp_Mo_keepsRow ρ θ Q))) (pc2 := 509) (As := [.int 0]) hX (c_Mo_plain hK 0 _ _ _ h) (kr_50 hK) rfl rfl lk_460 ls_37 hy_Mo_plain lk_458 lk_364 lk_459 ⟨rfl, rfl⟩ ⟨Nat.le_of_ble_eq_true rfl, Nat.le_of_ble_eq_true rfl⟩ (Nat.le_of_ble_eq_true rfl) rfl d_Mo_init_506 rfl (fun _ _ h => ?_)
  refine sx_aload_n (pc2 := 510) hX 0 d_Mo_init_509 rfl rfl rfl ?_
  refine sx_iconst (v := 1) (pc2 := 511) hX d_Mo_init_510 (by decide) rfl ?_
  refine sx_callVv (Q := fun ρ θ => wp_Mo_begins ρ θ (fun ρ θ => wp_Mo_keepsRow ρ θ Q)) (pc2 := 514) (As := [.int 1]) hX (c_Mo_plain hK 1 _ _ _ h) (kr_50 hK) rfl rfl lk_460 ls_37 hy_Mo_plain lk_458 lk_364 lk_459 ⟨rfl, rfl⟩ ⟨Nat.le_of_ble_eq_true rfl, Nat.le_of_ble_eq_true rfl⟩ (Nat.le_of_ble_eq_true rfl) rfl d_Mo_init_511 rfl (fun _ _ h => ?_)
  refine sx_aload_n (pc2 := 515) hX 0 d_Mo_init_514 rfl rfl rfl ?_
  refine sx_callVv (Q := fun ρ θ => wp_Mo_keepsRow ρ θ Q) (pc2 := 518) (As := []) hX (c_Mo_begins hK _ _ _ h) (kr_50 hK) rfl rfl lk_448 ls_38 hy_Mo_begins lk_446 lk_364 lk_447 ⟨rfl, rfl⟩ ⟨Nat.le_of_ble_eq_true rfl, Nat.le_of_ble_eq_true rfl⟩ (Nat.le_of_ble_eq_true rfl) rfl d_Mo_init_515 rfl (fun _ _ h => ?_)
  refine sx_aload_n (pc2 := 519) hX 0 d_Mo_init_518 rfl rfl rfl ?_
  refine sx_callVv (Q := Q) (pc2 := 522) (As := []) hX (c_Mo_keepsRow hK _ _ _ h) (kr_50 hK) rfl rfl lk_451 ls_44 hy_Mo_keepsRow lk_449 lk_364 lk_450 ⟨rfl, rfl⟩ ⟨Nat.le_of_ble_eq_true rfl, Nat.le_of_ble_eq_true rfl⟩ (Nat.le_of_ble_eq_true rfl) rfl d_Mo_init_519 rfl (fun _ _ h => ?_)
  exact kk _ _ h
