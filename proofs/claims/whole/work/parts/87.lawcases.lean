section LAWC
variable {X : sx_T} {KC KR : sx_K} {b L i : Nat} {xs : Nat → Int32} {l : Launch} {σ ρ : sx_M} {τ θ : sx_L}
theorem lw_c0 (C : lx_C X KC KR b L xs l) (hi : i + 6 ≤ L) (hI : pn_I σ ρ θ) (kk : lx_next X KC KR b i) : lx_G X 196 (lx_lv KC KR b i) [] (lx_H KC KR σ τ ρ θ) := by
  obtain ⟨r, σ2, ρ2, θ2, hI2, hA, hB⟩ := M_feed hI (xs (i + 1)) (xs (i + 2)) (xs (i + 3)) (xs (i + 4)) (xs (i + 5))
  refine sx_aload_n (pc2 := 197) C.1 2 d_lw_196 rfl rfl rfl ?_
  refine lx_arg (k := 1) (pc5 := 202) C hi (by decide) d_lw_197 d_lw_198 d_lw_199 d_lw_200 d_lw_201 rfl rfl rfl rfl ⟨rfl, rfl⟩ ?_
  refine lx_arg (k := 2) (pc5 := 207) C hi (by decide) d_lw_202 d_lw_203 d_lw_204 d_lw_205 d_lw_206 rfl rfl rfl rfl ⟨rfl, rfl⟩ ?_
  refine lx_arg (k := 3) (pc5 := 212) C hi (by decide) d_lw_207 d_lw_208 d_lw_209 d_lw_210 d_lw_211 rfl rfl rfl rfl ⟨rfl, rfl⟩ ?_
  refine lx_arg (k := 4) (pc5 := 217) C hi (by decide) d_lw_212 d_lw_213 d_lw_214 d_lw_215 d_lw_216 rfl rfl rfl rfl ⟨rfl, rfl⟩ ?_
  refine lx_arg (k := 5) (pc5 := 222) C hi (by decide) d_lw_217 d_lw_218 d_lw_219 d_lw_220 d_lw_221 rfl rfl rfl rfl ⟨rfl, rfl⟩ ?_
  refine lx_call (pc2 := 225) (As := [.int (xs (i + 1)), .int (xs (i + 2)), .int (xs (i + 3)), .int (xs (i + 4)), .int (xs (i + 5))]) C.1 C.1.2.2.2.2.2.2.2.2.2 C.2.1 C.2.2.2.1.1 C.2.2.2.1.2.2.2 (c_St_feed C.2.2.2.2.1.1 (xs (i + 1)) (xs (i + 2)) (xs (i + 3)) (xs (i + 4)) (xs (i + 5)) σ τ (fun r' σ' => r' = r ∧ σ' = σ2) (hA _ ⟨rfl, rfl⟩)) (C.2.2.2.2.1.1 0 0 0 (by decide) (by decide)) rfl rfl lz_0 lz_1 hy_St_feed lz_2 lk_260 lz_3 ⟨rfl, rfl⟩ ⟨Nat.le_of_ble_eq_true rfl, Nat.le_of_ble_eq_true rfl⟩ (Nat.le_of_ble_eq_true rfl) rfl d_lw_222 rfl (fun _ hh => hh) (fun r' σ' τ2 qq => ?_)
  rw [qq.1, qq.2]
  refine sx_aload_n (pc2 := 226) C.1 3 d_lw_225 rfl rfl rfl ?_
  refine lx_arg (k := 1) (pc5 := 231) C hi (by decide) d_lw_226 d_lw_227 d_lw_228 d_lw_229 d_lw_230 rfl rfl rfl rfl ⟨rfl, rfl⟩ ?_
  refine lx_arg (k := 2) (pc5 := 236) C hi (by decide) d_lw_231 d_lw_232 d_lw_233 d_lw_234 d_lw_235 rfl rfl rfl rfl ⟨rfl, rfl⟩ ?_
  refine lx_arg (k := 3) (pc5 := 241) C hi (by decide) d_lw_236 d_lw_237 d_lw_238 d_lw_239 d_lw_240 rfl rfl rfl rfl ⟨rfl, rfl⟩ ?_
  refine lx_arg (k := 4) (pc5 := 246) C hi (by decide) d_lw_241 d_lw_242 d_lw_243 d_lw_244 d_lw_245 rfl rfl rfl rfl ⟨rfl, rfl⟩ ?_
  refine lx_arg (k := 5) (pc5 := 251) C hi (by decide) d_lw_246 d_lw_247 d_lw_248 d_lw_249 d_lw_250 rfl rfl rfl rfl ⟨rfl, rfl⟩ ?_
  refine lx_call (pc2 := 254) (As := [.int (xs (i + 1)), .int (xs (i + 2)), .int (xs (i + 3)), .int (xs (i + 4)), .int (xs (i + 5))]) C.1 C.2.1 C.1.2.2.2.2.2.2.2.2.2 C.2.2.2.1.2.1 C.2.2.2.1.2.2.1 (c_Mo_feed C.2.2.2.2.1.2 (xs (i + 1)) (xs (i + 2)) (xs (i + 3)) (xs (i + 4)) (xs (i + 5)) ρ θ (fun r' ρ' θ' => r' = r ∧ ρ' = ρ2 ∧ θ' = θ2) (hB _ ⟨rfl, rfl, rfl⟩)) (kr_50 C.2.2.2.2.1.2) rfl rfl lz_4 lz_5 hy_Mo_feed lz_6 lk_364 lz_7 ⟨rfl, rfl⟩ ⟨Nat.le_of_ble_eq_true rfl, Nat.le_of_ble_eq_true rfl⟩ (Nat.le_of_ble_eq_true rfl) rfl d_lw_251 rfl (fun _ hh => ⟨hh.2, hh.1⟩) (fun r' ρ' θ' qq => ?_)
  rw [qq.1, qq.2.1, qq.2.2]
  exact sx_icmp_eq (pc2 := 257) C.1 (tgt := 1189) d_lw_254 (by decide) rfl (fun _ => lx_imp (fun _ hh => ⟨hh.2, hh.1⟩) (kk σ2 τ2 ρ2 θ2 hI2)) (fun qq => absurd rfl qq)
theorem lw_c1 (C : lx_C X KC KR b L xs l) (hi : i + 6 ≤ L) (hI : pn_I σ ρ θ) (kk : lx_next X KC KR b i) : lx_G X 259 (lx_lv KC KR b i) [] (lx_H KC KR σ τ ρ θ) := by
  obtain ⟨r, σ2, ρ2, θ2, hI2, hA, hB⟩ := M_back hI (xs (i + 1))
  refine sx_aload_n (pc2 := 260) C.1 2 d_lw_259 rfl rfl rfl ?_
  refine lx_arg (k := 1) (pc5 := 265) C hi (by decide) d_lw_260 d_lw_261 d_lw_262 d_lw_263 d_lw_264 rfl rfl rfl rfl ⟨rfl, rfl⟩ ?_
  refine lx_call (pc2 := 268) (As := [.int (xs (i + 1))]) C.1 C.1.2.2.2.2.2.2.2.2.2 C.2.1 C.2.2.2.1.1 C.2.2.2.1.2.2.2 (c_St_back C.2.2.2.2.1.1 (xs (i + 1)) σ τ (fun r' σ' => r' = r ∧ σ' = σ2) (hA _ ⟨rfl, rfl⟩)) (C.2.2.2.2.1.1 0 0 0 (by decide) (by decide)) rfl rfl lz_8 lz_9 hy_St_back lz_10 lk_260 lz_11 ⟨rfl, rfl⟩ ⟨Nat.le_of_ble_eq_true rfl, Nat.le_of_ble_eq_true rfl⟩ (Nat.le_of_ble_eq_true rfl) rfl d_lw_265 rfl (fun _ hh => hh) (fun r' σ' τ2 qq => ?_)
  rw [qq.1, qq.2]
  refine sx_aload_n (pc2 := 269) C.1 3 d_lw_268 rfl rfl rfl ?_
  refine lx_arg (k := 1) (pc5 := 274) C hi (by decide) d_lw_269 d_lw_270 d_lw_271 d_lw_272 d_lw_273 rfl rfl rfl rfl ⟨rfl, rfl⟩ ?_
  refine lx_call (pc2 := 277) (As := [.int (xs (i + 1))]) C.1 C.2.1 C.1.2.2.2.2.2.2.2.2.2 C.2.2.2.1.2.1 C.2.2.2.1.2.2.1 (c_Mo_back C.2.2.2.2.1.2 (xs (i + 1)) ρ θ (fun r' ρ' θ' => r' = r ∧ ρ' = ρ2 ∧ θ' = θ2) (hB _ ⟨rfl, rfl, rfl⟩)) (kr_50 C.2.2.2.2.1.2) rfl rfl lz_12 lz_13 hy_Mo_back lz_14 lk_364 lz_15 ⟨rfl, rfl⟩ ⟨Nat.le_of_ble_eq_true rfl, Nat.le_of_ble_eq_true rfl⟩ (Nat.le_of_ble_eq_true rfl) rfl d_lw_274 rfl (fun _ hh => ⟨hh.2, hh.1⟩) (fun r' ρ' θ' qq => ?_)
  rw [qq.1, qq.2.1, qq.2.2]
  exact sx_icmp_eq (pc2 := 280) C.1 (tgt := 1189) d_lw_277 (by decide) rfl (fun _ => lx_imp (fun _ hh => ⟨hh.2, hh.1⟩) (kk σ2 τ2 ρ2 θ2 hI2)) (fun qq => absurd rfl qq)
theorem lw_c2 (C : lx_C X KC KR b L xs l) (hi : i + 6 ≤ L) (hI : pn_I σ ρ θ) (kk : lx_next X KC KR b i) : lx_G X 282 (lx_lv KC KR b i) [] (lx_H KC KR σ τ ρ θ) := by
  obtain ⟨r, σ2, ρ2, θ2, hI2, hA, hB⟩ := M_read hI 
  refine sx_aload_n (pc2 := 283) C.1 2 d_lw_282 rfl rfl rfl ?_
  refine lx_call (pc2 := 286) (As := []) C.1 C.1.2.2.2.2.2.2.2.2.2 C.2.1 C.2.2.2.1.1 C.2.2.2.1.2.2.2 (c_St_read C.2.2.2.2.1.1  σ τ (fun r' σ' => r' = r ∧ σ' = σ2) (hA _ ⟨rfl, rfl⟩)) (C.2.2.2.2.1.1 0 0 0 (by decide) (by decide)) rfl rfl lz_16 lz_17 hy_St_read lz_18 lk_260 lz_19 ⟨rfl, rfl⟩ ⟨Nat.le_of_ble_eq_true rfl, Nat.le_of_ble_eq_true rfl⟩ (Nat.le_of_ble_eq_true rfl) rfl d_lw_283 rfl (fun _ hh => hh) (fun r' σ' τ2 qq => ?_)
  rw [qq.1, qq.2]
  refine sx_aload_n (pc2 := 287) C.1 3 d_lw_286 rfl rfl rfl ?_
  refine lx_call (pc2 := 290) (As := []) C.1 C.2.1 C.1.2.2.2.2.2.2.2.2.2 C.2.2.2.1.2.1 C.2.2.2.1.2.2.1 (c_Mo_read C.2.2.2.2.1.2  ρ θ (fun r' ρ' θ' => r' = r ∧ ρ' = ρ2 ∧ θ' = θ2) (hB _ ⟨rfl, rfl, rfl⟩)) (kr_50 C.2.2.2.2.1.2) rfl rfl lz_20 lz_21 hy_Mo_read lz_22 lk_364 lz_23 ⟨rfl, rfl⟩ ⟨Nat.le_of_ble_eq_true rfl, Nat.le_of_ble_eq_true rfl⟩ (Nat.le_of_ble_eq_true rfl) rfl d_lw_287 rfl (fun _ hh => ⟨hh.2, hh.1⟩) (fun r' ρ' θ' qq => ?_)
  rw [qq.1, qq.2.1, qq.2.2]
  exact sx_icmp_eq (pc2 := 293) C.1 (tgt := 1189) d_lw_290 (by decide) rfl (fun _ => lx_imp (fun _ hh => ⟨hh.2, hh.1⟩) (kk σ2 τ2 ρ2 θ2 hI2)) (fun qq => absurd rfl qq)
theorem lw_c3 (C : lx_C X KC KR b L xs l) (hi : i + 6 ≤ L) (hI : pn_I σ ρ θ) (kk : lx_next X KC KR b i) : lx_G X 295 (lx_lv KC KR b i) [] (lx_H KC KR σ τ ρ θ) := by
  obtain ⟨r, σ2, ρ2, θ2, hI2, hA, hB⟩ := M_place hI 
  refine sx_aload_n (pc2 := 296) C.1 2 d_lw_295 rfl rfl rfl ?_
  refine lx_call (pc2 := 299) (As := []) C.1 C.1.2.2.2.2.2.2.2.2.2 C.2.1 C.2.2.2.1.1 C.2.2.2.1.2.2.2 (c_St_place C.2.2.2.2.1.1  σ τ (fun r' σ' => r' = r ∧ σ' = σ2) (hA _ ⟨rfl, rfl⟩)) (C.2.2.2.2.1.1 0 0 0 (by decide) (by decide)) rfl rfl lz_24 lz_25 hy_St_place lz_26 lk_260 lz_27 ⟨rfl, rfl⟩ ⟨Nat.le_of_ble_eq_true rfl, Nat.le_of_ble_eq_true rfl⟩ (Nat.le_of_ble_eq_true rfl) rfl d_lw_296 rfl (fun _ hh => hh) (fun r' σ' τ2 qq => ?_)
  rw [qq.1, qq.2]
  refine sx_aload_n (pc2 := 300) C.1 3 d_lw_299 rfl rfl rfl ?_
  refine lx_call (pc2 := 303) (As := []) C.1 C.2.1 C.1.2.2.2.2.2.2.2.2.2 C.2.2.2.1.2.1 C.2.2.2.1.2.2.1 (c_Mo_place C.2.2.2.2.1.2  ρ θ (fun r' ρ' θ' => r' = r ∧ ρ' = ρ2 ∧ θ' = θ2) (hB _ ⟨rfl, rfl, rfl⟩)) (kr_50 C.2.2.2.2.1.2) rfl rfl lz_28 lz_29 hy_Mo_place lz_30 lk_364 lz_31 ⟨rfl, rfl⟩ ⟨Nat.le_of_ble_eq_true rfl, Nat.le_of_ble_eq_true rfl⟩ (Nat.le_of_ble_eq_true rfl) rfl d_lw_300 rfl (fun _ hh => ⟨hh.2, hh.1⟩) (fun r' ρ' θ' qq => ?_)
  rw [qq.1, qq.2.1, qq.2.2]
  exact sx_icmp_eq (pc2 := 306) C.1 (tgt := 1189) d_lw_303 (by decide) rfl (fun _ => lx_imp (fun _ hh => ⟨hh.2, hh.1⟩) (kk σ2 τ2 ρ2 θ2 hI2)) (fun qq => absurd rfl qq)
theorem lw_c4 (C : lx_C X KC KR b L xs l) (hi : i + 6 ≤ L) (hI : pn_I σ ρ θ) (kk : lx_next X KC KR b i) : lx_G X 308 (lx_lv KC KR b i) [] (lx_H KC KR σ τ ρ θ) := by
  obtain ⟨r, σ2, ρ2, θ2, hI2, hA, hB⟩ := M_ticks hI (xs (i + 1))
  refine sx_aload_n (pc2 := 309) C.1 2 d_lw_308 rfl rfl rfl ?_
  refine lx_arg (k := 1) (pc5 := 314) C hi (by decide) d_lw_309 d_lw_310 d_lw_311 d_lw_312 d_lw_313 rfl rfl rfl rfl ⟨rfl, rfl⟩ ?_
  refine lx_call (pc2 := 317) (As := [.int (xs (i + 1))]) C.1 C.1.2.2.2.2.2.2.2.2.2 C.2.1 C.2.2.2.1.1 C.2.2.2.1.2.2.2 (c_St_ticks C.2.2.2.2.1.1 (xs (i + 1)) σ τ (fun r' σ' => r' = r ∧ σ' = σ2) (hA _ ⟨rfl, rfl⟩)) (C.2.2.2.2.1.1 0 0 0 (by decide) (by decide)) rfl rfl lz_32 lz_33 hy_St_ticks lz_34 lk_260 lz_35 ⟨rfl, rfl⟩ ⟨Nat.le_of_ble_eq_true rfl, Nat.le_of_ble_eq_true rfl⟩ (Nat.le_of_ble_eq_true rfl) rfl d_lw_314 rfl (fun _ hh => hh) (fun r' σ' τ2 qq => ?_)
  rw [qq.1, qq.2]
  refine sx_aload_n (pc2 := 318) C.1 3 d_lw_317 rfl rfl rfl ?_
  refine lx_arg (k := 1) (pc5 := 323) C hi (by decide) d_lw_318 d_lw_319 d_lw_320 d_lw_321 d_lw_322 rfl rfl rfl rfl ⟨rfl, rfl⟩ ?_
  refine lx_call (pc2 := 326) (As := [.int (xs (i + 1))]) C.1 C.2.1 C.1.2.2.2.2.2.2.2.2.2 C.2.2.2.1.2.1 C.2.2.2.1.2.2.1 (c_Mo_ticks C.2.2.2.2.1.2 (xs (i + 1)) ρ θ (fun r' ρ' θ' => r' = r ∧ ρ' = ρ2 ∧ θ' = θ2) (hB _ ⟨rfl, rfl, rfl⟩)) (kr_50 C.2.2.2.2.1.2) rfl rfl lz_36 lz_37 hy_Mo_ticks lz_38 lk_364 lz_39 ⟨rfl, rfl⟩ ⟨Nat.le_of_ble_eq_true rfl, Nat.le_of_ble_eq_true rfl⟩ (Nat.le_of_ble_eq_true rfl) rfl d_lw_323 rfl (fun _ hh => ⟨hh.2, hh.1⟩) (fun r' ρ' θ' qq => ?_)
  rw [qq.1, qq.2.1, qq.2.2]
  exact sx_icmp_eq (pc2 := 329) C.1 (tgt := 1189) d_lw_326 (by decide) rfl (fun _ => lx_imp (fun _ hh => ⟨hh.2, hh.1⟩) (kk σ2 τ2 ρ2 θ2 hI2)) (fun qq => absurd rfl qq)
theorem lw_c5 (C : lx_C X KC KR b L xs l) (hi : i + 6 ≤ L) (hI : pn_I σ ρ θ) (kk : lx_next X KC KR b i) : lx_G X 331 (lx_lv KC KR b i) [] (lx_H KC KR σ τ ρ θ) := by
  obtain ⟨r, σ2, ρ2, θ2, hI2, hA, hB⟩ := M_join hI (xs (i + 1)) (lx_b (xs (i + 2))) (lx_bz _)
  refine sx_aload_n (pc2 := 332) C.1 2 d_lw_331 rfl rfl rfl ?_
  refine lx_arg (k := 1) (pc5 := 337) C hi (by decide) d_lw_332 d_lw_333 d_lw_334 d_lw_335 d_lw_336 rfl rfl rfl rfl ⟨rfl, rfl⟩ ?_
  refine lx_arg (k := 2) (pc5 := 342) C hi (by decide) d_lw_337 d_lw_338 d_lw_339 d_lw_340 d_lw_341 rfl rfl rfl rfl ⟨rfl, rfl⟩ ?_
  refine lx_flag (pc8 := 350) C d_lw_342 d_lw_345 d_lw_346 d_lw_349 rfl rfl ⟨rfl, rfl⟩ ?_
  refine lx_call (pc2 := 353) (As := [.int (xs (i + 1)), .int (lx_b (xs (i + 2)))]) C.1 C.1.2.2.2.2.2.2.2.2.2 C.2.1 C.2.2.2.1.1 C.2.2.2.1.2.2.2 (c_St_join C.2.2.2.2.1.1 (xs (i + 1)) (lx_b (xs (i + 2))) σ τ (fun r' σ' => r' = r ∧ σ' = σ2) (hA _ ⟨rfl, rfl⟩)) (C.2.2.2.2.1.1 0 0 0 (by decide) (by decide)) rfl rfl lz_40 lz_41 hy_St_join lz_42 lk_260 lz_43 ⟨rfl, rfl⟩ ⟨Nat.le_of_ble_eq_true rfl, Nat.le_of_ble_eq_true rfl⟩ (Nat.le_of_ble_eq_true rfl) rfl d_lw_350 rfl (fun _ hh => hh) (fun r' σ' τ2 qq => ?_)
  rw [qq.1, qq.2]
  refine sx_aload_n (pc2 := 354) C.1 3 d_lw_353 rfl rfl rfl ?_
  refine lx_arg (k := 1) (pc5 := 359) C hi (by decide) d_lw_354 d_lw_355 d_lw_356 d_lw_357 d_lw_358 rfl rfl rfl rfl ⟨rfl, rfl⟩ ?_
  refine lx_arg (k := 2) (pc5 := 364) C hi (by decide) d_lw_359 d_lw_360 d_lw_361 d_lw_362 d_lw_363 rfl rfl rfl rfl ⟨rfl, rfl⟩ ?_
  refine lx_flag (pc8 := 372) C d_lw_364 d_lw_367 d_lw_368 d_lw_371 rfl rfl ⟨rfl, rfl⟩ ?_
  refine lx_call (pc2 := 375) (As := [.int (xs (i + 1)), .int (lx_b (xs (i + 2)))]) C.1 C.2.1 C.1.2.2.2.2.2.2.2.2.2 C.2.2.2.1.2.1 C.2.2.2.1.2.2.1 (c_Mo_join C.2.2.2.2.1.2 (xs (i + 1)) (lx_b (xs (i + 2))) ρ θ (fun r' ρ' θ' => r' = r ∧ ρ' = ρ2 ∧ θ' = θ2) (hB _ ⟨rfl, rfl, rfl⟩)) (kr_50 C.2.2.2.2.1.2) rfl rfl lz_44 lz_45 hy_Mo_join lz_46 lk_364 lz_47 ⟨rfl, rfl⟩ ⟨Nat.le_of_ble_eq_true rfl, Nat.le_of_ble_eq_true rfl⟩ (Nat.le_of_ble_eq_true rfl) rfl d_lw_372 rfl (fun _ hh => ⟨hh.2, hh.1⟩) (fun r' ρ' θ' qq => ?_)
  rw [qq.1, qq.2.1, qq.2.2]
  exact sx_icmp_eq (pc2 := 378) C.1 (tgt := 1189) d_lw_375 (by decide) rfl (fun _ => lx_imp (fun _ hh => ⟨hh.2, hh.1⟩) (kk σ2 τ2 ρ2 θ2 hI2)) (fun qq => absurd rfl qq)
theorem lw_c6 (C : lx_C X KC KR b L xs l) (hi : i + 6 ≤ L) (hI : pn_I σ ρ θ) (kk : lx_next X KC KR b i) : lx_G X 380 (lx_lv KC KR b i) [] (lx_H KC KR σ τ ρ θ) := by
  obtain ⟨r, σ2, ρ2, θ2, hI2, hA, hB⟩ := M_cost hI (xs (i + 1)) (xs (i + 2))
  refine sx_aload_n (pc2 := 381) C.1 2 d_lw_380 rfl rfl rfl ?_
  refine lx_arg (k := 1) (pc5 := 386) C hi (by decide) d_lw_381 d_lw_382 d_lw_383 d_lw_384 d_lw_385 rfl rfl rfl rfl ⟨rfl, rfl⟩ ?_
  refine lx_arg (k := 2) (pc5 := 391) C hi (by decide) d_lw_386 d_lw_387 d_lw_388 d_lw_389 d_lw_390 rfl rfl rfl rfl ⟨rfl, rfl⟩ ?_
  refine lx_call (pc2 := 394) (As := [.int (xs (i + 1)), .int (xs (i + 2))]) C.1 C.1.2.2.2.2.2.2.2.2.2 C.2.1 C.2.2.2.1.1 C.2.2.2.1.2.2.2 (c_St_cost C.2.2.2.2.1.1 (xs (i + 1)) (xs (i + 2)) σ τ (fun r' σ' => r' = r ∧ σ' = σ2) (hA _ ⟨rfl, rfl⟩)) (C.2.2.2.2.1.1 0 0 0 (by decide) (by decide)) rfl rfl lz_48 lz_49 hy_St_cost lz_50 lk_260 lz_51 ⟨rfl, rfl⟩ ⟨Nat.le_of_ble_eq_true rfl, Nat.le_of_ble_eq_true rfl⟩ (Nat.le_of_ble_eq_true rfl) rfl d_lw_391 rfl (fun _ hh => hh) (fun r' σ' τ2 qq => ?_)
  rw [qq.1, qq.2]
  refine sx_aload_n (pc2 := 395) C.1 3 d_lw_394 rfl rfl rfl ?_
  refine lx_arg (k := 1) (pc5 := 400) C hi (by decide) d_lw_395 d_lw_396 d_lw_397 d_lw_398 d_lw_399 rfl rfl rfl rfl ⟨rfl, rfl⟩ ?_
  refine lx_arg (k := 2) (pc5 := 405) C hi (by decide) d_lw_400 d_lw_401 d_lw_402 d_lw_403 d_lw_404 rfl rfl rfl rfl ⟨rfl, rfl⟩ ?_
  refine lx_call (pc2 := 408) (As := [.int (xs (i + 1)), .int (xs (i + 2))]) C.1 C.2.1 C.1.2.2.2.2.2.2.2.2.2 C.2.2.2.1.2.1 C.2.2.2.1.2.2.1 (c_Mo_cost C.2.2.2.2.1.2 (xs (i + 1)) (xs (i + 2)) ρ θ (fun r' ρ' θ' => r' = r ∧ ρ' = ρ2 ∧ θ' = θ2) (hB _ ⟨rfl, rfl, rfl⟩)) (kr_50 C.2.2.2.2.1.2) rfl rfl lz_52 lz_53 hy_Mo_cost lz_54 lk_364 lz_55 ⟨rfl, rfl⟩ ⟨Nat.le_of_ble_eq_true rfl, Nat.le_of_ble_eq_true rfl⟩ (Nat.le_of_ble_eq_true rfl) rfl d_lw_405 rfl (fun _ hh => ⟨hh.2, hh.1⟩) (fun r' ρ' θ' qq => ?_)
  rw [qq.1, qq.2.1, qq.2.2]
  exact sx_icmp_eq (pc2 := 411) C.1 (tgt := 1189) d_lw_408 (by decide) rfl (fun _ => lx_imp (fun _ hh => ⟨hh.2, hh.1⟩) (kk σ2 τ2 ρ2 θ2 hI2)) (fun qq => absurd rfl qq)
theorem lw_c7 (C : lx_C X KC KR b L xs l) (hi : i + 6 ≤ L) (hI : pn_I σ ρ θ) (kk : lx_next X KC KR b i) : lx_G X 413 (lx_lv KC KR b i) [] (lx_H KC KR σ τ ρ θ) := by
  obtain ⟨r, σ2, ρ2, θ2, hI2, hA, hB⟩ := M_power hI (xs (i + 1)) (lx_b (xs (i + 2))) (lx_bz _)
  refine sx_aload_n (pc2 := 414) C.1 2 d_lw_413 rfl rfl rfl ?_
  refine lx_arg (k := 1) (pc5 := 419) C hi (by decide) d_lw_414 d_lw_415 d_lw_416 d_lw_417 d_lw_418 rfl rfl rfl rfl ⟨rfl, rfl⟩ ?_
  refine lx_arg (k := 2) (pc5 := 424) C hi (by decide) d_lw_419 d_lw_420 d_lw_421 d_lw_422 d_lw_423 rfl rfl rfl rfl ⟨rfl, rfl⟩ ?_
  refine lx_flag (pc8 := 432) C d_lw_424 d_lw_427 d_lw_428 d_lw_431 rfl rfl ⟨rfl, rfl⟩ ?_
  refine lx_call (pc2 := 435) (As := [.int (xs (i + 1)), .int (lx_b (xs (i + 2)))]) C.1 C.1.2.2.2.2.2.2.2.2.2 C.2.1 C.2.2.2.1.1 C.2.2.2.1.2.2.2 (c_St_power C.2.2.2.2.1.1 (xs (i + 1)) (lx_b (xs (i + 2))) σ τ (fun r' σ' => r' = r ∧ σ' = σ2) (hA _ ⟨rfl, rfl⟩)) (C.2.2.2.2.1.1 0 0 0 (by decide) (by decide)) rfl rfl lz_56 lz_57 hy_St_power lz_58 lk_260 lz_59 ⟨rfl, rfl⟩ ⟨Nat.le_of_ble_eq_true rfl, Nat.le_of_ble_eq_true rfl⟩ (Nat.le_of_ble_eq_true rfl) rfl d_lw_432 rfl (fun _ hh => hh) (fun r' σ' τ2 qq => ?_)
  rw [qq.1, qq.2]
  refine sx_aload_n (pc2 := 436) C.1 3 d_lw_435 rfl rfl rfl ?_
  refine lx_arg (k := 1) (pc5 := 441) C hi (by decide) d_lw_436 d_lw_437 d_lw_438 d_lw_439 d_lw_440 rfl rfl rfl rfl ⟨rfl, rfl⟩ ?_
  refine lx_arg (k := 2) (pc5 := 446) C hi (by decide) d_lw_441 d_lw_442 d_lw_443 d_lw_444 d_lw_445 rfl rfl rfl rfl ⟨rfl, rfl⟩ ?_
  refine lx_flag (pc8 := 454) C d_lw_446 d_lw_449 d_lw_450 d_lw_453 rfl rfl ⟨rfl, rfl⟩ ?_
  refine lx_call (pc2 := 457) (As := [.int (xs (i + 1)), .int (lx_b (xs (i + 2)))]) C.1 C.2.1 C.1.2.2.2.2.2.2.2.2.2 C.2.2.2.1.2.1 C.2.2.2.1.2.2.1 (c_Mo_power C.2.2.2.2.1.2 (xs (i + 1)) (lx_b (xs (i + 2))) ρ θ (fun r' ρ' θ' => r' = r ∧ ρ' = ρ2 ∧ θ' = θ2) (hB _ ⟨rfl, rfl, rfl⟩)) (kr_50 C.2.2.2.2.1.2) rfl rfl lz_60 lz_61 hy_Mo_power lz_62 lk_364 lz_63 ⟨rfl, rfl⟩ ⟨Nat.le_of_ble_eq_true rfl, Nat.le_of_ble_eq_true rfl⟩ (Nat.le_of_ble_eq_true rfl) rfl d_lw_454 rfl (fun _ hh => ⟨hh.2, hh.1⟩) (fun r' ρ' θ' qq => ?_)
  rw [qq.1, qq.2.1, qq.2.2]
  exact sx_icmp_eq (pc2 := 460) C.1 (tgt := 1189) d_lw_457 (by decide) rfl (fun _ => lx_imp (fun _ hh => ⟨hh.2, hh.1⟩) (kk σ2 τ2 ρ2 θ2 hI2)) (fun qq => absurd rfl qq)
theorem lw_c8 (C : lx_C X KC KR b L xs l) (hi : i + 6 ≤ L) (hI : pn_I σ ρ θ) (kk : lx_next X KC KR b i) : lx_G X 462 (lx_lv KC KR b i) [] (lx_H KC KR σ τ ρ θ) := by
  obtain ⟨r, σ2, ρ2, θ2, hI2, hA, hB⟩ := M_repair hI 
  refine sx_aload_n (pc2 := 463) C.1 2 d_lw_462 rfl rfl rfl ?_
  refine lx_call (pc2 := 466) (As := []) C.1 C.1.2.2.2.2.2.2.2.2.2 C.2.1 C.2.2.2.1.1 C.2.2.2.1.2.2.2 (c_St_repair C.2.2.2.2.1.1  σ τ (fun r' σ' => r' = r ∧ σ' = σ2) (hA _ ⟨rfl, rfl⟩)) (C.2.2.2.2.1.1 0 0 0 (by decide) (by decide)) rfl rfl lz_64 lz_65 hy_St_repair lz_66 lk_260 lz_67 ⟨rfl, rfl⟩ ⟨Nat.le_of_ble_eq_true rfl, Nat.le_of_ble_eq_true rfl⟩ (Nat.le_of_ble_eq_true rfl) rfl d_lw_463 rfl (fun _ hh => hh) (fun r' σ' τ2 qq => ?_)
  rw [qq.1, qq.2]
  refine sx_aload_n (pc2 := 467) C.1 3 d_lw_466 rfl rfl rfl ?_
  refine lx_call (pc2 := 470) (As := []) C.1 C.2.1 C.1.2.2.2.2.2.2.2.2.2 C.2.2.2.1.2.1 C.2.2.2.1.2.2.1 (c_Mo_repair C.2.2.2.2.1.2  ρ θ (fun r' ρ' θ' => r' = r ∧ ρ' = ρ2 ∧ θ' = θ2) (hB _ ⟨rfl, rfl, rfl⟩)) (kr_50 C.2.2.2.2.1.2) rfl rfl lz_68 lz_69 hy_Mo_repair lz_70 lk_364 lz_71 ⟨rfl, rfl⟩ ⟨Nat.le_of_ble_eq_true rfl, Nat.le_of_ble_eq_true rfl⟩ (Nat.le_of_ble_eq_true rfl) rfl d_lw_467 rfl (fun _ hh => ⟨hh.2, hh.1⟩) (fun r' ρ' θ' qq => ?_)
  rw [qq.1, qq.2.1, qq.2.2]
  exact sx_icmp_eq (pc2 := 473) C.1 (tgt := 1189) d_lw_470 (by decide) rfl (fun _ => lx_imp (fun _ hh => ⟨hh.2, hh.1⟩) (kk σ2 τ2 ρ2 θ2 hI2)) (fun qq => absurd rfl qq)
theorem lw_c9 (C : lx_C X KC KR b L xs l) (hi : i + 6 ≤ L) (hI : pn_I σ ρ θ) (kk : lx_next X KC KR b i) : lx_G X 475 (lx_lv KC KR b i) [] (lx_H KC KR σ τ ρ θ) := by
  obtain ⟨r, σ2, ρ2, θ2, hI2, hA, hB⟩ := M_send hI (xs (i + 1)) (xs (i + 2))
  refine sx_aload_n (pc2 := 476) C.1 2 d_lw_475 rfl rfl rfl ?_
  refine lx_arg (k := 1) (pc5 := 481) C hi (by decide) d_lw_476 d_lw_477 d_lw_478 d_lw_479 d_lw_480 rfl rfl rfl rfl ⟨rfl, rfl⟩ ?_
  refine lx_arg (k := 2) (pc5 := 486) C hi (by decide) d_lw_481 d_lw_482 d_lw_483 d_lw_484 d_lw_485 rfl rfl rfl rfl ⟨rfl, rfl⟩ ?_
  refine lx_call (pc2 := 489) (As := [.int (xs (i + 1)), .int (xs (i + 2))]) C.1 C.1.2.2.2.2.2.2.2.2.2 C.2.1 C.2.2.2.1.1 C.2.2.2.1.2.2.2 (c_St_send C.2.2.2.2.1.1 (xs (i + 1)) (xs (i + 2)) σ τ (fun r' σ' => r' = r ∧ σ' = σ2) (hA _ ⟨rfl, rfl⟩)) (C.2.2.2.2.1.1 0 0 0 (by decide) (by decide)) rfl rfl lz_72 lz_73 hy_St_send lz_74 lk_260 lz_75 ⟨rfl, rfl⟩ ⟨Nat.le_of_ble_eq_true rfl, Nat.le_of_ble_eq_true rfl⟩ (Nat.le_of_ble_eq_true rfl) rfl d_lw_486 rfl (fun _ hh => hh) (fun r' σ' τ2 qq => ?_)
  rw [qq.1, qq.2]
  refine sx_aload_n (pc2 := 490) C.1 3 d_lw_489 rfl rfl rfl ?_
  refine lx_arg (k := 1) (pc5 := 495) C hi (by decide) d_lw_490 d_lw_491 d_lw_492 d_lw_493 d_lw_494 rfl rfl rfl rfl ⟨rfl, rfl⟩ ?_
  refine lx_arg (k := 2) (pc5 := 500) C hi (by decide) d_lw_495 d_lw_496 d_lw_497 d_lw_498 d_lw_499 rfl rfl rfl rfl ⟨rfl, rfl⟩ ?_
  refine lx_call (pc2 := 503) (As := [.int (xs (i + 1)), .int (xs (i + 2))]) C.1 C.2.1 C.1.2.2.2.2.2.2.2.2.2 C.2.2.2.1.2.1 C.2.2.2.1.2.2.1 (c_Mo_send C.2.2.2.2.1.2 (xs (i + 1)) (xs (i + 2)) ρ θ (fun r' ρ' θ' => r' = r ∧ ρ' = ρ2 ∧ θ' = θ2) (hB _ ⟨rfl, rfl, rfl⟩)) (kr_50 C.2.2.2.2.1.2) rfl rfl lz_76 lz_77 hy_Mo_send lz_78 lk_364 lz_79 ⟨rfl, rfl⟩ ⟨Nat.le_of_ble_eq_true rfl, Nat.le_of_ble_eq_true rfl⟩ (Nat.le_of_ble_eq_true rfl) rfl d_lw_500 rfl (fun _ hh => ⟨hh.2, hh.1⟩) (fun r' ρ' θ' qq => ?_)
  rw [qq.1, qq.2.1, qq.2.2]
  exact sx_icmp_eq (pc2 := 506) C.1 (tgt := 1189) d_lw_503 (by decide) rfl (fun _ => lx_imp (fun _ hh => ⟨hh.2, hh.1⟩) (kk σ2 τ2 ρ2 θ2 hI2)) (fun qq => absurd rfl qq)
theorem lw_c10 (C : lx_C X KC KR b L xs l) (hi : i + 6 ≤ L) (hI : pn_I σ ρ θ) (kk : lx_next X KC KR b i) : lx_G X 508 (lx_lv KC KR b i) [] (lx_H KC KR σ τ ρ θ) := by
  obtain ⟨r, σ2, ρ2, θ2, hI2, hA, hB⟩ := M_undo hI 
  refine sx_aload_n (pc2 := 509) C.1 2 d_lw_508 rfl rfl rfl ?_
  refine lx_call (pc2 := 512) (As := []) C.1 C.1.2.2.2.2.2.2.2.2.2 C.2.1 C.2.2.2.1.1 C.2.2.2.1.2.2.2 (c_St_undo C.2.2.2.2.1.1  σ τ (fun r' σ' => r' = r ∧ σ' = σ2) (hA _ ⟨rfl, rfl⟩)) (C.2.2.2.2.1.1 0 0 0 (by decide) (by decide)) rfl rfl lz_80 lz_81 hy_St_undo lz_82 lk_260 lz_83 ⟨rfl, rfl⟩ ⟨Nat.le_of_ble_eq_true rfl, Nat.le_of_ble_eq_true rfl⟩ (Nat.le_of_ble_eq_true rfl) rfl d_lw_509 rfl (fun _ hh => hh) (fun r' σ' τ2 qq => ?_)
  rw [qq.1, qq.2]
  refine sx_aload_n (pc2 := 513) C.1 3 d_lw_512 rfl rfl rfl ?_
  refine lx_call (pc2 := 516) (As := []) C.1 C.2.1 C.1.2.2.2.2.2.2.2.2.2 C.2.2.2.1.2.1 C.2.2.2.1.2.2.1 (c_Mo_undo C.2.2.2.2.1.2  ρ θ (fun r' ρ' θ' => r' = r ∧ ρ' = ρ2 ∧ θ' = θ2) (hB _ ⟨rfl, rfl, rfl⟩)) (kr_50 C.2.2.2.2.1.2) rfl rfl lz_84 lz_85 hy_Mo_undo lz_86 lk_364 lz_87 ⟨rfl, rfl⟩ ⟨Nat.le_of_ble_eq_true rfl, Nat.le_of_ble_eq_true rfl⟩ (Nat.le_of_ble_eq_true rfl) rfl d_lw_513 rfl (fun _ hh => ⟨hh.2, hh.1⟩) (fun r' ρ' θ' qq => ?_)
  rw [qq.1, qq.2.1, qq.2.2]
  exact sx_icmp_eq (pc2 := 519) C.1 (tgt := 1189) d_lw_516 (by decide) rfl (fun _ => lx_imp (fun _ hh => ⟨hh.2, hh.1⟩) (kk σ2 τ2 ρ2 θ2 hI2)) (fun qq => absurd rfl qq)
theorem lw_c11 (C : lx_C X KC KR b L xs l) (hi : i + 6 ≤ L) (hI : pn_I σ ρ θ) (kk : lx_next X KC KR b i) : lx_G X 521 (lx_lv KC KR b i) [] (lx_H KC KR σ τ ρ θ) := by
  obtain ⟨r, σ2, ρ2, θ2, hI2, hA, hB⟩ := M_post hI (xs (i + 1)) (xs (i + 2))
  refine sx_aload_n (pc2 := 522) C.1 2 d_lw_521 rfl rfl rfl ?_
  refine lx_arg (k := 1) (pc5 := 527) C hi (by decide) d_lw_522 d_lw_523 d_lw_524 d_lw_525 d_lw_526 rfl rfl rfl rfl ⟨rfl, rfl⟩ ?_
  refine lx_arg (k := 2) (pc5 := 532) C hi (by decide) d_lw_527 d_lw_528 d_lw_529 d_lw_530 d_lw_531 rfl rfl rfl rfl ⟨rfl, rfl⟩ ?_
  refine lx_call (pc2 := 535) (As := [.int (xs (i + 1)), .int (xs (i + 2))]) C.1 C.1.2.2.2.2.2.2.2.2.2 C.2.1 C.2.2.2.1.1 C.2.2.2.1.2.2.2 (c_St_post C.2.2.2.2.1.1 (xs (i + 1)) (xs (i + 2)) σ τ (fun r' σ' => r' = r ∧ σ' = σ2) (hA _ ⟨rfl, rfl⟩)) (C.2.2.2.2.1.1 0 0 0 (by decide) (by decide)) rfl rfl lz_88 lz_89 hy_St_post lz_90 lk_260 lz_91 ⟨rfl, rfl⟩ ⟨Nat.le_of_ble_eq_true rfl, Nat.le_of_ble_eq_true rfl⟩ (Nat.le_of_ble_eq_true rfl) rfl d_lw_532 rfl (fun _ hh => hh) (fun r' σ' τ2 qq => ?_)
  rw [qq.1, qq.2]
  refine sx_aload_n (pc2 := 536) C.1 3 d_lw_535 rfl rfl rfl ?_
  refine lx_arg (k := 1) (pc5 := 541) C hi (by decide) d_lw_536 d_lw_537 d_lw_538 d_lw_539 d_lw_540 rfl rfl rfl rfl ⟨rfl, rfl⟩ ?_
  refine lx_arg (k := 2) (pc5 := 546) C hi (by decide) d_lw_541 d_lw_542 d_lw_543 d_lw_544 d_lw_545 rfl rfl rfl rfl ⟨rfl, rfl⟩ ?_
  refine lx_call (pc2 := 549) (As := [.int (xs (i + 1)), .int (xs (i + 2))]) C.1 C.2.1 C.1.2.2.2.2.2.2.2.2.2 C.2.2.2.1.2.1 C.2.2.2.1.2.2.1 (c_Mo_post C.2.2.2.2.1.2 (xs (i + 1)) (xs (i + 2)) ρ θ (fun r' ρ' θ' => r' = r ∧ ρ' = ρ2 ∧ θ' = θ2) (hB _ ⟨rfl, rfl, rfl⟩)) (kr_50 C.2.2.2.2.1.2) rfl rfl lz_92 lz_93 hy_Mo_post lz_94 lk_364 lz_95 ⟨rfl, rfl⟩ ⟨Nat.le_of_ble_eq_true rfl, Nat.le_of_ble_eq_true rfl⟩ (Nat.le_of_ble_eq_true rfl) rfl d_lw_546 rfl (fun _ hh => ⟨hh.2, hh.1⟩) (fun r' ρ' θ' qq => ?_)
  rw [qq.1, qq.2.1, qq.2.2]
  exact sx_icmp_eq (pc2 := 552) C.1 (tgt := 1189) d_lw_549 (by decide) rfl (fun _ => lx_imp (fun _ hh => ⟨hh.2, hh.1⟩) (kk σ2 τ2 ρ2 θ2 hI2)) (fun qq => absurd rfl qq)
theorem lw_c12 (C : lx_C X KC KR b L xs l) (hi : i + 6 ≤ L) (hI : pn_I σ ρ θ) (kk : lx_next X KC KR b i) : lx_G X 554 (lx_lv KC KR b i) [] (lx_H KC KR σ τ ρ θ) := by
  obtain ⟨r, σ2, ρ2, θ2, hI2, hA, hB⟩ := M_heard hI (xs (i + 1)) (xs (i + 2))
  refine sx_aload_n (pc2 := 555) C.1 2 d_lw_554 rfl rfl rfl ?_
  refine lx_arg (k := 1) (pc5 := 560) C hi (by decide) d_lw_555 d_lw_556 d_lw_557 d_lw_558 d_lw_559 rfl rfl rfl rfl ⟨rfl, rfl⟩ ?_
  refine lx_arg (k := 2) (pc5 := 565) C hi (by decide) d_lw_560 d_lw_561 d_lw_562 d_lw_563 d_lw_564 rfl rfl rfl rfl ⟨rfl, rfl⟩ ?_
  refine lx_call (pc2 := 568) (As := [.int (xs (i + 1)), .int (xs (i + 2))]) C.1 C.1.2.2.2.2.2.2.2.2.2 C.2.1 C.2.2.2.1.1 C.2.2.2.1.2.2.2 (c_St_heard C.2.2.2.2.1.1 (xs (i + 1)) (xs (i + 2)) σ τ (fun r' σ' => r' = r ∧ σ' = σ2) (hA _ ⟨rfl, rfl⟩)) (C.2.2.2.2.1.1 0 0 0 (by decide) (by decide)) rfl rfl lz_96 lz_97 hy_St_heard lz_98 lk_260 lz_99 ⟨rfl, rfl⟩ ⟨Nat.le_of_ble_eq_true rfl, Nat.le_of_ble_eq_true rfl⟩ (Nat.le_of_ble_eq_true rfl) rfl d_lw_565 rfl (fun _ hh => hh) (fun r' σ' τ2 qq => ?_)
  rw [qq.1, qq.2]
  refine sx_aload_n (pc2 := 569) C.1 3 d_lw_568 rfl rfl rfl ?_
  refine lx_arg (k := 1) (pc5 := 574) C hi (by decide) d_lw_569 d_lw_570 d_lw_571 d_lw_572 d_lw_573 rfl rfl rfl rfl ⟨rfl, rfl⟩ ?_
  refine lx_arg (k := 2) (pc5 := 579) C hi (by decide) d_lw_574 d_lw_575 d_lw_576 d_lw_577 d_lw_578 rfl rfl rfl rfl ⟨rfl, rfl⟩ ?_
  refine lx_call (pc2 := 582) (As := [.int (xs (i + 1)), .int (xs (i + 2))]) C.1 C.2.1 C.1.2.2.2.2.2.2.2.2.2 C.2.2.2.1.2.1 C.2.2.2.1.2.2.1 (c_Mo_heard C.2.2.2.2.1.2 (xs (i + 1)) (xs (i + 2)) ρ θ (fun r' ρ' θ' => r' = r ∧ ρ' = ρ2 ∧ θ' = θ2) (hB _ ⟨rfl, rfl, rfl⟩)) (kr_50 C.2.2.2.2.1.2) rfl rfl lz_100 lz_101 hy_Mo_heard lz_102 lk_364 lz_103 ⟨rfl, rfl⟩ ⟨Nat.le_of_ble_eq_true rfl, Nat.le_of_ble_eq_true rfl⟩ (Nat.le_of_ble_eq_true rfl) rfl d_lw_579 rfl (fun _ hh => ⟨hh.2, hh.1⟩) (fun r' ρ' θ' qq => ?_)
  rw [qq.1, qq.2.1, qq.2.2]
  exact sx_icmp_eq (pc2 := 585) C.1 (tgt := 1189) d_lw_582 (by decide) rfl (fun _ => lx_imp (fun _ hh => ⟨hh.2, hh.1⟩) (kk σ2 τ2 ρ2 θ2 hI2)) (fun qq => absurd rfl qq)
theorem lw_c13 (C : lx_C X KC KR b L xs l) (hi : i + 6 ≤ L) (hI : pn_I σ ρ θ) (kk : lx_next X KC KR b i) : lx_G X 587 (lx_lv KC KR b i) [] (lx_H KC KR σ τ ρ θ) := by
  obtain ⟨r, σ2, ρ2, θ2, hI2, hA, hB⟩ := M_route hI (xs (i + 1)) (xs (i + 2)) (xs (i + 3))
  refine sx_aload_n (pc2 := 588) C.1 2 d_lw_587 rfl rfl rfl ?_
  refine lx_arg (k := 1) (pc5 := 593) C hi (by decide) d_lw_588 d_lw_589 d_lw_590 d_lw_591 d_lw_592 rfl rfl rfl rfl ⟨rfl, rfl⟩ ?_
  refine lx_arg (k := 2) (pc5 := 598) C hi (by decide) d_lw_593 d_lw_594 d_lw_595 d_lw_596 d_lw_597 rfl rfl rfl rfl ⟨rfl, rfl⟩ ?_
  refine lx_arg (k := 3) (pc5 := 603) C hi (by decide) d_lw_598 d_lw_599 d_lw_600 d_lw_601 d_lw_602 rfl rfl rfl rfl ⟨rfl, rfl⟩ ?_
  refine lx_call (pc2 := 606) (As := [.int (xs (i + 1)), .int (xs (i + 2)), .int (xs (i + 3))]) C.1 C.1.2.2.2.2.2.2.2.2.2 C.2.1 C.2.2.2.1.1 C.2.2.2.1.2.2.2 (c_St_route C.2.2.2.2.1.1 (xs (i + 1)) (xs (i + 2)) (xs (i + 3)) σ τ (fun r' σ' => r' = r ∧ σ' = σ2) (hA _ ⟨rfl, rfl⟩)) (C.2.2.2.2.1.1 0 0 0 (by decide) (by decide)) rfl rfl lz_104 lz_105 hy_St_route lz_106 lk_260 lz_107 ⟨rfl, rfl⟩ ⟨Nat.le_of_ble_eq_true rfl, Nat.le_of_ble_eq_true rfl⟩ (Nat.le_of_ble_eq_true rfl) rfl d_lw_603 rfl (fun _ hh => hh) (fun r' σ' τ2 qq => ?_)
  rw [qq.1, qq.2]
  refine sx_aload_n (pc2 := 607) C.1 3 d_lw_606 rfl rfl rfl ?_
  refine lx_arg (k := 1) (pc5 := 612) C hi (by decide) d_lw_607 d_lw_608 d_lw_609 d_lw_610 d_lw_611 rfl rfl rfl rfl ⟨rfl, rfl⟩ ?_
  refine lx_arg (k := 2) (pc5 := 617) C hi (by decide) d_lw_612 d_lw_613 d_lw_614 d_lw_615 d_lw_616 rfl rfl rfl rfl ⟨rfl, rfl⟩ ?_
  refine lx_arg (k := 3) (pc5 := 622) C hi (by decide) d_lw_617 d_lw_618 d_lw_619 d_lw_620 d_lw_621 rfl rfl rfl rfl ⟨rfl, rfl⟩ ?_
  refine lx_call (pc2 := 625) (As := [.int (xs (i + 1)), .int (xs (i + 2)), .int (xs (i + 3))]) C.1 C.2.1 C.1.2.2.2.2.2.2.2.2.2 C.2.2.2.1.2.1 C.2.2.2.1.2.2.1 (c_Mo_route C.2.2.2.2.1.2 (xs (i + 1)) (xs (i + 2)) (xs (i + 3)) ρ θ (fun r' ρ' θ' => r' = r ∧ ρ' = ρ2 ∧ θ' = θ2) (hB _ ⟨rfl, rfl, rfl⟩)) (kr_50 C.2.2.2.2.1.2) rfl rfl lz_108 lz_109 hy_Mo_route lz_110 lk_364 lz_111 ⟨rfl, rfl⟩ ⟨Nat.le_of_ble_eq_true rfl, Nat.le_of_ble_eq_true rfl⟩ (Nat.le_of_ble_eq_true rfl) rfl d_lw_622 rfl (fun _ hh => ⟨hh.2, hh.1⟩) (fun r' ρ' θ' qq => ?_)
  rw [qq.1, qq.2.1, qq.2.2]
  exact sx_icmp_eq (pc2 := 628) C.1 (tgt := 1189) d_lw_625 (by decide) rfl (fun _ => lx_imp (fun _ hh => ⟨hh.2, hh.1⟩) (kk σ2 τ2 ρ2 θ2 hI2)) (fun qq => absurd rfl qq)
theorem lw_c14 (C : lx_C X KC KR b L xs l) (hi : i + 6 ≤ L) (hI : pn_I σ ρ θ) (kk : lx_next X KC KR b i) : lx_G X 630 (lx_lv KC KR b i) [] (lx_H KC KR σ τ ρ θ) := by
  obtain ⟨r, σ2, ρ2, θ2, hI2, hA, hB⟩ := M_link hI (xs (i + 1)) (xs (i + 2))
  refine sx_aload_n (pc2 := 631) C.1 2 d_lw_630 rfl rfl rfl ?_
  refine lx_arg (k := 1) (pc5 := 636) C hi (by decide) d_lw_631 d_lw_632 d_lw_633 d_lw_634 d_lw_635 rfl rfl rfl rfl ⟨rfl, rfl⟩ ?_
  refine lx_arg (k := 2) (pc5 := 641) C hi (by decide) d_lw_636 d_lw_637 d_lw_638 d_lw_639 d_lw_640 rfl rfl rfl rfl ⟨rfl, rfl⟩ ?_
  refine lx_call (pc2 := 644) (As := [.int (xs (i + 1)), .int (xs (i + 2))]) C.1 C.1.2.2.2.2.2.2.2.2.2 C.2.1 C.2.2.2.1.1 C.2.2.2.1.2.2.2 (c_St_link C.2.2.2.2.1.1 (xs (i + 1)) (xs (i + 2)) σ τ (fun r' σ' => r' = r ∧ σ' = σ2) (hA _ ⟨rfl, rfl⟩)) (C.2.2.2.2.1.1 0 0 0 (by decide) (by decide)) rfl rfl lz_112 lz_113 hy_St_link lz_114 lk_260 lz_115 ⟨rfl, rfl⟩ ⟨Nat.le_of_ble_eq_true rfl, Nat.le_of_ble_eq_true rfl⟩ (Nat.le_of_ble_eq_true rfl) rfl d_lw_641 rfl (fun _ hh => hh) (fun r' σ' τ2 qq => ?_)
  rw [qq.1, qq.2]
  refine sx_aload_n (pc2 := 645) C.1 3 d_lw_644 rfl rfl rfl ?_
  refine lx_arg (k := 1) (pc5 := 650) C hi (by decide) d_lw_645 d_lw_646 d_lw_647 d_lw_648 d_lw_649 rfl rfl rfl rfl ⟨rfl, rfl⟩ ?_
  refine lx_arg (k := 2) (pc5 := 655) C hi (by decide) d_lw_650 d_lw_651 d_lw_652 d_lw_653 d_lw_654 rfl rfl rfl rfl ⟨rfl, rfl⟩ ?_
  refine lx_call (pc2 := 658) (As := [.int (xs (i + 1)), .int (xs (i + 2))]) C.1 C.2.1 C.1.2.2.2.2.2.2.2.2.2 C.2.2.2.1.2.1 C.2.2.2.1.2.2.1 (c_Mo_link C.2.2.2.2.1.2 (xs (i + 1)) (xs (i + 2)) ρ θ (fun r' ρ' θ' => r' = r ∧ ρ' = ρ2 ∧ θ' = θ2) (hB _ ⟨rfl, rfl, rfl⟩)) (kr_50 C.2.2.2.2.1.2) rfl rfl lz_116 lz_117 hy_Mo_link lz_118 lk_364 lz_119 ⟨rfl, rfl⟩ ⟨Nat.le_of_ble_eq_true rfl, Nat.le_of_ble_eq_true rfl⟩ (Nat.le_of_ble_eq_true rfl) rfl d_lw_655 rfl (fun _ hh => ⟨hh.2, hh.1⟩) (fun r' ρ' θ' qq => ?_)
  rw [qq.1, qq.2.1, qq.2.2]
  exact sx_icmp_eq (pc2 := 661) C.1 (tgt := 1189) d_lw_658 (by decide) rfl (fun _ => lx_imp (fun _ hh => ⟨hh.2, hh.1⟩) (kk σ2 τ2 ρ2 θ2 hI2)) (fun qq => absurd rfl qq)
theorem lw_c15 (C : lx_C X KC KR b L xs l) (hi : i + 6 ≤ L) (hI : pn_I σ ρ θ) (kk : lx_next X KC KR b i) : lx_G X 663 (lx_lv KC KR b i) [] (lx_H KC KR σ τ ρ θ) := by
  obtain ⟨r, σ2, ρ2, θ2, hI2, hA, hB⟩ := M_neighbours hI (xs (i + 1))
  refine sx_aload_n (pc2 := 664) C.1 2 d_lw_663 rfl rfl rfl ?_
  refine lx_arg (k := 1) (pc5 := 669) C hi (by decide) d_lw_664 d_lw_665 d_lw_666 d_lw_667 d_lw_668 rfl rfl rfl rfl ⟨rfl, rfl⟩ ?_
  refine lx_call (pc2 := 672) (As := [.int (xs (i + 1))]) C.1 C.1.2.2.2.2.2.2.2.2.2 C.2.1 C.2.2.2.1.1 C.2.2.2.1.2.2.2 (c_St_neighbours C.2.2.2.2.1.1 (xs (i + 1)) σ τ (fun r' σ' => r' = r ∧ σ' = σ2) (hA _ ⟨rfl, rfl⟩)) (C.2.2.2.2.1.1 0 0 0 (by decide) (by decide)) rfl rfl lz_120 lz_121 hy_St_neighbours lz_122 lk_260 lz_123 ⟨rfl, rfl⟩ ⟨Nat.le_of_ble_eq_true rfl, Nat.le_of_ble_eq_true rfl⟩ (Nat.le_of_ble_eq_true rfl) rfl d_lw_669 rfl (fun _ hh => hh) (fun r' σ' τ2 qq => ?_)
  rw [qq.1, qq.2]
  refine sx_aload_n (pc2 := 673) C.1 3 d_lw_672 rfl rfl rfl ?_
  refine lx_arg (k := 1) (pc5 := 678) C hi (by decide) d_lw_673 d_lw_674 d_lw_675 d_lw_676 d_lw_677 rfl rfl rfl rfl ⟨rfl, rfl⟩ ?_
  refine lx_call (pc2 := 681) (As := [.int (xs (i + 1))]) C.1 C.2.1 C.1.2.2.2.2.2.2.2.2.2 C.2.2.2.1.2.1 C.2.2.2.1.2.2.1 (c_Mo_neighbours C.2.2.2.2.1.2 (xs (i + 1)) ρ θ (fun r' ρ' θ' => r' = r ∧ ρ' = ρ2 ∧ θ' = θ2) (hB _ ⟨rfl, rfl, rfl⟩)) (kr_50 C.2.2.2.2.1.2) rfl rfl lz_124 lz_125 hy_Mo_neighbours lz_126 lk_364 lz_127 ⟨rfl, rfl⟩ ⟨Nat.le_of_ble_eq_true rfl, Nat.le_of_ble_eq_true rfl⟩ (Nat.le_of_ble_eq_true rfl) rfl d_lw_678 rfl (fun _ hh => ⟨hh.2, hh.1⟩) (fun r' ρ' θ' qq => ?_)
  rw [qq.1, qq.2.1, qq.2.2]
  exact sx_icmp_eq (pc2 := 684) C.1 (tgt := 1189) d_lw_681 (by decide) rfl (fun _ => lx_imp (fun _ hh => ⟨hh.2, hh.1⟩) (kk σ2 τ2 ρ2 θ2 hI2)) (fun qq => absurd rfl qq)
theorem lw_c16 (C : lx_C X KC KR b L xs l) (hi : i + 6 ≤ L) (hI : pn_I σ ρ θ) (kk : lx_next X KC KR b i) : lx_G X 686 (lx_lv KC KR b i) [] (lx_H KC KR σ τ ρ θ) := by
  obtain ⟨r, σ2, ρ2, θ2, hI2, hA, hB⟩ := M_truth hI (xs (i + 1))
  refine sx_aload_n (pc2 := 687) C.1 2 d_lw_686 rfl rfl rfl ?_
  refine lx_arg (k := 1) (pc5 := 692) C hi (by decide) d_lw_687 d_lw_688 d_lw_689 d_lw_690 d_lw_691 rfl rfl rfl rfl ⟨rfl, rfl⟩ ?_
  refine lx_call (pc2 := 695) (As := [.int (xs (i + 1))]) C.1 C.1.2.2.2.2.2.2.2.2.2 C.2.1 C.2.2.2.1.1 C.2.2.2.1.2.2.2 (c_St_truth C.2.2.2.2.1.1 (xs (i + 1)) σ τ (fun r' σ' => r' = r ∧ σ' = σ2) (hA _ ⟨rfl, rfl⟩)) (C.2.2.2.2.1.1 0 0 0 (by decide) (by decide)) rfl rfl lz_128 lz_129 hy_St_truth lz_130 lk_260 lz_131 ⟨rfl, rfl⟩ ⟨Nat.le_of_ble_eq_true rfl, Nat.le_of_ble_eq_true rfl⟩ (Nat.le_of_ble_eq_true rfl) rfl d_lw_692 rfl (fun _ hh => hh) (fun r' σ' τ2 qq => ?_)
  rw [qq.1, qq.2]
  refine sx_aload_n (pc2 := 696) C.1 3 d_lw_695 rfl rfl rfl ?_
  refine lx_arg (k := 1) (pc5 := 701) C hi (by decide) d_lw_696 d_lw_697 d_lw_698 d_lw_699 d_lw_700 rfl rfl rfl rfl ⟨rfl, rfl⟩ ?_
  refine lx_call (pc2 := 704) (As := [.int (xs (i + 1))]) C.1 C.2.1 C.1.2.2.2.2.2.2.2.2.2 C.2.2.2.1.2.1 C.2.2.2.1.2.2.1 (c_Mo_truth C.2.2.2.2.1.2 (xs (i + 1)) ρ θ (fun r' ρ' θ' => r' = r ∧ ρ' = ρ2 ∧ θ' = θ2) (hB _ ⟨rfl, rfl, rfl⟩)) (kr_50 C.2.2.2.2.1.2) rfl rfl lz_132 lz_133 hy_Mo_truth lz_134 lk_364 lz_135 ⟨rfl, rfl⟩ ⟨Nat.le_of_ble_eq_true rfl, Nat.le_of_ble_eq_true rfl⟩ (Nat.le_of_ble_eq_true rfl) rfl d_lw_701 rfl (fun _ hh => ⟨hh.2, hh.1⟩) (fun r' ρ' θ' qq => ?_)
  rw [qq.1, qq.2.1, qq.2.2]
  exact sx_icmp_eq (pc2 := 707) C.1 (tgt := 1189) d_lw_704 (by decide) rfl (fun _ => lx_imp (fun _ hh => ⟨hh.2, hh.1⟩) (kk σ2 τ2 ρ2 θ2 hI2)) (fun qq => absurd rfl qq)
theorem lw_c17 (C : lx_C X KC KR b L xs l) (hi : i + 6 ≤ L) (hI : pn_I σ ρ θ) (kk : lx_next X KC KR b i) : lx_G X 709 (lx_lv KC KR b i) [] (lx_H KC KR σ τ ρ θ) := by
  obtain ⟨r, σ2, ρ2, θ2, hI2, hA, hB⟩ := M_right hI 
  refine sx_aload_n (pc2 := 710) C.1 2 d_lw_709 rfl rfl rfl ?_
  refine lx_call (pc2 := 713) (As := []) C.1 C.1.2.2.2.2.2.2.2.2.2 C.2.1 C.2.2.2.1.1 C.2.2.2.1.2.2.2 (c_St_right C.2.2.2.2.1.1  σ τ (fun r' σ' => r' = r ∧ σ' = σ2) (hA _ ⟨rfl, rfl⟩)) (C.2.2.2.2.1.1 0 0 0 (by decide) (by decide)) rfl rfl lz_136 lz_137 hy_St_right lz_138 lk_260 lz_139 ⟨rfl, rfl⟩ ⟨Nat.le_of_ble_eq_true rfl, Nat.le_of_ble_eq_true rfl⟩ (Nat.le_of_ble_eq_true rfl) rfl d_lw_710 rfl (fun _ hh => hh) (fun r' σ' τ2 qq => ?_)
  rw [qq.1, qq.2]
  refine sx_aload_n (pc2 := 714) C.1 3 d_lw_713 rfl rfl rfl ?_
  refine lx_call (pc2 := 717) (As := []) C.1 C.2.1 C.1.2.2.2.2.2.2.2.2.2 C.2.2.2.1.2.1 C.2.2.2.1.2.2.1 (c_Mo_right C.2.2.2.2.1.2  ρ θ (fun r' ρ' θ' => r' = r ∧ ρ' = ρ2 ∧ θ' = θ2) (hB _ ⟨rfl, rfl, rfl⟩)) (kr_50 C.2.2.2.2.1.2) rfl rfl lz_140 lz_141 hy_Mo_right lz_142 lk_364 lz_143 ⟨rfl, rfl⟩ ⟨Nat.le_of_ble_eq_true rfl, Nat.le_of_ble_eq_true rfl⟩ (Nat.le_of_ble_eq_true rfl) rfl d_lw_714 rfl (fun _ hh => ⟨hh.2, hh.1⟩) (fun r' ρ' θ' qq => ?_)
  rw [qq.1, qq.2.1, qq.2.2]
  exact sx_icmp_eq (pc2 := 720) C.1 (tgt := 1189) d_lw_717 (by decide) rfl (fun _ => lx_imp (fun _ hh => ⟨hh.2, hh.1⟩) (kk σ2 τ2 ρ2 θ2 hI2)) (fun qq => absurd rfl qq)
theorem lw_c18 (C : lx_C X KC KR b L xs l) (hi : i + 6 ≤ L) (hI : pn_I σ ρ θ) (kk : lx_next X KC KR b i) : lx_G X 722 (lx_lv KC KR b i) [] (lx_H KC KR σ τ ρ θ) := by
  obtain ⟨r, σ2, ρ2, θ2, hI2, hA, hB⟩ := M_circle hI 
  refine sx_aload_n (pc2 := 723) C.1 2 d_lw_722 rfl rfl rfl ?_
  refine lx_call (pc2 := 726) (As := []) C.1 C.1.2.2.2.2.2.2.2.2.2 C.2.1 C.2.2.2.1.1 C.2.2.2.1.2.2.2 (c_St_circle C.2.2.2.2.1.1  σ τ (fun r' σ' => r' = r ∧ σ' = σ2) (hA _ ⟨rfl, rfl⟩)) (C.2.2.2.2.1.1 0 0 0 (by decide) (by decide)) rfl rfl lz_144 lz_145 hy_St_circle lz_146 lk_260 lz_147 ⟨rfl, rfl⟩ ⟨Nat.le_of_ble_eq_true rfl, Nat.le_of_ble_eq_true rfl⟩ (Nat.le_of_ble_eq_true rfl) rfl d_lw_723 rfl (fun _ hh => hh) (fun r' σ' τ2 qq => ?_)
  rw [qq.1, qq.2]
  refine sx_aload_n (pc2 := 727) C.1 3 d_lw_726 rfl rfl rfl ?_
  refine lx_call (pc2 := 730) (As := []) C.1 C.2.1 C.1.2.2.2.2.2.2.2.2.2 C.2.2.2.1.2.1 C.2.2.2.1.2.2.1 (c_Mo_circle C.2.2.2.2.1.2  ρ θ (fun r' ρ' θ' => r' = r ∧ ρ' = ρ2 ∧ θ' = θ2) (hB _ ⟨rfl, rfl, rfl⟩)) (kr_50 C.2.2.2.2.1.2) rfl rfl lz_148 lz_149 hy_Mo_circle lz_150 lk_364 lz_151 ⟨rfl, rfl⟩ ⟨Nat.le_of_ble_eq_true rfl, Nat.le_of_ble_eq_true rfl⟩ (Nat.le_of_ble_eq_true rfl) rfl d_lw_727 rfl (fun _ hh => ⟨hh.2, hh.1⟩) (fun r' ρ' θ' qq => ?_)
  rw [qq.1, qq.2.1, qq.2.2]
  exact sx_icmp_eq (pc2 := 733) C.1 (tgt := 1189) d_lw_730 (by decide) rfl (fun _ => lx_imp (fun _ hh => ⟨hh.2, hh.1⟩) (kk σ2 τ2 ρ2 θ2 hI2)) (fun qq => absurd rfl qq)
theorem lw_c19 (C : lx_C X KC KR b L xs l) (hi : i + 6 ≤ L) (hI : pn_I σ ρ θ) (kk : lx_next X KC KR b i) : lx_G X 735 (lx_lv KC KR b i) [] (lx_H KC KR σ τ ρ θ) := by
  obtain ⟨r, σ2, ρ2, θ2, hI2, hA, hB⟩ := M_below hI (xs (i + 1))
  refine sx_aload_n (pc2 := 736) C.1 2 d_lw_735 rfl rfl rfl ?_
  refine lx_arg (k := 1) (pc5 := 741) C hi (by decide) d_lw_736 d_lw_737 d_lw_738 d_lw_739 d_lw_740 rfl rfl rfl rfl ⟨rfl, rfl⟩ ?_
  refine lx_call (pc2 := 744) (As := [.int (xs (i + 1))]) C.1 C.1.2.2.2.2.2.2.2.2.2 C.2.1 C.2.2.2.1.1 C.2.2.2.1.2.2.2 (c_St_below C.2.2.2.2.1.1 (xs (i + 1)) σ τ (fun r' σ' => r' = r ∧ σ' = σ2) (hA _ ⟨rfl, rfl⟩)) (C.2.2.2.2.1.1 0 0 0 (by decide) (by decide)) rfl rfl lz_152 lz_153 hy_St_below lz_154 lk_260 lz_155 ⟨rfl, rfl⟩ ⟨Nat.le_of_ble_eq_true rfl, Nat.le_of_ble_eq_true rfl⟩ (Nat.le_of_ble_eq_true rfl) rfl d_lw_741 rfl (fun _ hh => hh) (fun r' σ' τ2 qq => ?_)
  rw [qq.1, qq.2]
  refine sx_aload_n (pc2 := 745) C.1 3 d_lw_744 rfl rfl rfl ?_
  refine lx_arg (k := 1) (pc5 := 750) C hi (by decide) d_lw_745 d_lw_746 d_lw_747 d_lw_748 d_lw_749 rfl rfl rfl rfl ⟨rfl, rfl⟩ ?_
  refine lx_call (pc2 := 753) (As := [.int (xs (i + 1))]) C.1 C.2.1 C.1.2.2.2.2.2.2.2.2.2 C.2.2.2.1.2.1 C.2.2.2.1.2.2.1 (c_Mo_below C.2.2.2.2.1.2 (xs (i + 1)) ρ θ (fun r' ρ' θ' => r' = r ∧ ρ' = ρ2 ∧ θ' = θ2) (hB _ ⟨rfl, rfl, rfl⟩)) (kr_50 C.2.2.2.2.1.2) rfl rfl lz_156 lz_157 hy_Mo_below lz_158 lk_364 lz_159 ⟨rfl, rfl⟩ ⟨Nat.le_of_ble_eq_true rfl, Nat.le_of_ble_eq_true rfl⟩ (Nat.le_of_ble_eq_true rfl) rfl d_lw_750 rfl (fun _ hh => ⟨hh.2, hh.1⟩) (fun r' ρ' θ' qq => ?_)
  rw [qq.1, qq.2.1, qq.2.2]
  exact sx_icmp_eq (pc2 := 756) C.1 (tgt := 1189) d_lw_753 (by decide) rfl (fun _ => lx_imp (fun _ hh => ⟨hh.2, hh.1⟩) (kk σ2 τ2 ρ2 θ2 hI2)) (fun qq => absurd rfl qq)
theorem lw_c20 (C : lx_C X KC KR b L xs l) (hi : i + 6 ≤ L) (hI : pn_I σ ρ θ) (kk : lx_next X KC KR b i) : lx_G X 758 (lx_lv KC KR b i) [] (lx_H KC KR σ τ ρ θ) := by
  obtain ⟨r, σ2, ρ2, θ2, hI2, hA, hB⟩ := M_way hI (xs (i + 1)) (xs (i + 2))
  refine sx_aload_n (pc2 := 759) C.1 2 d_lw_758 rfl rfl rfl ?_
  refine lx_arg (k := 1) (pc5 := 764) C hi (by decide) d_lw_759 d_lw_760 d_lw_761 d_lw_762 d_lw_763 rfl rfl rfl rfl ⟨rfl, rfl⟩ ?_
  refine lx_arg (k := 2) (pc5 := 769) C hi (by decide) d_lw_764 d_lw_765 d_lw_766 d_lw_767 d_lw_768 rfl rfl rfl rfl ⟨rfl, rfl⟩ ?_
  refine lx_call (pc2 := 772) (As := [.int (xs (i + 1)), .int (xs (i + 2))]) C.1 C.1.2.2.2.2.2.2.2.2.2 C.2.1 C.2.2.2.1.1 C.2.2.2.1.2.2.2 (c_St_way C.2.2.2.2.1.1 (xs (i + 1)) (xs (i + 2)) σ τ (fun r' σ' => r' = r ∧ σ' = σ2) (hA _ ⟨rfl, rfl⟩)) (C.2.2.2.2.1.1 0 0 0 (by decide) (by decide)) rfl rfl lz_160 lz_161 hy_St_way lz_162 lk_260 lz_163 ⟨rfl, rfl⟩ ⟨Nat.le_of_ble_eq_true rfl, Nat.le_of_ble_eq_true rfl⟩ (Nat.le_of_ble_eq_true rfl) rfl d_lw_769 rfl (fun _ hh => hh) (fun r' σ' τ2 qq => ?_)
  rw [qq.1, qq.2]
  refine sx_aload_n (pc2 := 773) C.1 3 d_lw_772 rfl rfl rfl ?_
  refine lx_arg (k := 1) (pc5 := 778) C hi (by decide) d_lw_773 d_lw_774 d_lw_775 d_lw_776 d_lw_777 rfl rfl rfl rfl ⟨rfl, rfl⟩ ?_
  refine lx_arg (k := 2) (pc5 := 783) C hi (by decide) d_lw_778 d_lw_779 d_lw_780 d_lw_781 d_lw_782 rfl rfl rfl rfl ⟨rfl, rfl⟩ ?_
  refine lx_call (pc2 := 786) (As := [.int (xs (i + 1)), .int (xs (i + 2))]) C.1 C.2.1 C.1.2.2.2.2.2.2.2.2.2 C.2.2.2.1.2.1 C.2.2.2.1.2.2.1 (c_Mo_way C.2.2.2.2.1.2 (xs (i + 1)) (xs (i + 2)) ρ θ (fun r' ρ' θ' => r' = r ∧ ρ' = ρ2 ∧ θ' = θ2) (hB _ ⟨rfl, rfl, rfl⟩)) (kr_50 C.2.2.2.2.1.2) rfl rfl lz_164 lz_165 hy_Mo_way lz_166 lk_364 lz_167 ⟨rfl, rfl⟩ ⟨Nat.le_of_ble_eq_true rfl, Nat.le_of_ble_eq_true rfl⟩ (Nat.le_of_ble_eq_true rfl) rfl d_lw_783 rfl (fun _ hh => ⟨hh.2, hh.1⟩) (fun r' ρ' θ' qq => ?_)
  rw [qq.1, qq.2.1, qq.2.2]
  exact sx_icmp_eq (pc2 := 789) C.1 (tgt := 1189) d_lw_786 (by decide) rfl (fun _ => lx_imp (fun _ hh => ⟨hh.2, hh.1⟩) (kk σ2 τ2 ρ2 θ2 hI2)) (fun qq => absurd rfl qq)
theorem lw_c21 (C : lx_C X KC KR b L xs l) (hi : i + 6 ≤ L) (hI : pn_I σ ρ θ) (kk : lx_next X KC KR b i) : lx_G X 791 (lx_lv KC KR b i) [] (lx_H KC KR σ τ ρ θ) := by
  obtain ⟨r, σ2, ρ2, θ2, hI2, hA, hB⟩ := M_would hI (xs (i + 1)) (xs (i + 2)) (xs (i + 3))
  refine sx_aload_n (pc2 := 792) C.1 2 d_lw_791 rfl rfl rfl ?_
  refine lx_arg (k := 1) (pc5 := 797) C hi (by decide) d_lw_792 d_lw_793 d_lw_794 d_lw_795 d_lw_796 rfl rfl rfl rfl ⟨rfl, rfl⟩ ?_
  refine lx_arg (k := 2) (pc5 := 802) C hi (by decide) d_lw_797 d_lw_798 d_lw_799 d_lw_800 d_lw_801 rfl rfl rfl rfl ⟨rfl, rfl⟩ ?_
  refine lx_arg (k := 3) (pc5 := 807) C hi (by decide) d_lw_802 d_lw_803 d_lw_804 d_lw_805 d_lw_806 rfl rfl rfl rfl ⟨rfl, rfl⟩ ?_
  refine lx_call (pc2 := 810) (As := [.int (xs (i + 1)), .int (xs (i + 2)), .int (xs (i + 3))]) C.1 C.1.2.2.2.2.2.2.2.2.2 C.2.1 C.2.2.2.1.1 C.2.2.2.1.2.2.2 (c_St_would C.2.2.2.2.1.1 (xs (i + 1)) (xs (i + 2)) (xs (i + 3)) σ τ (fun r' σ' => r' = r ∧ σ' = σ2) (hA _ ⟨rfl, rfl⟩)) (C.2.2.2.2.1.1 0 0 0 (by decide) (by decide)) rfl rfl lz_168 lz_169 hy_St_would lz_170 lk_260 lz_171 ⟨rfl, rfl⟩ ⟨Nat.le_of_ble_eq_true rfl, Nat.le_of_ble_eq_true rfl⟩ (Nat.le_of_ble_eq_true rfl) rfl d_lw_807 rfl (fun _ hh => hh) (fun r' σ' τ2 qq => ?_)
  rw [qq.1, qq.2]
  refine sx_aload_n (pc2 := 811) C.1 3 d_lw_810 rfl rfl rfl ?_
  refine lx_arg (k := 1) (pc5 := 816) C hi (by decide) d_lw_811 d_lw_812 d_lw_813 d_lw_814 d_lw_815 rfl rfl rfl rfl ⟨rfl, rfl⟩ ?_
  refine lx_arg (k := 2) (pc5 := 821) C hi (by decide) d_lw_816 d_lw_817 d_lw_818 d_lw_819 d_lw_820 rfl rfl rfl rfl ⟨rfl, rfl⟩ ?_
  refine lx_arg (k := 3) (pc5 := 826) C hi (by decide) d_lw_821 d_lw_822 d_lw_823 d_lw_824 d_lw_825 rfl rfl rfl rfl ⟨rfl, rfl⟩ ?_
  refine lx_call (pc2 := 829) (As := [.int (xs (i + 1)), .int (xs (i + 2)), .int (xs (i + 3))]) C.1 C.2.1 C.1.2.2.2.2.2.2.2.2.2 C.2.2.2.1.2.1 C.2.2.2.1.2.2.1 (c_Mo_would C.2.2.2.2.1.2 (xs (i + 1)) (xs (i + 2)) (xs (i + 3)) ρ θ (fun r' ρ' θ' => r' = r ∧ ρ' = ρ2 ∧ θ' = θ2) (hB _ ⟨rfl, rfl, rfl⟩)) (kr_50 C.2.2.2.2.1.2) rfl rfl lz_172 lz_173 hy_Mo_would lz_174 lk_364 lz_175 ⟨rfl, rfl⟩ ⟨Nat.le_of_ble_eq_true rfl, Nat.le_of_ble_eq_true rfl⟩ (Nat.le_of_ble_eq_true rfl) rfl d_lw_826 rfl (fun _ hh => ⟨hh.2, hh.1⟩) (fun r' ρ' θ' qq => ?_)
  rw [qq.1, qq.2.1, qq.2.2]
  exact sx_icmp_eq (pc2 := 832) C.1 (tgt := 1189) d_lw_829 (by decide) rfl (fun _ => lx_imp (fun _ hh => ⟨hh.2, hh.1⟩) (kk σ2 τ2 ρ2 θ2 hI2)) (fun qq => absurd rfl qq)
theorem lw_c22 (C : lx_C X KC KR b L xs l) (hi : i + 6 ≤ L) (hI : pn_I σ ρ θ) (kk : lx_next X KC KR b i) : lx_G X 834 (lx_lv KC KR b i) [] (lx_H KC KR σ τ ρ θ) := by
  obtain ⟨r, σ2, ρ2, θ2, hI2, hA, hB⟩ := M_hop hI (xs (i + 1)) (xs (i + 2)) (xs (i + 3))
  refine sx_aload_n (pc2 := 835) C.1 2 d_lw_834 rfl rfl rfl ?_
  refine lx_arg (k := 1) (pc5 := 840) C hi (by decide) d_lw_835 d_lw_836 d_lw_837 d_lw_838 d_lw_839 rfl rfl rfl rfl ⟨rfl, rfl⟩ ?_
  refine lx_arg (k := 2) (pc5 := 845) C hi (by decide) d_lw_840 d_lw_841 d_lw_842 d_lw_843 d_lw_844 rfl rfl rfl rfl ⟨rfl, rfl⟩ ?_
  refine lx_arg (k := 3) (pc5 := 850) C hi (by decide) d_lw_845 d_lw_846 d_lw_847 d_lw_848 d_lw_849 rfl rfl rfl rfl ⟨rfl, rfl⟩ ?_
  refine lx_call (pc2 := 853) (As := [.int (xs (i + 1)), .int (xs (i + 2)), .int (xs (i + 3))]) C.1 C.1.2.2.2.2.2.2.2.2.2 C.2.1 C.2.2.2.1.1 C.2.2.2.1.2.2.2 (c_St_hop C.2.2.2.2.1.1 (xs (i + 1)) (xs (i + 2)) (xs (i + 3)) σ τ (fun r' σ' => r' = r ∧ σ' = σ2) (hA _ ⟨rfl, rfl⟩)) (C.2.2.2.2.1.1 0 0 0 (by decide) (by decide)) rfl rfl lz_176 lz_177 hy_St_hop lz_178 lk_260 lz_179 ⟨rfl, rfl⟩ ⟨Nat.le_of_ble_eq_true rfl, Nat.le_of_ble_eq_true rfl⟩ (Nat.le_of_ble_eq_true rfl) rfl d_lw_850 rfl (fun _ hh => hh) (fun r' σ' τ2 qq => ?_)
  rw [qq.1, qq.2]
  refine sx_aload_n (pc2 := 854) C.1 3 d_lw_853 rfl rfl rfl ?_
  refine lx_arg (k := 1) (pc5 := 859) C hi (by decide) d_lw_854 d_lw_855 d_lw_856 d_lw_857 d_lw_858 rfl rfl rfl rfl ⟨rfl, rfl⟩ ?_
  refine lx_arg (k := 2) (pc5 := 864) C hi (by decide) d_lw_859 d_lw_860 d_lw_861 d_lw_862 d_lw_863 rfl rfl rfl rfl ⟨rfl, rfl⟩ ?_
  refine lx_arg (k := 3) (pc5 := 869) C hi (by decide) d_lw_864 d_lw_865 d_lw_866 d_lw_867 d_lw_868 rfl rfl rfl rfl ⟨rfl, rfl⟩ ?_
  refine lx_call (pc2 := 872) (As := [.int (xs (i + 1)), .int (xs (i + 2)), .int (xs (i + 3))]) C.1 C.2.1 C.1.2.2.2.2.2.2.2.2.2 C.2.2.2.1.2.1 C.2.2.2.1.2.2.1 (c_Mo_hop C.2.2.2.2.1.2 (xs (i + 1)) (xs (i + 2)) (xs (i + 3)) ρ θ (fun r' ρ' θ' => r' = r ∧ ρ' = ρ2 ∧ θ' = θ2) (hB _ ⟨rfl, rfl, rfl⟩)) (kr_50 C.2.2.2.2.1.2) rfl rfl lz_180 lz_181 hy_Mo_hop lz_182 lk_364 lz_183 ⟨rfl, rfl⟩ ⟨Nat.le_of_ble_eq_true rfl, Nat.le_of_ble_eq_true rfl⟩ (Nat.le_of_ble_eq_true rfl) rfl d_lw_869 rfl (fun _ hh => ⟨hh.2, hh.1⟩) (fun r' ρ' θ' qq => ?_)
  rw [qq.1, qq.2.1, qq.2.2]
  exact sx_icmp_eq (pc2 := 875) C.1 (tgt := 1189) d_lw_872 (by decide) rfl (fun _ => lx_imp (fun _ hh => ⟨hh.2, hh.1⟩) (kk σ2 τ2 ρ2 θ2 hI2)) (fun qq => absurd rfl qq)
theorem lw_c23 (C : lx_C X KC KR b L xs l) (hi : i + 6 ≤ L) (hI : pn_I σ ρ θ) (kk : lx_next X KC KR b i) : lx_G X 877 (lx_lv KC KR b i) [] (lx_H KC KR σ τ ρ θ) := by
  obtain ⟨r, σ2, ρ2, θ2, hI2, hA, hB⟩ := M_soon hI 
  refine sx_aload_n (pc2 := 878) C.1 2 d_lw_877 rfl rfl rfl ?_
  refine lx_call (pc2 := 881) (As := []) C.1 C.1.2.2.2.2.2.2.2.2.2 C.2.1 C.2.2.2.1.1 C.2.2.2.1.2.2.2 (c_St_soon C.2.2.2.2.1.1  σ τ (fun r' σ' => r' = r ∧ σ' = σ2) (hA _ ⟨rfl, rfl⟩)) (C.2.2.2.2.1.1 0 0 0 (by decide) (by decide)) rfl rfl lz_184 lz_185 hy_St_soon lz_186 lk_260 lz_187 ⟨rfl, rfl⟩ ⟨Nat.le_of_ble_eq_true rfl, Nat.le_of_ble_eq_true rfl⟩ (Nat.le_of_ble_eq_true rfl) rfl d_lw_878 rfl (fun _ hh => hh) (fun r' σ' τ2 qq => ?_)
  rw [qq.1, qq.2]
  refine sx_aload_n (pc2 := 882) C.1 3 d_lw_881 rfl rfl rfl ?_
  refine lx_call (pc2 := 885) (As := []) C.1 C.2.1 C.1.2.2.2.2.2.2.2.2.2 C.2.2.2.1.2.1 C.2.2.2.1.2.2.1 (c_Mo_soon C.2.2.2.2.1.2  ρ θ (fun r' ρ' θ' => r' = r ∧ ρ' = ρ2 ∧ θ' = θ2) (hB _ ⟨rfl, rfl, rfl⟩)) (kr_50 C.2.2.2.2.1.2) rfl rfl lz_188 lz_189 hy_Mo_soon lz_190 lk_364 lz_191 ⟨rfl, rfl⟩ ⟨Nat.le_of_ble_eq_true rfl, Nat.le_of_ble_eq_true rfl⟩ (Nat.le_of_ble_eq_true rfl) rfl d_lw_882 rfl (fun _ hh => ⟨hh.2, hh.1⟩) (fun r' ρ' θ' qq => ?_)
  rw [qq.1, qq.2.1, qq.2.2]
  exact sx_icmp_eq (pc2 := 888) C.1 (tgt := 1189) d_lw_885 (by decide) rfl (fun _ => lx_imp (fun _ hh => ⟨hh.2, hh.1⟩) (kk σ2 τ2 ρ2 θ2 hI2)) (fun qq => absurd rfl qq)
theorem lw_c24 (C : lx_C X KC KR b L xs l) (hi : i + 6 ≤ L) (hI : pn_I σ ρ θ) (kk : lx_next X KC KR b i) : lx_G X 890 (lx_lv KC KR b i) [] (lx_H KC KR σ τ ρ θ) := by
  obtain ⟨r, σ2, ρ2, θ2, hI2, hA, hB⟩ := M_busy hI (xs (i + 1))
  refine sx_aload_n (pc2 := 891) C.1 2 d_lw_890 rfl rfl rfl ?_
  refine lx_arg (k := 1) (pc5 := 896) C hi (by decide) d_lw_891 d_lw_892 d_lw_893 d_lw_894 d_lw_895 rfl rfl rfl rfl ⟨rfl, rfl⟩ ?_
  refine lx_call (pc2 := 899) (As := [.int (xs (i + 1))]) C.1 C.1.2.2.2.2.2.2.2.2.2 C.2.1 C.2.2.2.1.1 C.2.2.2.1.2.2.2 (c_St_busy C.2.2.2.2.1.1 (xs (i + 1)) σ τ (fun r' σ' => r' = r ∧ σ' = σ2) (hA _ ⟨rfl, rfl⟩)) (C.2.2.2.2.1.1 0 0 0 (by decide) (by decide)) rfl rfl lz_192 lz_193 hy_St_busy lz_194 lk_260 lz_195 ⟨rfl, rfl⟩ ⟨Nat.le_of_ble_eq_true rfl, Nat.le_of_ble_eq_true rfl⟩ (Nat.le_of_ble_eq_true rfl) rfl d_lw_896 rfl (fun _ hh => hh) (fun r' σ' τ2 qq => ?_)
  rw [qq.1, qq.2]
  refine sx_aload_n (pc2 := 900) C.1 3 d_lw_899 rfl rfl rfl ?_
  refine lx_arg (k := 1) (pc5 := 905) C hi (by decide) d_lw_900 d_lw_901 d_lw_902 d_lw_903 d_lw_904 rfl rfl rfl rfl ⟨rfl, rfl⟩ ?_
  refine lx_call (pc2 := 908) (As := [.int (xs (i + 1))]) C.1 C.2.1 C.1.2.2.2.2.2.2.2.2.2 C.2.2.2.1.2.1 C.2.2.2.1.2.2.1 (c_Mo_busy C.2.2.2.2.1.2 (xs (i + 1)) ρ θ (fun r' ρ' θ' => r' = r ∧ ρ' = ρ2 ∧ θ' = θ2) (hB _ ⟨rfl, rfl, rfl⟩)) (kr_50 C.2.2.2.2.1.2) rfl rfl lz_196 lz_197 hy_Mo_busy lz_198 lk_364 lz_199 ⟨rfl, rfl⟩ ⟨Nat.le_of_ble_eq_true rfl, Nat.le_of_ble_eq_true rfl⟩ (Nat.le_of_ble_eq_true rfl) rfl d_lw_905 rfl (fun _ hh => ⟨hh.2, hh.1⟩) (fun r' ρ' θ' qq => ?_)
  rw [qq.1, qq.2.1, qq.2.2]
  exact sx_icmp_eq (pc2 := 911) C.1 (tgt := 1189) d_lw_908 (by decide) rfl (fun _ => lx_imp (fun _ hh => ⟨hh.2, hh.1⟩) (kk σ2 τ2 ρ2 θ2 hI2)) (fun qq => absurd rfl qq)
theorem lw_c25 (C : lx_C X KC KR b L xs l) (hi : i + 6 ≤ L) (hI : pn_I σ ρ θ) (kk : lx_next X KC KR b i) : lx_G X 913 (lx_lv KC KR b i) [] (lx_H KC KR σ τ ρ θ) := by
  obtain ⟨r, σ2, ρ2, θ2, hI2, hA, hB⟩ := M_cut hI (xs (i + 1))
  refine sx_aload_n (pc2 := 914) C.1 2 d_lw_913 rfl rfl rfl ?_
  refine lx_arg (k := 1) (pc5 := 919) C hi (by decide) d_lw_914 d_lw_915 d_lw_916 d_lw_917 d_lw_918 rfl rfl rfl rfl ⟨rfl, rfl⟩ ?_
  refine lx_call (pc2 := 922) (As := [.int (xs (i + 1))]) C.1 C.1.2.2.2.2.2.2.2.2.2 C.2.1 C.2.2.2.1.1 C.2.2.2.1.2.2.2 (c_St_cut C.2.2.2.2.1.1 (xs (i + 1)) σ τ (fun r' σ' => r' = r ∧ σ' = σ2) (hA _ ⟨rfl, rfl⟩)) (C.2.2.2.2.1.1 0 0 0 (by decide) (by decide)) rfl rfl lz_200 lz_201 hy_St_cut lz_202 lk_260 lz_203 ⟨rfl, rfl⟩ ⟨Nat.le_of_ble_eq_true rfl, Nat.le_of_ble_eq_true rfl⟩ (Nat.le_of_ble_eq_true rfl) rfl d_lw_919 rfl (fun _ hh => hh) (fun r' σ' τ2 qq => ?_)
  rw [qq.1, qq.2]
  refine sx_aload_n (pc2 := 923) C.1 3 d_lw_922 rfl rfl rfl ?_
  refine lx_arg (k := 1) (pc5 := 928) C hi (by decide) d_lw_923 d_lw_924 d_lw_925 d_lw_926 d_lw_927 rfl rfl rfl rfl ⟨rfl, rfl⟩ ?_
  refine lx_call (pc2 := 931) (As := [.int (xs (i + 1))]) C.1 C.2.1 C.1.2.2.2.2.2.2.2.2.2 C.2.2.2.1.2.1 C.2.2.2.1.2.2.1 (c_Mo_cut C.2.2.2.2.1.2 (xs (i + 1)) ρ θ (fun r' ρ' θ' => r' = r ∧ ρ' = ρ2 ∧ θ' = θ2) (hB _ ⟨rfl, rfl, rfl⟩)) (kr_50 C.2.2.2.2.1.2) rfl rfl lz_204 lz_205 hy_Mo_cut lz_206 lk_364 lz_207 ⟨rfl, rfl⟩ ⟨Nat.le_of_ble_eq_true rfl, Nat.le_of_ble_eq_true rfl⟩ (Nat.le_of_ble_eq_true rfl) rfl d_lw_928 rfl (fun _ hh => ⟨hh.2, hh.1⟩) (fun r' ρ' θ' qq => ?_)
  rw [qq.1, qq.2.1, qq.2.2]
  exact sx_icmp_eq (pc2 := 934) C.1 (tgt := 1189) d_lw_931 (by decide) rfl (fun _ => lx_imp (fun _ hh => ⟨hh.2, hh.1⟩) (kk σ2 τ2 ρ2 θ2 hI2)) (fun qq => absurd rfl qq)
theorem lw_c26 (C : lx_C X KC KR b L xs l) (hi : i + 6 ≤ L) (hI : pn_I σ ρ θ) (kk : lx_next X KC KR b i) : lx_G X 936 (lx_lv KC KR b i) [] (lx_H KC KR σ τ ρ θ) := by
  obtain ⟨r, σ2, ρ2, θ2, hI2, hA, hB⟩ := M_needs hI (xs (i + 1))
  refine sx_aload_n (pc2 := 937) C.1 2 d_lw_936 rfl rfl rfl ?_
  refine lx_arg (k := 1) (pc5 := 942) C hi (by decide) d_lw_937 d_lw_938 d_lw_939 d_lw_940 d_lw_941 rfl rfl rfl rfl ⟨rfl, rfl⟩ ?_
  refine lx_call (pc2 := 945) (As := [.int (xs (i + 1))]) C.1 C.1.2.2.2.2.2.2.2.2.2 C.2.1 C.2.2.2.1.1 C.2.2.2.1.2.2.2 (c_St_needs C.2.2.2.2.1.1 (xs (i + 1)) σ τ (fun r' σ' => r' = r ∧ σ' = σ2) (hA _ ⟨rfl, rfl⟩)) (C.2.2.2.2.1.1 0 0 0 (by decide) (by decide)) rfl rfl lz_208 lz_209 hy_St_needs lz_210 lk_260 lz_211 ⟨rfl, rfl⟩ ⟨Nat.le_of_ble_eq_true rfl, Nat.le_of_ble_eq_true rfl⟩ (Nat.le_of_ble_eq_true rfl) rfl d_lw_942 rfl (fun _ hh => hh) (fun r' σ' τ2 qq => ?_)
  rw [qq.1, qq.2]
  refine sx_aload_n (pc2 := 946) C.1 3 d_lw_945 rfl rfl rfl ?_
  refine lx_arg (k := 1) (pc5 := 951) C hi (by decide) d_lw_946 d_lw_947 d_lw_948 d_lw_949 d_lw_950 rfl rfl rfl rfl ⟨rfl, rfl⟩ ?_
  refine lx_call (pc2 := 954) (As := [.int (xs (i + 1))]) C.1 C.2.1 C.1.2.2.2.2.2.2.2.2.2 C.2.2.2.1.2.1 C.2.2.2.1.2.2.1 (c_Mo_needs C.2.2.2.2.1.2 (xs (i + 1)) ρ θ (fun r' ρ' θ' => r' = r ∧ ρ' = ρ2 ∧ θ' = θ2) (hB _ ⟨rfl, rfl, rfl⟩)) (kr_50 C.2.2.2.2.1.2) rfl rfl lz_212 lz_213 hy_Mo_needs lz_214 lk_364 lz_215 ⟨rfl, rfl⟩ ⟨Nat.le_of_ble_eq_true rfl, Nat.le_of_ble_eq_true rfl⟩ (Nat.le_of_ble_eq_true rfl) rfl d_lw_951 rfl (fun _ hh => ⟨hh.2, hh.1⟩) (fun r' ρ' θ' qq => ?_)
  rw [qq.1, qq.2.1, qq.2.2]
  exact sx_icmp_eq (pc2 := 957) C.1 (tgt := 1189) d_lw_954 (by decide) rfl (fun _ => lx_imp (fun _ hh => ⟨hh.2, hh.1⟩) (kk σ2 τ2 ρ2 θ2 hI2)) (fun qq => absurd rfl qq)
theorem lw_c27 (C : lx_C X KC KR b L xs l) (hi : i + 6 ≤ L) (hI : pn_I σ ρ θ) (kk : lx_next X KC KR b i) : lx_G X 959 (lx_lv KC KR b i) [] (lx_H KC KR σ τ ρ θ) := by
  obtain ⟨r, σ2, ρ2, θ2, hI2, hA, hB⟩ := M_spare hI (xs (i + 1))
  refine sx_aload_n (pc2 := 960) C.1 2 d_lw_959 rfl rfl rfl ?_
  refine lx_arg (k := 1) (pc5 := 965) C hi (by decide) d_lw_960 d_lw_961 d_lw_962 d_lw_963 d_lw_964 rfl rfl rfl rfl ⟨rfl, rfl⟩ ?_
  refine lx_call (pc2 := 968) (As := [.int (xs (i + 1))]) C.1 C.1.2.2.2.2.2.2.2.2.2 C.2.1 C.2.2.2.1.1 C.2.2.2.1.2.2.2 (c_St_spare C.2.2.2.2.1.1 (xs (i + 1)) σ τ (fun r' σ' => r' = r ∧ σ' = σ2) (hA _ ⟨rfl, rfl⟩)) (C.2.2.2.2.1.1 0 0 0 (by decide) (by decide)) rfl rfl lz_216 lz_217 hy_St_spare lz_218 lk_260 lz_219 ⟨rfl, rfl⟩ ⟨Nat.le_of_ble_eq_true rfl, Nat.le_of_ble_eq_true rfl⟩ (Nat.le_of_ble_eq_true rfl) rfl d_lw_965 rfl (fun _ hh => hh) (fun r' σ' τ2 qq => ?_)
  rw [qq.1, qq.2]
  refine sx_aload_n (pc2 := 969) C.1 3 d_lw_968 rfl rfl rfl ?_
  refine lx_arg (k := 1) (pc5 := 974) C hi (by decide) d_lw_969 d_lw_970 d_lw_971 d_lw_972 d_lw_973 rfl rfl rfl rfl ⟨rfl, rfl⟩ ?_
  refine lx_call (pc2 := 977) (As := [.int (xs (i + 1))]) C.1 C.2.1 C.1.2.2.2.2.2.2.2.2.2 C.2.2.2.1.2.1 C.2.2.2.1.2.2.1 (c_Mo_spare C.2.2.2.2.1.2 (xs (i + 1)) ρ θ (fun r' ρ' θ' => r' = r ∧ ρ' = ρ2 ∧ θ' = θ2) (hB _ ⟨rfl, rfl, rfl⟩)) (kr_50 C.2.2.2.2.1.2) rfl rfl lz_220 lz_221 hy_Mo_spare lz_222 lk_364 lz_223 ⟨rfl, rfl⟩ ⟨Nat.le_of_ble_eq_true rfl, Nat.le_of_ble_eq_true rfl⟩ (Nat.le_of_ble_eq_true rfl) rfl d_lw_974 rfl (fun _ hh => ⟨hh.2, hh.1⟩) (fun r' ρ' θ' qq => ?_)
  rw [qq.1, qq.2.1, qq.2.2]
  exact sx_icmp_eq (pc2 := 980) C.1 (tgt := 1189) d_lw_977 (by decide) rfl (fun _ => lx_imp (fun _ hh => ⟨hh.2, hh.1⟩) (kk σ2 τ2 ρ2 θ2 hI2)) (fun qq => absurd rfl qq)
theorem lw_c28 (C : lx_C X KC KR b L xs l) (hi : i + 6 ≤ L) (hI : pn_I σ ρ θ) (kk : lx_next X KC KR b i) : lx_G X 982 (lx_lv KC KR b i) [] (lx_H KC KR σ τ ρ θ) := by
  obtain ⟨r, σ2, ρ2, θ2, hI2, hA, hB⟩ := M_deep hI 
  refine sx_aload_n (pc2 := 983) C.1 2 d_lw_982 rfl rfl rfl ?_
  refine lx_call (pc2 := 986) (As := []) C.1 C.1.2.2.2.2.2.2.2.2.2 C.2.1 C.2.2.2.1.1 C.2.2.2.1.2.2.2 (c_St_deep C.2.2.2.2.1.1  σ τ (fun r' σ' => r' = r ∧ σ' = σ2) (hA _ ⟨rfl, rfl⟩)) (C.2.2.2.2.1.1 0 0 0 (by decide) (by decide)) rfl rfl lz_224 lz_225 hy_St_deep lz_226 lk_260 lz_227 ⟨rfl, rfl⟩ ⟨Nat.le_of_ble_eq_true rfl, Nat.le_of_ble_eq_true rfl⟩ (Nat.le_of_ble_eq_true rfl) rfl d_lw_983 rfl (fun _ hh => hh) (fun r' σ' τ2 qq => ?_)
  rw [qq.1, qq.2]
  refine sx_aload_n (pc2 := 987) C.1 3 d_lw_986 rfl rfl rfl ?_
  refine lx_call (pc2 := 990) (As := []) C.1 C.2.1 C.1.2.2.2.2.2.2.2.2.2 C.2.2.2.1.2.1 C.2.2.2.1.2.2.1 (c_Mo_deep C.2.2.2.2.1.2  ρ θ (fun r' ρ' θ' => r' = r ∧ ρ' = ρ2 ∧ θ' = θ2) (hB _ ⟨rfl, rfl, rfl⟩)) (kr_50 C.2.2.2.2.1.2) rfl rfl lz_228 lz_229 hy_Mo_deep lz_230 lk_364 lz_231 ⟨rfl, rfl⟩ ⟨Nat.le_of_ble_eq_true rfl, Nat.le_of_ble_eq_true rfl⟩ (Nat.le_of_ble_eq_true rfl) rfl d_lw_987 rfl (fun _ hh => ⟨hh.2, hh.1⟩) (fun r' ρ' θ' qq => ?_)
  rw [qq.1, qq.2.1, qq.2.2]
  exact sx_icmp_eq (pc2 := 993) C.1 (tgt := 1189) d_lw_990 (by decide) rfl (fun _ => lx_imp (fun _ hh => ⟨hh.2, hh.1⟩) (kk σ2 τ2 ρ2 θ2 hI2)) (fun qq => absurd rfl qq)
theorem lw_c29 (C : lx_C X KC KR b L xs l) (hi : i + 6 ≤ L) (hI : pn_I σ ρ θ) (kk : lx_next X KC KR b i) : lx_G X 995 (lx_lv KC KR b i) [] (lx_H KC KR σ τ ρ θ) := by
  obtain ⟨r, σ2, ρ2, θ2, hI2, hA, hB⟩ := M_reached hI 
  refine sx_aload_n (pc2 := 996) C.1 2 d_lw_995 rfl rfl rfl ?_
  refine lx_call (pc2 := 999) (As := []) C.1 C.1.2.2.2.2.2.2.2.2.2 C.2.1 C.2.2.2.1.1 C.2.2.2.1.2.2.2 (c_St_reached C.2.2.2.2.1.1  σ τ (fun r' σ' => r' = r ∧ σ' = σ2) (hA _ ⟨rfl, rfl⟩)) (C.2.2.2.2.1.1 0 0 0 (by decide) (by decide)) rfl rfl lz_232 lz_233 hy_St_reached lz_234 lk_260 lz_235 ⟨rfl, rfl⟩ ⟨Nat.le_of_ble_eq_true rfl, Nat.le_of_ble_eq_true rfl⟩ (Nat.le_of_ble_eq_true rfl) rfl d_lw_996 rfl (fun _ hh => hh) (fun r' σ' τ2 qq => ?_)
  rw [qq.1, qq.2]
  refine sx_aload_n (pc2 := 1000) C.1 3 d_lw_999 rfl rfl rfl ?_
  refine lx_call (pc2 := 1003) (As := []) C.1 C.2.1 C.1.2.2.2.2.2.2.2.2.2 C.2.2.2.1.2.1 C.2.2.2.1.2.2.1 (c_Mo_reached C.2.2.2.2.1.2  ρ θ (fun r' ρ' θ' => r' = r ∧ ρ' = ρ2 ∧ θ' = θ2) (hB _ ⟨rfl, rfl, rfl⟩)) (kr_50 C.2.2.2.2.1.2) rfl rfl lz_236 lz_237 hy_Mo_reached lz_238 lk_364 lz_239 ⟨rfl, rfl⟩ ⟨Nat.le_of_ble_eq_true rfl, Nat.le_of_ble_eq_true rfl⟩ (Nat.le_of_ble_eq_true rfl) rfl d_lw_1000 rfl (fun _ hh => ⟨hh.2, hh.1⟩) (fun r' ρ' θ' qq => ?_)
  rw [qq.1, qq.2.1, qq.2.2]
  exact sx_icmp_eq (pc2 := 1006) C.1 (tgt := 1189) d_lw_1003 (by decide) rfl (fun _ => lx_imp (fun _ hh => ⟨hh.2, hh.1⟩) (kk σ2 τ2 ρ2 θ2 hI2)) (fun qq => absurd rfl qq)
theorem lw_c30 (C : lx_C X KC KR b L xs l) (hi : i + 6 ≤ L) (hI : pn_I σ ρ θ) (kk : lx_next X KC KR b i) : lx_G X 1008 (lx_lv KC KR b i) [] (lx_H KC KR σ τ ρ θ) := by
  obtain ⟨r, σ2, ρ2, θ2, hI2, hA, hB⟩ := M_lull hI (xs (i + 1))
  refine sx_aload_n (pc2 := 1009) C.1 2 d_lw_1008 rfl rfl rfl ?_
  refine lx_arg (k := 1) (pc5 := 1014) C hi (by decide) d_lw_1009 d_lw_1010 d_lw_1011 d_lw_1012 d_lw_1013 rfl rfl rfl rfl ⟨rfl, rfl⟩ ?_
  refine lx_call (pc2 := 1017) (As := [.int (xs (i + 1))]) C.1 C.1.2.2.2.2.2.2.2.2.2 C.2.1 C.2.2.2.1.1 C.2.2.2.1.2.2.2 (c_St_lull C.2.2.2.2.1.1 (xs (i + 1)) σ τ (fun r' σ' => r' = r ∧ σ' = σ2) (hA _ ⟨rfl, rfl⟩)) (C.2.2.2.2.1.1 0 0 0 (by decide) (by decide)) rfl rfl lz_240 lz_241 hy_St_lull lz_242 lk_260 lz_243 ⟨rfl, rfl⟩ ⟨Nat.le_of_ble_eq_true rfl, Nat.le_of_ble_eq_true rfl⟩ (Nat.le_of_ble_eq_true rfl) rfl d_lw_1014 rfl (fun _ hh => hh) (fun r' σ' τ2 qq => ?_)
  rw [qq.1, qq.2]
  refine sx_aload_n (pc2 := 1018) C.1 3 d_lw_1017 rfl rfl rfl ?_
  refine lx_arg (k := 1) (pc5 := 1023) C hi (by decide) d_lw_1018 d_lw_1019 d_lw_1020 d_lw_1021 d_lw_1022 rfl rfl rfl rfl ⟨rfl, rfl⟩ ?_
  refine lx_call (pc2 := 1026) (As := [.int (xs (i + 1))]) C.1 C.2.1 C.1.2.2.2.2.2.2.2.2.2 C.2.2.2.1.2.1 C.2.2.2.1.2.2.1 (c_Mo_lull C.2.2.2.2.1.2 (xs (i + 1)) ρ θ (fun r' ρ' θ' => r' = r ∧ ρ' = ρ2 ∧ θ' = θ2) (hB _ ⟨rfl, rfl, rfl⟩)) (kr_50 C.2.2.2.2.1.2) rfl rfl lz_244 lz_245 hy_Mo_lull lz_246 lk_364 lz_247 ⟨rfl, rfl⟩ ⟨Nat.le_of_ble_eq_true rfl, Nat.le_of_ble_eq_true rfl⟩ (Nat.le_of_ble_eq_true rfl) rfl d_lw_1023 rfl (fun _ hh => ⟨hh.2, hh.1⟩) (fun r' ρ' θ' qq => ?_)
  rw [qq.1, qq.2.1, qq.2.2]
  exact sx_icmp_eq (pc2 := 1029) C.1 (tgt := 1189) d_lw_1026 (by decide) rfl (fun _ => lx_imp (fun _ hh => ⟨hh.2, hh.1⟩) (kk σ2 τ2 ρ2 θ2 hI2)) (fun qq => absurd rfl qq)
theorem lw_c31 (C : lx_C X KC KR b L xs l) (hi : i + 6 ≤ L) (hI : pn_I σ ρ θ) (kk : lx_next X KC KR b i) : lx_G X 1031 (lx_lv KC KR b i) [] (lx_H KC KR σ τ ρ θ) := by
  obtain ⟨r, σ2, ρ2, θ2, hI2, hA, hB⟩ := M_stretch hI 
  refine sx_aload_n (pc2 := 1032) C.1 2 d_lw_1031 rfl rfl rfl ?_
  refine lx_call (pc2 := 1035) (As := []) C.1 C.1.2.2.2.2.2.2.2.2.2 C.2.1 C.2.2.2.1.1 C.2.2.2.1.2.2.2 (c_St_stretch C.2.2.2.2.1.1  σ τ (fun r' σ' => r' = r ∧ σ' = σ2) (hA _ ⟨rfl, rfl⟩)) (C.2.2.2.2.1.1 0 0 0 (by decide) (by decide)) rfl rfl lz_248 lz_249 hy_St_stretch lz_250 lk_260 lz_251 ⟨rfl, rfl⟩ ⟨Nat.le_of_ble_eq_true rfl, Nat.le_of_ble_eq_true rfl⟩ (Nat.le_of_ble_eq_true rfl) rfl d_lw_1032 rfl (fun _ hh => hh) (fun r' σ' τ2 qq => ?_)
  rw [qq.1, qq.2]
  refine sx_aload_n (pc2 := 1036) C.1 3 d_lw_1035 rfl rfl rfl ?_
  refine lx_call (pc2 := 1039) (As := []) C.1 C.2.1 C.1.2.2.2.2.2.2.2.2.2 C.2.2.2.1.2.1 C.2.2.2.1.2.2.1 (c_Mo_stretch C.2.2.2.2.1.2  ρ θ (fun r' ρ' θ' => r' = r ∧ ρ' = ρ2 ∧ θ' = θ2) (hB _ ⟨rfl, rfl, rfl⟩)) (kr_50 C.2.2.2.2.1.2) rfl rfl lz_252 lz_253 hy_Mo_stretch lz_254 lk_364 lz_255 ⟨rfl, rfl⟩ ⟨Nat.le_of_ble_eq_true rfl, Nat.le_of_ble_eq_true rfl⟩ (Nat.le_of_ble_eq_true rfl) rfl d_lw_1036 rfl (fun _ hh => ⟨hh.2, hh.1⟩) (fun r' ρ' θ' qq => ?_)
  rw [qq.1, qq.2.1, qq.2.2]
  exact sx_icmp_eq (pc2 := 1042) C.1 (tgt := 1189) d_lw_1039 (by decide) rfl (fun _ => lx_imp (fun _ hh => ⟨hh.2, hh.1⟩) (kk σ2 τ2 ρ2 θ2 hI2)) (fun qq => absurd rfl qq)
theorem lw_c32 (C : lx_C X KC KR b L xs l) (hi : i + 6 ≤ L) (hI : pn_I σ ρ θ) (kk : lx_next X KC KR b i) : lx_G X 1044 (lx_lv KC KR b i) [] (lx_H KC KR σ τ ρ θ) := by
  obtain ⟨r, σ2, ρ2, θ2, hI2, hA, hB⟩ := M_then hI (xs (i + 1)) (xs (i + 2)) (xs (i + 3))
  refine sx_aload_n (pc2 := 1045) C.1 2 d_lw_1044 rfl rfl rfl ?_
  refine lx_arg (k := 1) (pc5 := 1050) C hi (by decide) d_lw_1045 d_lw_1046 d_lw_1047 d_lw_1048 d_lw_1049 rfl rfl rfl rfl ⟨rfl, rfl⟩ ?_
  refine lx_arg (k := 2) (pc5 := 1055) C hi (by decide) d_lw_1050 d_lw_1051 d_lw_1052 d_lw_1053 d_lw_1054 rfl rfl rfl rfl ⟨rfl, rfl⟩ ?_
  refine lx_arg (k := 3) (pc5 := 1060) C hi (by decide) d_lw_1055 d_lw_1056 d_lw_1057 d_lw_1058 d_lw_1059 rfl rfl rfl rfl ⟨rfl, rfl⟩ ?_
  refine lx_call (pc2 := 1063) (As := [.int (xs (i + 1)), .int (xs (i + 2)), .int (xs (i + 3))]) C.1 C.1.2.2.2.2.2.2.2.2.2 C.2.1 C.2.2.2.1.1 C.2.2.2.1.2.2.2 (c_St_then C.2.2.2.2.1.1 (xs (i + 1)) (xs (i + 2)) (xs (i + 3)) σ τ (fun r' σ' => r' = r ∧ σ' = σ2) (hA _ ⟨rfl, rfl⟩)) (C.2.2.2.2.1.1 0 0 0 (by decide) (by decide)) rfl rfl lz_256 lz_257 hy_St_then lz_258 lk_260 lz_259 ⟨rfl, rfl⟩ ⟨Nat.le_of_ble_eq_true rfl, Nat.le_of_ble_eq_true rfl⟩ (Nat.le_of_ble_eq_true rfl) rfl d_lw_1060 rfl (fun _ hh => hh) (fun r' σ' τ2 qq => ?_)
  rw [qq.1, qq.2]
  refine sx_aload_n (pc2 := 1064) C.1 3 d_lw_1063 rfl rfl rfl ?_
  refine lx_arg (k := 1) (pc5 := 1069) C hi (by decide) d_lw_1064 d_lw_1065 d_lw_1066 d_lw_1067 d_lw_1068 rfl rfl rfl rfl ⟨rfl, rfl⟩ ?_
  refine lx_arg (k := 2) (pc5 := 1074) C hi (by decide) d_lw_1069 d_lw_1070 d_lw_1071 d_lw_1072 d_lw_1073 rfl rfl rfl rfl ⟨rfl, rfl⟩ ?_
  refine lx_arg (k := 3) (pc5 := 1079) C hi (by decide) d_lw_1074 d_lw_1075 d_lw_1076 d_lw_1077 d_lw_1078 rfl rfl rfl rfl ⟨rfl, rfl⟩ ?_
  refine lx_call (pc2 := 1082) (As := [.int (xs (i + 1)), .int (xs (i + 2)), .int (xs (i + 3))]) C.1 C.2.1 C.1.2.2.2.2.2.2.2.2.2 C.2.2.2.1.2.1 C.2.2.2.1.2.2.1 (c_Mo_then C.2.2.2.2.1.2 (xs (i + 1)) (xs (i + 2)) (xs (i + 3)) ρ θ (fun r' ρ' θ' => r' = r ∧ ρ' = ρ2 ∧ θ' = θ2) (hB _ ⟨rfl, rfl, rfl⟩)) (kr_50 C.2.2.2.2.1.2) rfl rfl lz_260 lz_261 hy_Mo_then lz_262 lk_364 lz_263 ⟨rfl, rfl⟩ ⟨Nat.le_of_ble_eq_true rfl, Nat.le_of_ble_eq_true rfl⟩ (Nat.le_of_ble_eq_true rfl) rfl d_lw_1079 rfl (fun _ hh => ⟨hh.2, hh.1⟩) (fun r' ρ' θ' qq => ?_)
  rw [qq.1, qq.2.1, qq.2.2]
  exact sx_icmp_eq (pc2 := 1085) C.1 (tgt := 1189) d_lw_1082 (by decide) rfl (fun _ => lx_imp (fun _ hh => ⟨hh.2, hh.1⟩) (kk σ2 τ2 ρ2 θ2 hI2)) (fun qq => absurd rfl qq)
theorem lw_c33 (C : lx_C X KC KR b L xs l) (hi : i + 6 ≤ L) (hI : pn_I σ ρ θ) (kk : lx_next X KC KR b i) : lx_G X 1087 (lx_lv KC KR b i) [] (lx_H KC KR σ τ ρ θ) := by
  obtain ⟨r, σ2, ρ2, θ2, hI2, hA, hB⟩ := M_year hI (xs (i + 1)) (xs (i + 2))
  refine sx_aload_n (pc2 := 1088) C.1 2 d_lw_1087 rfl rfl rfl ?_
  refine lx_arg (k := 1) (pc5 := 1093) C hi (by decide) d_lw_1088 d_lw_1089 d_lw_1090 d_lw_1091 d_lw_1092 rfl rfl rfl rfl ⟨rfl, rfl⟩ ?_
  refine lx_arg (k := 2) (pc5 := 1098) C hi (by decide) d_lw_1093 d_lw_1094 d_lw_1095 d_lw_1096 d_lw_1097 rfl rfl rfl rfl ⟨rfl, rfl⟩ ?_
  refine lx_call (pc2 := 1101) (As := [.int (xs (i + 1)), .int (xs (i + 2))]) C.1 C.1.2.2.2.2.2.2.2.2.2 C.2.1 C.2.2.2.1.1 C.2.2.2.1.2.2.2 (c_St_year C.2.2.2.2.1.1 (xs (i + 1)) (xs (i + 2)) σ τ (fun r' σ' => r' = r ∧ σ' = σ2) (hA _ ⟨rfl, rfl⟩)) (C.2.2.2.2.1.1 0 0 0 (by decide) (by decide)) rfl rfl lz_264 lz_265 hy_St_year lz_266 lk_260 lz_267 ⟨rfl, rfl⟩ ⟨Nat.le_of_ble_eq_true rfl, Nat.le_of_ble_eq_true rfl⟩ (Nat.le_of_ble_eq_true rfl) rfl d_lw_1098 rfl (fun _ hh => hh) (fun r' σ' τ2 qq => ?_)
  rw [qq.1, qq.2]
  refine sx_aload_n (pc2 := 1102) C.1 3 d_lw_1101 rfl rfl rfl ?_
  refine lx_arg (k := 1) (pc5 := 1107) C hi (by decide) d_lw_1102 d_lw_1103 d_lw_1104 d_lw_1105 d_lw_1106 rfl rfl rfl rfl ⟨rfl, rfl⟩ ?_
  refine lx_arg (k := 2) (pc5 := 1112) C hi (by decide) d_lw_1107 d_lw_1108 d_lw_1109 d_lw_1110 d_lw_1111 rfl rfl rfl rfl ⟨rfl, rfl⟩ ?_
  refine lx_call (pc2 := 1115) (As := [.int (xs (i + 1)), .int (xs (i + 2))]) C.1 C.2.1 C.1.2.2.2.2.2.2.2.2.2 C.2.2.2.1.2.1 C.2.2.2.1.2.2.1 (c_Mo_year C.2.2.2.2.1.2 (xs (i + 1)) (xs (i + 2)) ρ θ (fun r' ρ' θ' => r' = r ∧ ρ' = ρ2 ∧ θ' = θ2) (hB _ ⟨rfl, rfl, rfl⟩)) (kr_50 C.2.2.2.2.1.2) rfl rfl lz_268 lz_269 hy_Mo_year lz_270 lk_364 lz_271 ⟨rfl, rfl⟩ ⟨Nat.le_of_ble_eq_true rfl, Nat.le_of_ble_eq_true rfl⟩ (Nat.le_of_ble_eq_true rfl) rfl d_lw_1112 rfl (fun _ hh => ⟨hh.2, hh.1⟩) (fun r' ρ' θ' qq => ?_)
  rw [qq.1, qq.2.1, qq.2.2]
  exact sx_icmp_eq (pc2 := 1118) C.1 (tgt := 1189) d_lw_1115 (by decide) rfl (fun _ => lx_imp (fun _ hh => ⟨hh.2, hh.1⟩) (kk σ2 τ2 ρ2 θ2 hI2)) (fun qq => absurd rfl qq)
theorem lw_c34 (C : lx_C X KC KR b L xs l) (hi : i + 6 ≤ L) (hI : pn_I σ ρ θ) (kk : lx_next X KC KR b i) : lx_G X 1120 (lx_lv KC KR b i) [] (lx_H KC KR σ τ ρ θ) := by
  obtain ⟨r, σ2, ρ2, θ2, hI2, hA, hB⟩ := M_hold hI (xs (i + 1))
  refine sx_aload_n (pc2 := 1121) C.1 2 d_lw_1120 rfl rfl rfl ?_
  refine lx_arg (k := 1) (pc5 := 1126) C hi (by decide) d_lw_1121 d_lw_1122 d_lw_1123 d_lw_1124 d_lw_1125 rfl rfl rfl rfl ⟨rfl, rfl⟩ ?_
  refine lx_call (pc2 := 1129) (As := [.int (xs (i + 1))]) C.1 C.1.2.2.2.2.2.2.2.2.2 C.2.1 C.2.2.2.1.1 C.2.2.2.1.2.2.2 (c_St_hold C.2.2.2.2.1.1 (xs (i + 1)) σ τ (fun r' σ' => r' = r ∧ σ' = σ2) (hA _ ⟨rfl, rfl⟩)) (C.2.2.2.2.1.1 0 0 0 (by decide) (by decide)) rfl rfl lz_272 lz_273 hy_St_hold lz_274 lk_260 lz_275 ⟨rfl, rfl⟩ ⟨Nat.le_of_ble_eq_true rfl, Nat.le_of_ble_eq_true rfl⟩ (Nat.le_of_ble_eq_true rfl) rfl d_lw_1126 rfl (fun _ hh => hh) (fun r' σ' τ2 qq => ?_)
  rw [qq.1, qq.2]
  refine sx_aload_n (pc2 := 1130) C.1 3 d_lw_1129 rfl rfl rfl ?_
  refine lx_arg (k := 1) (pc5 := 1135) C hi (by decide) d_lw_1130 d_lw_1131 d_lw_1132 d_lw_1133 d_lw_1134 rfl rfl rfl rfl ⟨rfl, rfl⟩ ?_
  refine lx_call (pc2 := 1138) (As := [.int (xs (i + 1))]) C.1 C.2.1 C.1.2.2.2.2.2.2.2.2.2 C.2.2.2.1.2.1 C.2.2.2.1.2.2.1 (c_Mo_hold C.2.2.2.2.1.2 (xs (i + 1)) ρ θ (fun r' ρ' θ' => r' = r ∧ ρ' = ρ2 ∧ θ' = θ2) (hB _ ⟨rfl, rfl, rfl⟩)) (kr_50 C.2.2.2.2.1.2) rfl rfl lz_276 lz_277 hy_Mo_hold lz_278 lk_364 lz_279 ⟨rfl, rfl⟩ ⟨Nat.le_of_ble_eq_true rfl, Nat.le_of_ble_eq_true rfl⟩ (Nat.le_of_ble_eq_true rfl) rfl d_lw_1135 rfl (fun _ hh => ⟨hh.2, hh.1⟩) (fun r' ρ' θ' qq => ?_)
  rw [qq.1, qq.2.1, qq.2.2]
  exact sx_icmp_eq (pc2 := 1141) C.1 (tgt := 1189) d_lw_1138 (by decide) rfl (fun _ => lx_imp (fun _ hh => ⟨hh.2, hh.1⟩) (kk σ2 τ2 ρ2 θ2 hI2)) (fun qq => absurd rfl qq)
theorem lw_c35 (C : lx_C X KC KR b L xs l) (hi : i + 6 ≤ L) (hI : pn_I σ ρ θ) (kk : lx_next X KC KR b i) : lx_G X 1143 (lx_lv KC KR b i) [] (lx_H KC KR σ τ ρ θ) := by
  obtain ⟨r, σ2, ρ2, θ2, hI2, hA, hB⟩ := M_restore hI (xs (i + 1))
  refine sx_aload_n (pc2 := 1144) C.1 2 d_lw_1143 rfl rfl rfl ?_
  refine lx_arg (k := 1) (pc5 := 1149) C hi (by decide) d_lw_1144 d_lw_1145 d_lw_1146 d_lw_1147 d_lw_1148 rfl rfl rfl rfl ⟨rfl, rfl⟩ ?_
  refine lx_call (pc2 := 1152) (As := [.int (xs (i + 1))]) C.1 C.1.2.2.2.2.2.2.2.2.2 C.2.1 C.2.2.2.1.1 C.2.2.2.1.2.2.2 (c_St_restore C.2.2.2.2.1.1 (xs (i + 1)) σ τ (fun r' σ' => r' = r ∧ σ' = σ2) (hA _ ⟨rfl, rfl⟩)) (C.2.2.2.2.1.1 0 0 0 (by decide) (by decide)) rfl rfl lz_280 lz_281 hy_St_restore lz_282 lk_260 lz_283 ⟨rfl, rfl⟩ ⟨Nat.le_of_ble_eq_true rfl, Nat.le_of_ble_eq_true rfl⟩ (Nat.le_of_ble_eq_true rfl) rfl d_lw_1149 rfl (fun _ hh => hh) (fun r' σ' τ2 qq => ?_)
  rw [qq.1, qq.2]
  refine sx_aload_n (pc2 := 1153) C.1 3 d_lw_1152 rfl rfl rfl ?_
  refine lx_arg (k := 1) (pc5 := 1158) C hi (by decide) d_lw_1153 d_lw_1154 d_lw_1155 d_lw_1156 d_lw_1157 rfl rfl rfl rfl ⟨rfl, rfl⟩ ?_
  refine lx_call (pc2 := 1161) (As := [.int (xs (i + 1))]) C.1 C.2.1 C.1.2.2.2.2.2.2.2.2.2 C.2.2.2.1.2.1 C.2.2.2.1.2.2.1 (c_Mo_restore C.2.2.2.2.1.2 (xs (i + 1)) ρ θ (fun r' ρ' θ' => r' = r ∧ ρ' = ρ2 ∧ θ' = θ2) (hB _ ⟨rfl, rfl, rfl⟩)) (kr_50 C.2.2.2.2.1.2) rfl rfl lz_284 lz_285 hy_Mo_restore lz_286 lk_364 lz_287 ⟨rfl, rfl⟩ ⟨Nat.le_of_ble_eq_true rfl, Nat.le_of_ble_eq_true rfl⟩ (Nat.le_of_ble_eq_true rfl) rfl d_lw_1158 rfl (fun _ hh => ⟨hh.2, hh.1⟩) (fun r' ρ' θ' qq => ?_)
  rw [qq.1, qq.2.1, qq.2.2]
  exact sx_icmp_eq (pc2 := 1164) C.1 (tgt := 1189) d_lw_1161 (by decide) rfl (fun _ => lx_imp (fun _ hh => ⟨hh.2, hh.1⟩) (kk σ2 τ2 ρ2 θ2 hI2)) (fun qq => absurd rfl qq)
theorem lw_c36 (C : lx_C X KC KR b L xs l) (hi : i + 6 ≤ L) (hI : pn_I σ ρ θ) (kk : lx_next X KC KR b i) : lx_G X 1166 (lx_lv KC KR b i) [] (lx_H KC KR σ τ ρ θ) := by
  obtain ⟨r, σ2, ρ2, θ2, hI2, hA, hB⟩ := M_count hI (xs (i + 1))
  refine sx_aload_n (pc2 := 1167) C.1 2 d_lw_1166 rfl rfl rfl ?_
  refine lx_arg (k := 1) (pc5 := 1172) C hi (by decide) d_lw_1167 d_lw_1168 d_lw_1169 d_lw_1170 d_lw_1171 rfl rfl rfl rfl ⟨rfl, rfl⟩ ?_
  refine lx_call (pc2 := 1175) (As := [.int (xs (i + 1))]) C.1 C.1.2.2.2.2.2.2.2.2.2 C.2.1 C.2.2.2.1.1 C.2.2.2.1.2.2.2 (c_St_count C.2.2.2.2.1.1 (xs (i + 1)) σ τ (fun r' σ' => r' = r ∧ σ' = σ2) (hA _ ⟨rfl, rfl⟩)) (C.2.2.2.2.1.1 0 0 0 (by decide) (by decide)) rfl rfl lz_288 lz_289 hy_St_count lz_290 lk_260 lz_291 ⟨rfl, rfl⟩ ⟨Nat.le_of_ble_eq_true rfl, Nat.le_of_ble_eq_true rfl⟩ (Nat.le_of_ble_eq_true rfl) rfl d_lw_1172 rfl (fun _ hh => hh) (fun r' σ' τ2 qq => ?_)
  rw [qq.1, qq.2]
  refine sx_aload_n (pc2 := 1176) C.1 3 d_lw_1175 rfl rfl rfl ?_
  refine lx_arg (k := 1) (pc5 := 1181) C hi (by decide) d_lw_1176 d_lw_1177 d_lw_1178 d_lw_1179 d_lw_1180 rfl rfl rfl rfl ⟨rfl, rfl⟩ ?_
  refine lx_call (pc2 := 1184) (As := [.int (xs (i + 1))]) C.1 C.2.1 C.1.2.2.2.2.2.2.2.2.2 C.2.2.2.1.2.1 C.2.2.2.1.2.2.1 (c_Mo_count C.2.2.2.2.1.2 (xs (i + 1)) ρ θ (fun r' ρ' θ' => r' = r ∧ ρ' = ρ2 ∧ θ' = θ2) (hB _ ⟨rfl, rfl, rfl⟩)) (kr_50 C.2.2.2.2.1.2) rfl rfl lz_292 lz_293 hy_Mo_count lz_294 lk_364 lz_295 ⟨rfl, rfl⟩ ⟨Nat.le_of_ble_eq_true rfl, Nat.le_of_ble_eq_true rfl⟩ (Nat.le_of_ble_eq_true rfl) rfl d_lw_1181 rfl (fun _ hh => ⟨hh.2, hh.1⟩) (fun r' ρ' θ' qq => ?_)
  rw [qq.1, qq.2.1, qq.2.2]
  exact sx_icmp_eq (pc2 := 1187) C.1 (tgt := 1189) d_lw_1184 (by decide) rfl (fun _ => lx_imp (fun _ hh => ⟨hh.2, hh.1⟩) (kk σ2 τ2 ρ2 θ2 hI2)) (fun qq => absurd rfl qq)
end LAWC
