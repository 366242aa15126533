def y_Mo_isUp : MethodName := ⟨"SensorTreeModel", "isUp", "(I)Z"⟩
theorem hy_Mo_isUp : y_Mo_isUp.cls ≠ "java/lang/invoke/MethodHandle" ∧ y_Mo_isUp.cls ≠ "java/lang/invoke/VarHandle" ∧ (parseMethodDescriptor y_Mo_isUp.desc).map (fun d => d.parameters.length) = some 1 := by decide +kernel
theorem d_Mo_isUp_0 : decode prog_13_method_47_code 0 = .ok (.aload_n 0, 1) := by decide +kernel
theorem d_Mo_isUp_1 : decode prog_13_method_47_code 1 = .ok (.getfield 71, 3) := by decide +kernel
theorem d_Mo_isUp_4 : decode prog_13_method_47_code 4 = .ok (.bipush 8, 2) := by decide +kernel
theorem d_Mo_isUp_6 : decode prog_13_method_47_code 6 = .ok (.iaload, 1) := by decide +kernel
theorem d_Mo_isUp_7 : decode prog_13_method_47_code 7 = .ok (.iload_n 1, 1) := by decide +kernel
theorem d_Mo_isUp_8 : decode prog_13_method_47_code 8 = .ok (.ishr, 1) := by decide +kernel
theorem d_Mo_isUp_9 : decode prog_13_method_47_code 9 = .ok (.iconst 1, 1) := by decide +kernel
theorem d_Mo_isUp_10 : decode prog_13_method_47_code 10 = .ok (.iand, 1) := by decide +kernel
theorem d_Mo_isUp_11 : decode prog_13_method_47_code 11 = .ok (.iconst 1, 1) := by decide +kernel
theorem d_Mo_isUp_12 : decode prog_13_method_47_code 12 = .ok (.if_icmp .ne 7, 3) := by decide +kernel
theorem d_Mo_isUp_15 : decode prog_13_method_47_code 15 = .ok (.iconst 1, 1) := by decide +kernel
theorem d_Mo_isUp_16 : decode prog_13_method_47_code 16 = .ok (.goto 4, 3) := by decide +kernel
theorem d_Mo_isUp_19 : decode prog_13_method_47_code 19 = .ok (.iconst 0, 1) := by decide +kernel
theorem d_Mo_isUp_20 : decode prog_13_method_47_code 20 = .ok (.ireturn, 1) := by decide +kernel
def wp_Mo_isUp_b20   (Q : Int32 → sx_M → sx_L → Prop) (w0 : Int32) (σ : sx_M) (τ : sx_L) : Prop := (w0 = 0 ∨ w0 = 1) ∧ (Q w0 σ τ)
def wp_Mo_isUp (x1 : Int32) (σ : sx_M) (τ : sx_L) (Q : Int32 → sx_M → sx_L → Prop) : Prop := vp_in 8 643 ∧ (if ((σ 68 0 0 (8 : Int32).toNatClampNeg) >>> (x1 &&& 31)) &&& 1 = 1 then (wp_Mo_isUp_b20 Q 1 σ τ) else (wp_Mo_isUp_b20 Q 0 σ τ))
abbrev rm_Mo_isUp : Room := { frames := 0, cells := 0, slots := 0, locals := 0 }
set_option maxRecDepth 100000 in
set_option maxHeartbeats 4000000 in
theorem g_Mo_isUp_b20 {l : Launch} {K : sx_K} {X : sx_T}   {Q : Int32 → sx_M → sx_L → Prop} (hX : sx_C X K prog_13_method_47_code 2 "SensorTreeModel" (some .boolean) rm_Mo_isUp l) (hK : kx_F K) (hE : sx_E X K (sx_Qi K Q))  (w0 : Int32) (σ : sx_M) (τ : sx_L)  (h : wp_Mo_isUp_b20 Q  w0 σ τ) : sx_G X K 2 20 [] [.int w0] (sx_H K σ τ) := by
  unfold wp_Mo_isUp_b20 at h
  obtain ⟨hc1, h⟩ := h
  exact sx_zret hX hE hc1 h d_Mo_isUp_20
set_option maxRecDepth 100000 in
set_option maxHeartbeats 4000000 in
theorem c_Mo_isUp {l : Launch} {K : sx_K} (hK : kx_F K) (x1 : Int32) (σ : sx_M) (τ : sx_L) (Q : Int32 → sx_M → sx_L → Prop)  (h : wp_Mo_isUp x1 σ τ Q) : Met l y_Mo_isUp (sx_wd y_Mo_isUp prog_13_method_47_code 2 (some .boolean)) rm_Mo_isUp (sx_Pc K [.ref (K.2.2.1 50 0 0), .int x1] σ τ) (sx_Qi K Q) 0 0 (sx_A K) := by
  refine sx_met (by decide) (Nat.le_of_ble_eq_true rfl) (fun X hX hE => ?_)
  replace hX : sx_C X K prog_13_method_47_code 2 "SensorTreeModel" (some .boolean) rm_Mo_isUp l := hX
  show sx_G X K 2 0 [(0, .ref (K.2.2.1 50 0 0)), (1, .int x1)] [] (sx_H K σ τ)
  unfold wp_Mo_isUp at h
  refine sx_aload_n (pc2 := 1) hX 0 d_Mo_isUp_0 rfl rfl rfl ?_
  refine fg_Mo_71 (pc2 := 4) hX (kr_50 hK) d_Mo_isUp_1 rfl ?_
  refine sx_bipush (v := 8) (pc2 := 6) hX d_Mo_isUp_4 (by decide) rfl ?_
  obtain ⟨hc2, h⟩ := h
  refine sx_iald (pc2 := 7) hX (kr_68 hK) rfl hc2 d_Mo_isUp_6 rfl ?_
  refine sx_iload_n (pc2 := 8) hX 1 d_Mo_isUp_7 rfl rfl rfl ?_
  refine sx_ishr (pc2 := 9) hX d_Mo_isUp_8 rfl ?_
  refine sx_iconst (v := 1) (pc2 := 10) hX d_Mo_isUp_9 (by decide) rfl ?_
  refine sx_iand (pc2 := 11) hX d_Mo_isUp_10 rfl ?_
  refine sx_iconst (v := 1) (pc2 := 12) hX d_Mo_isUp_11 (by decide) rfl ?_
  refine sx_icmp_ne (tgt := 19) (pc2 := 15) hX d_Mo_isUp_12 (by decide) rfl (fun hc3 => ?_) (fun hc3 => ?_)
  · replace h := sx_f h hc3
    refine sx_iconst (v := 0) (pc2 := 20) hX d_Mo_isUp_19 (by decide) rfl ?_
    refine sx_sub [] [] rfl ?_
    exact g_Mo_isUp_b20 hX hK hE   0 _ _ h
  · replace h := sx_t h hc3
    refine sx_iconst (v := 1) (pc2 := 16) hX d_Mo_isUp_15 (by decide) rfl ?_
    refine sx_goto (tgt := 20) hX d_Mo_isUp_16 (by decide) ?_
    refine sx_sub [] [] rfl ?_
    exact g_Mo_isUp_b20 hX hK hE   1 _ _ h
theorem cl_Mo_249 {X : sx_T} {K : sx_K} {cc : ByteArray} {nL : Nat} {ret : Option FieldType} {rm : Room} {l : Launch} {pc pc2 : Nat} {lv : List (Nat × Value)} {st : List Value} {σ : sx_M} {τ : sx_L} {x1 : Int32} {Q : Int32 → sx_M → sx_L → Prop} (hX : sx_C X K cc nL "SensorTreeModel" ret rm l) (hK : kx_F K) (h : wp_Mo_isUp x1 σ τ Q)  (hR : rm_Mo_isUp.frames + 1 ≤ rm.frames ∧ 8 + (2 + 11) + rm_Mo_isUp.locals ≤ rm.locals) (hst : (st.map fun v => v.category).sum ≤ 8) (hd : decode cc pc = .ok (.invokevirtual 249, 3)) (hpc : pc + 3 = pc2) (kk : ∀ (r : Int32) (σ2 : sx_M) (τ2 : sx_L), Q r σ2 τ2 → sx_G X K nL pc2 lv (.int r :: st) (sx_H K σ2 τ2)) : sx_G X K nL pc lv (.int x1 :: .ref (K.2.2.1 50 0 0) :: st) (sx_H K σ τ) :=
  sx_callVi (Q := Q) (As := [.int x1]) hX (c_Mo_isUp hK x1 σ τ Q  h) (kr_50 hK) rfl rfl lk_469 ls_68 hy_Mo_isUp lk_467 lk_364 lk_468 ⟨rfl, rfl⟩ hR hst rfl hd hpc kk
def y_Mo_areNear : MethodName := ⟨"SensorTreeModel", "areNear", "(II)Z"⟩
theorem hy_Mo_areNear : y_Mo_areNear.cls ≠ "java/lang/invoke/MethodHandle" ∧ y_Mo_areNear.cls ≠ "java/lang/invoke/VarHandle" ∧ (parseMethodDescriptor y_Mo_areNear.desc).map (fun d => d.parameters.length) = some 2 := by decide +kernel
theorem d_Mo_areNear_0 : decode prog_13_method_48_code 0 = .ok (.iload_n 1, 1) := by decide +kernel
theorem d_Mo_areNear_1 : decode prog_13_method_48_code 1 = .ok (.iload_n 2, 1) := by decide +kernel
theorem d_Mo_areNear_2 : decode prog_13_method_48_code 2 = .ok (.if_icmp .ne 7, 3) := by decide +kernel
theorem d_Mo_areNear_5 : decode prog_13_method_48_code 5 = .ok (.iconst (-1), 1) := by decide +kernel
theorem d_Mo_areNear_6 : decode prog_13_method_48_code 6 = .ok (.goto 22, 3) := by decide +kernel
theorem d_Mo_areNear_9 : decode prog_13_method_48_code 9 = .ok (.aload_n 0, 1) := by decide +kernel
theorem d_Mo_areNear_10 : decode prog_13_method_48_code 10 = .ok (.getfield 58, 3) := by decide +kernel
theorem d_Mo_areNear_13 : decode prog_13_method_48_code 13 = .ok (.bipush 49, 2) := by decide +kernel
theorem d_Mo_areNear_15 : decode prog_13_method_48_code 15 = .ok (.aload_n 0, 1) := by decide +kernel
theorem d_Mo_areNear_16 : decode prog_13_method_48_code 16 = .ok (.getfield 170, 3) := by decide +kernel
theorem d_Mo_areNear_19 : decode prog_13_method_48_code 19 = .ok (.imul, 1) := by decide +kernel
theorem d_Mo_areNear_20 : decode prog_13_method_48_code 20 = .ok (.bipush 7, 2) := by decide +kernel
theorem d_Mo_areNear_22 : decode prog_13_method_48_code 22 = .ok (.iload_n 1, 1) := by decide +kernel
theorem d_Mo_areNear_23 : decode prog_13_method_48_code 23 = .ok (.imul, 1) := by decide +kernel
theorem d_Mo_areNear_24 : decode prog_13_method_48_code 24 = .ok (.iadd, 1) := by decide +kernel
theorem d_Mo_areNear_25 : decode prog_13_method_48_code 25 = .ok (.iload_n 2, 1) := by decide +kernel
theorem d_Mo_areNear_26 : decode prog_13_method_48_code 26 = .ok (.iadd, 1) := by decide +kernel
theorem d_Mo_areNear_27 : decode prog_13_method_48_code 27 = .ok (.iaload, 1) := by decide +kernel
theorem d_Mo_areNear_28 : decode prog_13_method_48_code 28 = .ok (.istore_n 3, 1) := by decide +kernel
theorem d_Mo_areNear_29 : decode prog_13_method_48_code 29 = .ok (.iload_n 3, 1) := by decide +kernel
theorem d_Mo_areNear_30 : decode prog_13_method_48_code 30 = .ok (.ifCond .lt 31, 3) := by decide +kernel
theorem d_Mo_areNear_33 : decode prog_13_method_48_code 33 = .ok (.aload_n 0, 1) := by decide +kernel
theorem d_Mo_areNear_34 : decode prog_13_method_48_code 34 = .ok (.iload_n 3, 1) := by decide +kernel
theorem d_Mo_areNear_35 : decode prog_13_method_48_code 35 = .ok (.invokevirtual 249, 3) := by decide +kernel
theorem d_Mo_areNear_38 : decode prog_13_method_48_code 38 = .ok (.ifCond .eq 23, 3) := by decide +kernel
theorem d_Mo_areNear_41 : decode prog_13_method_48_code 41 = .ok (.aload_n 0, 1) := by decide +kernel
theorem d_Mo_areNear_42 : decode prog_13_method_48_code 42 = .ok (.iload_n 1, 1) := by decide +kernel
theorem d_Mo_areNear_43 : decode prog_13_method_48_code 43 = .ok (.invokevirtual 252, 3) := by decide +kernel
theorem d_Mo_areNear_46 : decode prog_13_method_48_code 46 = .ok (.ifCond .eq 15, 3) := by decide +kernel
theorem d_Mo_areNear_49 : decode prog_13_method_48_code 49 = .ok (.aload_n 0, 1) := by decide +kernel
theorem d_Mo_areNear_50 : decode prog_13_method_48_code 50 = .ok (.iload_n 2, 1) := by decide +kernel
theorem d_Mo_areNear_51 : decode prog_13_method_48_code 51 = .ok (.invokevirtual 252, 3) := by decide +kernel
theorem d_Mo_areNear_54 : decode prog_13_method_48_code 54 = .ok (.ifCond .eq 7, 3) := by decide +kernel
theorem d_Mo_areNear_57 : decode prog_13_method_48_code 57 = .ok (.iconst 1, 1) := by decide +kernel
theorem d_Mo_areNear_58 : decode prog_13_method_48_code 58 = .ok (.goto 4, 3) := by decide +kernel
theorem d_Mo_areNear_61 : decode prog_13_method_48_code 61 = .ok (.iconst 0, 1) := by decide +kernel
theorem d_Mo_areNear_62 : decode prog_13_method_48_code 62 = .ok (.ireturn, 1) := by decide +kernel
def wp_Mo_areNear_b62   (Q : Int32 → sx_M → sx_L → Prop) (w0 : Int32) (σ : sx_M) (τ : sx_L) : Prop := (w0 = 0 ∨ w0 = 1) ∧ (Q w0 σ τ)
def wp_Mo_areNear_b61   (Q : Int32 → sx_M → sx_L → Prop)  (σ : sx_M) (τ : sx_L) : Prop := wp_Mo_areNear_b62 Q 0 σ τ
def wp_Mo_areNear_b28   (Q : Int32 → sx_M → sx_L → Prop) (v1 : Int32) (v2 : Int32) (w0 : Int32) (σ : sx_M) (τ : sx_L) : Prop := if w0 < 0 then (wp_Mo_areNear_b61 Q σ τ) else (wp_Mo_isUp w0 σ τ (fun r3 σ3 τ3 => if r3 = 0 then (wp_Mo_areNear_b61 Q σ3 τ3) else (wp_Mo_isOn v1 σ3 τ3 (fun r5 σ5 τ5 => if r5 = 0 then (wp_Mo_areNear_b61 Q σ5 τ5) else (wp_Mo_isOn v2 σ5 τ5 (fun r7 σ7 τ7 => if r7 = 0 then (wp_Mo_areNear_b61 Q σ7 τ7) else (wp_Mo_areNear_b62 Q 1 σ7 τ7)))))))
def wp_Mo_areNear (x1 : Int32) (x2 : Int32) (σ : sx_M) (τ : sx_L) (Q : Int32 → sx_M → sx_L → Prop) : Prop := if x1 = x2 then (wp_Mo_areNear_b28 Q x1 x2 (-1) σ τ) else (vp_in (((49 * (σ 50 0 0 17)) + (7 * x1)) + x2) 98 ∧ (wp_Mo_areNear_b28 Q x1 x2 (σ 64 0 0 (((49 * (σ 50 0 0 17)) + (7 * x1)) + x2).toNatClampNeg) σ τ))
abbrev rm_Mo_areNear : Room := { frames := 1, cells := 0, slots := 0, locals := 21 }
set_option maxRecDepth 100000 in
set_option maxHeartbeats 4000000 in
theorem g_Mo_areNear_b62 {l : Launch} {K : sx_K} {X : sx_T}   {Q : Int32 → sx_M → sx_L → Prop} (hX : sx_C X K prog_13_method_48_code 4 "SensorTreeModel" (some .boolean) rm_Mo_areNear l) (hK : kx_F K) (hE : sx_E X K (sx_Qi K Q))  (w0 : Int32) (σ : sx_M) (τ : sx_L)  (h : wp_Mo_areNear_b62 Q  w0 σ τ) : sx_G X K 4 62 [] [.int w0] (sx_H K σ τ) := by
  unfold wp_Mo_areNear_b62 at h
  obtain ⟨hc1, h⟩ := h
  exact sx_zret hX hE hc1 h d_Mo_areNear_62
set_option maxRecDepth 100000 in
set_option maxHeartbeats 4000000 in
theorem g_Mo_areNear_b61 {l : Launch} {K : sx_K} {X : sx_T}   {Q : Int32 → sx_M → sx_L → Prop} (hX : sx_C X K prog_13_method_48_code 4 "SensorTreeModel" (some .boolean) rm_Mo_areNear l) (hK : kx_F K) (hE : sx_E X K (sx_Qi K Q))   (σ : sx_M) (τ : sx_L)  (h : wp_Mo_areNear_b61 Q  σ τ) : sx_G X K 4 61 [] [] (sx_H K σ τ) := by
  unfold wp_Mo_areNear_b61 at h
  refine sx_iconst (v := 0) (pc2 := 62) hX d_Mo_areNear_61 (by decide) rfl ?_
  exact g_Mo_areNear_b62 hX hK hE   0 _ _ h
set_option maxRecDepth 100000 in
set_option maxHeartbeats 4000000 in
theorem g_Mo_areNear_b28 {l : Launch} {K : sx_K} {X : sx_T}   {Q : Int32 → sx_M → sx_L → Prop} (hX : sx_C X K prog_13_method_48_code 4 "SensorTreeModel" (some .boolean) rm_Mo_areNear l) (hK : kx_F K) (hE : sx_E X K (sx_Qi K Q))  (v1 : Int32) (v2 : Int32) (w0 : Int32) (σ : sx_M) (τ : sx_L)  (h : wp_Mo_areNear_b28 Q  v1 v2 w0 σ τ) : sx_G X K 4 28 [(0, .ref (K.2.2.1 50 0 0)), (1, .int v1), (2, .int v2)] [.int w0] (sx_H K σ τ) := by
  unfold wp_Mo_areNear_b28 at h
  refine sx_istore_n (pc2 := 29) hX _ [(0, .ref (K.2.2.1 50 0 0)), (1, .int v1), (2, .int v2), (3, .int w0)] [1, 2, 3, 0] d_Mo_areNear_28 rfl (by decide) rfl rfl rfl ?_
  refine sx_iload_n (pc2 := 30) hX 3 d_Mo_areNear_29 rfl rfl rfl ?_
  refine sx_if_lt (tgt := 61) (pc2 := 33) hX d_Mo_areNear_30 (by decide) rfl (fun hc2 => ?_) (fun hc2 => ?_)
  · replace h := sx_t h hc2
    refine sx_sub [] [] rfl ?_
    exact g_Mo_areNear_b61 hX hK hE   _ _ h
  · replace h := sx_f h hc2
    refine sx_aload_n (pc2 := 34) hX 0 d_Mo_areNear_33 rfl rfl rfl ?_
    refine sx_iload_n (pc2 := 35) hX 3 d_Mo_areNear_34 rfl rfl rfl ?_
    refine cl_Mo_249 (pc2 := 38) hX hK h  ⟨Nat.le_of_ble_eq_true rfl, Nat.le_of_ble_eq_true rfl⟩ (Nat.le_of_ble_eq_true rfl) d_Mo_areNear_35 rfl (fun r3 σ3 τ3 h => ?_)
    refine sx_if_eq (tgt := 61) (pc2 := 41) hX d_Mo_areNear_38 (by decide) rfl (fun hc4 => ?_) (fun hc4 => ?_)
    · replace h := sx_t h hc4
      refine sx_sub [] [] rfl ?_
      exact g_Mo_areNear_b61 hX hK hE   _ _ h
    · replace h := sx_f h hc4
      refine sx_aload_n (pc2 := 42) hX 0 d_Mo_areNear_41 rfl rfl rfl ?_
      refine sx_iload_n (pc2 := 43) hX 1 d_Mo_areNear_42 rfl rfl rfl ?_
      refine cl_Mo_252 (pc2 := 46) hX hK h  ⟨Nat.le_of_ble_eq_true rfl, Nat.le_of_ble_eq_true rfl⟩ (Nat.le_of_ble_eq_true rfl) d_Mo_areNear_43 rfl (fun r5 σ5 τ5 h => ?_)
      refine sx_if_eq (tgt := 61) (pc2 := 49) hX d_Mo_areNear_46 (by decide) rfl (fun hc6 => ?_) (fun hc6 => ?_)
      · replace h := sx_t h hc6
        refine sx_sub [] [] rfl ?_
        exact g_Mo_areNear_b61 hX hK hE   _ _ h
      · replace h := sx_f h hc6
        refine sx_aload_n (pc2 := 50) hX 0 d_Mo_areNear_49 rfl rfl rfl ?_
        refine sx_iload_n (pc2 := 51) hX 2 d_Mo_areNear_50 rfl rfl rfl ?_
        refine cl_Mo_252 (pc2 := 54) hX hK h  ⟨Nat.le_of_ble_eq_true rfl, Nat.le_of_ble_eq_true rfl⟩ (Nat.le_of_ble_eq_true rfl) d_Mo_areNear_51 rfl (fun r7 σ7 τ7 h => ?_)
        refine sx_if_eq (tgt := 61) (pc2 := 57) hX d_Mo_areNear_54 (by decide) rfl (fun hc8 => ?_) (fun hc8 => ?_)
        · replace h := sx_t h hc8
          refine sx_sub [] [] rfl ?_
          exact g_Mo_areNear_b61 hX hK hE   _ _ h
        · replace h := sx_f h hc8
          refine sx_iconst (v := 1) (pc2 := 58) hX d_Mo_areNear_57 (by decide) rfl ?_
          refine sx_goto (tgt := 62) hX d_Mo_areNear_58 (by decide) ?_
          refine sx_sub [] [] rfl ?_
          exact g_Mo_areNear_b62 hX hK hE   1 _ _ h
set_option maxRecDepth 100000 in
set_option maxHeartbeats 4000000 in
theorem c_Mo_areNear {l : Launch} {K : sx_K} (hK : kx_F K) (x1 : Int32) (x2 : Int32) (σ : sx_M) (τ : sx_L) (Q : Int32 → sx_M → sx_L → Prop)  (h : wp_Mo_areNear x1 x2 σ τ Q) : Met l y_Mo_areNear (sx_wd y_Mo_areNear prog_13_method_48_code 4 (some .boolean)) rm_Mo_areNear (sx_Pc K [.ref (K.2.2.1 50 0 0), .int x1, .int x2] σ τ) (sx_Qi K Q) 0 0 (sx_A K) := by
  refine sx_met (by decide) (Nat.le_of_ble_eq_true rfl) (fun X hX hE => ?_)
  replace hX : sx_C X K prog_13_method_48_code 4 "SensorTreeModel" (some .boolean) rm_Mo_areNear l := hX
  show sx_G X K 4 0 [(0, .ref (K.2.2.1 50 0 0)), (1, .int x1), (2, .int x2)] [] (sx_H K σ τ)
  unfold wp_Mo_areNear at h
  refine sx_iload_n (pc2 := 1) hX 1 d_Mo_areNear_0 rfl rfl rfl ?_
  refine sx_iload_n (pc2 := 2) hX 2 d_Mo_areNear_1 rfl rfl rfl ?_
  refine sx_icmp_ne (tgt := 9) (pc2 := 5) hX d_Mo_areNear_2 (by decide) rfl (fun hc9 => ?_) (fun hc9 => ?_)
  · replace h := sx_f h hc9
    refine sx_aload_n (pc2 := 10) hX 0 d_Mo_areNear_9 rfl rfl rfl ?_
    refine fg_Mo_58 (pc2 := 13) hX (kr_50 hK) d_Mo_areNear_10 rfl ?_
    refine sx_bipush (v := 49) (pc2 := 15) hX d_Mo_areNear_13 (by decide) rfl ?_
    refine sx_aload_n (pc2 := 16) hX 0 d_Mo_areNear_15 rfl rfl rfl ?_
    refine fg_Mo_170 (pc2 := 19) hX (kr_50 hK) d_Mo_areNear_16 rfl ?_
    refine sx_imul (pc2 := 20) hX d_Mo_areNear_19 rfl ?_
    refine sx_bipush (v := 7) (pc2 := 22) hX d_Mo_areNear_20 (by decide) rfl ?_
    refine sx_iload_n (pc2 := 23) hX 1 d_Mo_areNear_22 rfl rfl rfl ?_
    refine sx_imul (pc2 := 24) hX d_Mo_areNear_23 rfl ?_
    refine sx_iadd (pc2 := 25) hX d_Mo_areNear_24 rfl ?_
    refine sx_iload_n (pc2 := 26) hX 2 d_Mo_areNear_25 rfl rfl rfl ?_
    refine sx_iadd (pc2 := 27) hX d_Mo_areNear_26 rfl ?_
    obtain ⟨hc10, h⟩ := h
    refine sx_iald (pc2 := 28) hX (kr_64 hK) rfl hc10 d_Mo_areNear_27 rfl ?_
    exact g_Mo_areNear_b28 hX hK hE   x1 x2 (σ 64 0 0 (((49 * (σ 50 0 0 17)) + (7 * x1)) + x2).toNatClampNeg) _ _ h
  · replace h := sx_t h hc9
    refine sx_iconst (v := (-1)) (pc2 := 6) hX d_Mo_areNear_5 (by decide) rfl ?_
    refine sx_goto (tgt := 28) hX d_Mo_areNear_6 (by decide) ?_
    exact g_Mo_areNear_b28 hX hK hE   x1 x2 (-1) _ _ h
theorem cl_Mo_258 {X : sx_T} {K : sx_K} {cc : ByteArray} {nL : Nat} {ret : Option FieldType} {rm : Room} {l : Launch} {pc pc2 : Nat} {lv : List (Nat × Value)} {st : List Value} {σ : sx_M} {τ : sx_L} {x1 : Int32} {x2 : Int32} {Q : Int32 → sx_M → sx_L → Prop} (hX : sx_C X K cc nL "SensorTreeModel" ret rm l) (hK : kx_F K) (h : wp_Mo_areNear x1 x2 σ τ Q)  (hR : rm_Mo_areNear.frames + 1 ≤ rm.frames ∧ 8 + (4 + 11) + rm_Mo_areNear.locals ≤ rm.locals) (hst : (st.map fun v => v.category).sum ≤ 8) (hd : decode cc pc = .ok (.invokevirtual 258, 3)) (hpc : pc + 3 = pc2) (kk : ∀ (r : Int32) (σ2 : sx_M) (τ2 : sx_L), Q r σ2 τ2 → sx_G X K nL pc2 lv (.int r :: st) (sx_H K σ2 τ2)) : sx_G X K nL pc lv (.int x2 :: .int x1 :: .ref (K.2.2.1 50 0 0) :: st) (sx_H K σ τ) :=
  sx_callVi (Q := Q) (As := [.int x1, .int x2]) hX (c_Mo_areNear hK x1 x2 σ τ Q  h) (kr_50 hK) rfl rfl lk_478 ls_67 hy_Mo_areNear lk_476 lk_364 lk_477 ⟨rfl, rfl⟩ hR hst rfl hd hpc kk
def y_Mo_stepOf : MethodName := ⟨"SensorTreeModel", "stepOf", "(I)I"⟩
theorem hy_Mo_stepOf : y_Mo_stepOf.cls ≠ "java/lang/invoke/MethodHandle" ∧ y_Mo_stepOf.cls ≠ "java/lang/invoke/VarHandle" ∧ (parseMethodDescriptor y_Mo_stepOf.desc).map (fun d => d.parameters.length) = some 1 := by decide +kernel
theorem d_Mo_stepOf_0 : decode prog_13_method_49_code 0 = .ok (.aload_n 0, 1) := by decide +kernel
theorem d_Mo_stepOf_1 : decode prog_13_method_49_code 1 = .ok (.getfield 61, 3) := by decide +kernel
theorem d_Mo_stepOf_4 : decode prog_13_method_49_code 4 = .ok (.aload_n 0, 1) := by decide +kernel
theorem d_Mo_stepOf_5 : decode prog_13_method_49_code 5 = .ok (.getfield 170, 3) := by decide +kernel
theorem d_Mo_stepOf_8 : decode prog_13_method_49_code 8 = .ok (.baload, 1) := by decide +kernel
theorem d_Mo_stepOf_9 : decode prog_13_method_49_code 9 = .ok (.ifCond .eq 18, 3) := by decide +kernel
theorem d_Mo_stepOf_12 : decode prog_13_method_49_code 12 = .ok (.bipush 10, 2) := by decide +kernel
theorem d_Mo_stepOf_14 : decode prog_13_method_49_code 14 = .ok (.aload_n 0, 1) := by decide +kernel
theorem d_Mo_stepOf_15 : decode prog_13_method_49_code 15 = .ok (.getfield 71, 3) := by decide +kernel
theorem d_Mo_stepOf_18 : decode prog_13_method_49_code 18 = .ok (.bipush 10, 2) := by decide +kernel
theorem d_Mo_stepOf_20 : decode prog_13_method_49_code 20 = .ok (.iload_n 1, 1) := by decide +kernel
theorem d_Mo_stepOf_21 : decode prog_13_method_49_code 21 = .ok (.iadd, 1) := by decide +kernel
theorem d_Mo_stepOf_22 : decode prog_13_method_49_code 22 = .ok (.iaload, 1) := by decide +kernel
theorem d_Mo_stepOf_23 : decode prog_13_method_49_code 23 = .ok (.imul, 1) := by decide +kernel
theorem d_Mo_stepOf_24 : decode prog_13_method_49_code 24 = .ok (.goto 5, 3) := by decide +kernel
theorem d_Mo_stepOf_27 : decode prog_13_method_49_code 27 = .ok (.bipush 10, 2) := by decide +kernel
theorem d_Mo_stepOf_29 : decode prog_13_method_49_code 29 = .ok (.ireturn, 1) := by decide +kernel
def wp_Mo_stepOf_b29   (Q : Int32 → sx_M → sx_L → Prop) (w0 : Int32) (σ : sx_M) (τ : sx_L) : Prop := Q w0 σ τ
def wp_Mo_stepOf (x1 : Int32) (σ : sx_M) (τ : sx_L) (Q : Int32 → sx_M → sx_L → Prop) : Prop := vp_in (σ 50 0 0 17) 2 ∧ (if σ 65 0 0 (σ 50 0 0 17).toNatClampNeg = 0 then (wp_Mo_stepOf_b29 Q 10 σ τ) else (vp_in (10 + x1) 643 ∧ (wp_Mo_stepOf_b29 Q (10 * (σ 68 0 0 (10 + x1).toNatClampNeg)) σ τ)))
abbrev rm_Mo_stepOf : Room := { frames := 0, cells := 0, slots := 0, locals := 0 }
set_option maxRecDepth 100000 in
set_option maxHeartbeats 4000000 in
theorem g_Mo_stepOf_b29 {l : Launch} {K : sx_K} {X : sx_T}   {Q : Int32 → sx_M → sx_L → Prop} (hX : sx_C X K prog_13_method_49_code 2 "SensorTreeModel" (some .int) rm_Mo_stepOf l) (hK : kx_F K) (hE : sx_E X K (sx_Qi K Q))  (w0 : Int32) (σ : sx_M) (τ : sx_L)  (h : wp_Mo_stepOf_b29 Q  w0 σ τ) : sx_G X K 2 29 [] [.int w0] (sx_H K σ τ) := by
  unfold wp_Mo_stepOf_b29 at h
  exact sx_iret hX hE h d_Mo_stepOf_29
set_option maxRecDepth 100000 in
set_option maxHeartbeats 4000000 in
theorem c_Mo_stepOf {l : Launch} {K : sx_K} (hK : kx_F K) (x1 : Int32) (σ : sx_M) (τ : sx_L) (Q : Int32 → sx_M → sx_L → Prop)  (h : wp_Mo_stepOf x1 σ τ Q) : Met l y_Mo_stepOf (sx_wd y_Mo_stepOf prog_13_method_49_code 2 (some .int)) rm_Mo_stepOf (sx_Pc K [.ref (K.2.2.1 50 0 0), .int x1] σ τ) (sx_Qi K Q) 0 0 (sx_A K) := by
  refine sx_met (by decide) (Nat.le_of_ble_eq_true rfl) (fun X hX hE => ?_)
  replace hX : sx_C X K prog_13_method_49_code 2 "SensorTreeModel" (some .int) rm_Mo_stepOf l := hX
  show sx_G X K 2 0 [(0, .ref (K.2.2.1 50 0 0)), (1, .int x1)] [] (sx_H K σ τ)
  unfold wp_Mo_stepOf at h
  refine sx_aload_n (pc2 := 1) hX 0 d_Mo_stepOf_0 rfl rfl rfl ?_
  refine fg_Mo_61 (pc2 := 4) hX (kr_50 hK) d_Mo_stepOf_1 rfl ?_
  refine sx_aload_n (pc2 := 5) hX 0 d_Mo_stepOf_4 rfl rfl rfl ?_
  refine fg_Mo_170 (pc2 := 8) hX (kr_50 hK) d_Mo_stepOf_5 rfl ?_
  obtain ⟨hc1, h⟩ := h
  refine sx_zald (pc2 := 9) hX (kr_65 hK) rfl hc1 d_Mo_stepOf_8 rfl ?_
  refine sx_if_eq (tgt := 27) (pc2 := 12) hX d_Mo_stepOf_9 (by decide) rfl (fun hc2 => ?_) (fun hc2 => ?_)
  · replace h := sx_t h hc2
    refine sx_bipush (v := 10) (pc2 := 29) hX d_Mo_stepOf_27 (by decide) rfl ?_
    refine sx_sub [] [] rfl ?_
    exact g_Mo_stepOf_b29 hX hK hE   10 _ _ h
  · replace h := sx_f h hc2
    refine sx_bipush (v := 10) (pc2 := 14) hX d_Mo_stepOf_12 (by decide) rfl ?_
    refine sx_aload_n (pc2 := 15) hX 0 d_Mo_stepOf_14 rfl rfl rfl ?_
    refine fg_Mo_71 (pc2 := 18) hX (kr_50 hK) d_Mo_stepOf_15 rfl ?_
    refine sx_bipush (v := 10) (pc2 := 20) hX d_Mo_stepOf_18 (by decide) rfl ?_
    refine sx_iload_n (pc2 := 21) hX 1 d_Mo_stepOf_20 rfl rfl rfl ?_
    refine sx_iadd (pc2 := 22) hX d_Mo_stepOf_21 rfl ?_
    obtain ⟨hc3, h⟩ := h
    refine sx_iald (pc2 := 23) hX (kr_68 hK) rfl hc3 d_Mo_stepOf_22 rfl ?_
    refine sx_imul (pc2 := 24) hX d_Mo_stepOf_23 rfl ?_
    refine sx_goto (tgt := 29) hX d_Mo_stepOf_24 (by decide) ?_
    refine sx_sub [] [] rfl ?_
    exact g_Mo_stepOf_b29 hX hK hE   (10 * (σ 68 0 0 (10 + x1).toNatClampNeg)) _ _ h
theorem cl_Mo_255 {X : sx_T} {K : sx_K} {cc : ByteArray} {nL : Nat} {ret : Option FieldType} {rm : Room} {l : Launch} {pc pc2 : Nat} {lv : List (Nat × Value)} {st : List Value} {σ : sx_M} {τ : sx_L} {x1 : Int32} {Q : Int32 → sx_M → sx_L → Prop} (hX : sx_C X K cc nL "SensorTreeModel" ret rm l) (hK : kx_F K) (h : wp_Mo_stepOf x1 σ τ Q)  (hR : rm_Mo_stepOf.frames + 1 ≤ rm.frames ∧ 8 + (2 + 11) + rm_Mo_stepOf.locals ≤ rm.locals) (hst : (st.map fun v => v.category).sum ≤ 8) (hd : decode cc pc = .ok (.invokevirtual 255, 3)) (hpc : pc + 3 = pc2) (kk : ∀ (r : Int32) (σ2 : sx_M) (τ2 : sx_L), Q r σ2 τ2 → sx_G X K nL pc2 lv (.int r :: st) (sx_H K σ2 τ2)) : sx_G X K nL pc lv (.int x1 :: .ref (K.2.2.1 50 0 0) :: st) (sx_H K σ τ) :=
  sx_callVi (Q := Q) (As := [.int x1]) hX (c_Mo_stepOf hK x1 σ τ Q  h) (kr_50 hK) rfl rfl lk_475 ls_77 hy_Mo_stepOf lk_473 lk_364 lk_474 ⟨rfl, rfl⟩ hR hst rfl hd hpc kk
def y_Mo_stepTo : MethodName := ⟨"SensorTreeModel", "stepTo", "(II)I"⟩
theorem hy_Mo_stepTo : y_Mo_stepTo.cls ≠ "java/lang/invoke/MethodHandle" ∧ y_Mo_stepTo.cls ≠ "java/lang/invoke/VarHandle" ∧ (parseMethodDescriptor y_Mo_stepTo.desc).map (fun d => d.parameters.length) = some 2 := by decide +kernel
theorem d_Mo_stepTo_0 : decode prog_13_method_50_code 0 = .ok (.aload_n 0, 1) := by decide +kernel
theorem d_Mo_stepTo_1 : decode prog_13_method_50_code 1 = .ok (.aload_n 0, 1) := by decide +kernel
theorem d_Mo_stepTo_2 : decode prog_13_method_50_code 2 = .ok (.getfield 58, 3) := by decide +kernel
theorem d_Mo_stepTo_5 : decode prog_13_method_50_code 5 = .ok (.bipush 49, 2) := by decide +kernel
theorem d_Mo_stepTo_7 : decode prog_13_method_50_code 7 = .ok (.aload_n 0, 1) := by decide +kernel
theorem d_Mo_stepTo_8 : decode prog_13_method_50_code 8 = .ok (.getfield 170, 3) := by decide +kernel
theorem d_Mo_stepTo_11 : decode prog_13_method_50_code 11 = .ok (.imul, 1) := by decide +kernel
theorem d_Mo_stepTo_12 : decode prog_13_method_50_code 12 = .ok (.bipush 7, 2) := by decide +kernel
theorem d_Mo_stepTo_14 : decode prog_13_method_50_code 14 = .ok (.iload_n 1, 1) := by decide +kernel
theorem d_Mo_stepTo_15 : decode prog_13_method_50_code 15 = .ok (.imul, 1) := by decide +kernel
theorem d_Mo_stepTo_16 : decode prog_13_method_50_code 16 = .ok (.iadd, 1) := by decide +kernel
theorem d_Mo_stepTo_17 : decode prog_13_method_50_code 17 = .ok (.iload_n 2, 1) := by decide +kernel
theorem d_Mo_stepTo_18 : decode prog_13_method_50_code 18 = .ok (.iadd, 1) := by decide +kernel
theorem d_Mo_stepTo_19 : decode prog_13_method_50_code 19 = .ok (.iaload, 1) := by decide +kernel
theorem d_Mo_stepTo_20 : decode prog_13_method_50_code 20 = .ok (.invokevirtual 255, 3) := by decide +kernel
theorem d_Mo_stepTo_23 : decode prog_13_method_50_code 23 = .ok (.ireturn, 1) := by decide +kernel
def wp_Mo_stepTo (x1 : Int32) (x2 : Int32) (σ : sx_M) (τ : sx_L) (Q : Int32 → sx_M → sx_L → Prop) : Prop := vp_in (((49 * (σ 50 0 0 17)) + (7 * x1)) + x2) 98 ∧ (wp_Mo_stepOf (σ 64 0 0 (((49 * (σ 50 0 0 17)) + (7 * x1)) + x2).toNatClampNeg) σ τ (fun r2 σ2 τ2 => Q r2 σ2 τ2))
abbrev rm_Mo_stepTo : Room := { frames := 1, cells := 0, slots := 0, locals := 21 }
set_option maxRecDepth 100000 in
set_option maxHeartbeats 4000000 in
theorem c_Mo_stepTo {l : Launch} {K : sx_K} (hK : kx_F K) (x1 : Int32) (x2 : Int32) (σ : sx_M) (τ : sx_L) (Q : Int32 → sx_M → sx_L → Prop)  (h : wp_Mo_stepTo x1 x2 σ τ Q) : Met l y_Mo_stepTo (sx_wd y_Mo_stepTo prog_13_method_50_code 3 (some .int)) rm_Mo_stepTo (sx_Pc K [.ref (K.2.2.1 50 0 0), .int x1, .int x2] σ τ) (sx_Qi K Q) 0 0 (sx_A K) := by
  refine sx_met (by decide) (Nat.le_of_ble_eq_true rfl) (fun X hX hE => ?_)
  replace hX : sx_C X K prog_13_method_50_code 3 "SensorTreeModel" (some .int) rm_Mo_stepTo l := hX
  show sx_G X K 3 0 [(0, .ref (K.2.2.1 50 0 0)), (1, .int x1), (2, .int x2)] [] (sx_H K σ τ)
  unfold wp_Mo_stepTo at h
  refine sx_aload_n (pc2 := 1) hX 0 d_Mo_stepTo_0 rfl rfl rfl ?_
  refine sx_aload_n (pc2 := 2) hX 0 d_Mo_stepTo_1 rfl rfl rfl ?_
  refine fg_Mo_58 (pc2 := 5) hX (kr_50 hK) d_Mo_stepTo_2 rfl ?_
  refine sx_bipush (v := 49) (pc2 := 7) hX d_Mo_stepTo_5 (by decide) rfl ?_
  refine sx_aload_n (pc2 := 8) hX 0 d_Mo_stepTo_7 rfl rfl rfl ?_
  refine fg_Mo_170 (pc2 := 11) hX (kr_50 hK) d_Mo_stepTo_8 rfl ?_
  refine sx_imul (pc2 := 12) hX d_Mo_stepTo_11 rfl ?_
  refine sx_bipush (v := 7) (pc2 := 14) hX d_Mo_stepTo_12 (by decide) rfl ?_
  refine sx_iload_n (pc2 := 15) hX 1 d_Mo_stepTo_14 rfl rfl rfl ?_
  refine sx_imul (pc2 := 16) hX d_Mo_stepTo_15 rfl ?_
  refine sx_iadd (pc2 := 17) hX d_Mo_stepTo_16 rfl ?_
  refine sx_iload_n (pc2 := 18) hX 2 d_Mo_stepTo_17 rfl rfl rfl ?_
  refine sx_iadd (pc2 := 19) hX d_Mo_stepTo_18 rfl ?_
  obtain ⟨hc1, h⟩ := h
  refine sx_iald (pc2 := 20) hX (kr_64 hK) rfl hc1 d_Mo_stepTo_19 rfl ?_
  refine cl_Mo_255 (pc2 := 23) hX hK h  ⟨Nat.le_of_ble_eq_true rfl, Nat.le_of_ble_eq_true rfl⟩ (Nat.le_of_ble_eq_true rfl) d_Mo_stepTo_20 rfl (fun r2 σ2 τ2 h => ?_)
  exact sx_iret hX hE h d_Mo_stepTo_23
theorem cl_Mo_284 {X : sx_T} {K : sx_K} {cc : ByteArray} {nL : Nat} {ret : Option FieldType} {rm : Room} {l : Launch} {pc pc2 : Nat} {lv : List (Nat × Value)} {st : List Value} {σ : sx_M} {τ : sx_L} {x1 : Int32} {x2 : Int32} {Q : Int32 → sx_M → sx_L → Prop} (hX : sx_C X K cc nL "SensorTreeModel" ret rm l) (hK : kx_F K) (h : wp_Mo_stepTo x1 x2 σ τ Q)  (hR : rm_Mo_stepTo.frames + 1 ≤ rm.frames ∧ 8 + (3 + 11) + rm_Mo_stepTo.locals ≤ rm.locals) (hst : (st.map fun v => v.category).sum ≤ 8) (hd : decode cc pc = .ok (.invokevirtual 284, 3)) (hpc : pc + 3 = pc2) (kk : ∀ (r : Int32) (σ2 : sx_M) (τ2 : sx_L), Q r σ2 τ2 → sx_G X K nL pc2 lv (.int r :: st) (sx_H K σ2 τ2)) : sx_G X K nL pc lv (.int x2 :: .int x1 :: .ref (K.2.2.1 50 0 0) :: st) (sx_H K σ τ) :=
  sx_callVi (Q := Q) (As := [.int x1, .int x2]) hX (c_Mo_stepTo hK x1 x2 σ τ Q  h) (kr_50 hK) rfl rfl lk_481 ls_76 hy_Mo_stepTo lk_479 lk_364 lk_480 ⟨rfl, rfl⟩ hR hst rfl hd hpc kk
def y_Mo_puts : MethodName := ⟨"SensorTreeModel", "puts", "(IIIIIII)V"⟩
theorem hy_Mo_puts : y_Mo_puts.cls ≠ "java/lang/invoke/MethodHandle" ∧ y_Mo_puts.cls ≠ "java/lang/invoke/VarHandle" ∧ (parseMethodDescriptor y_Mo_puts.desc).map (fun d => d.parameters.length) = some 7 := by decide +kernel
theorem d_Mo_puts_0 : decode prog_13_method_51_code 0 = .ok (.aload_n 0, 1) := by decide +kernel
theorem d_Mo_puts_1 : decode prog_13_method_51_code 1 = .ok (.getfield 71, 3) := by decide +kernel
theorem d_Mo_puts_4 : decode prog_13_method_51_code 4 = .ok (.bipush 7, 2) := by decide +kernel
theorem d_Mo_puts_6 : decode prog_13_method_51_code 6 = .ok (.iaload, 1) := by decide +kernel
theorem d_Mo_puts_7 : decode prog_13_method_51_code 7 = .ok (.istore 8, 2) := by decide +kernel
theorem d_Mo_puts_9 : decode prog_13_method_51_code 9 = .ok (.iload 8, 2) := by decide +kernel
theorem d_Mo_puts_11 : decode prog_13_method_51_code 11 = .ok (.sipush 200, 3) := by decide +kernel
theorem d_Mo_puts_14 : decode prog_13_method_51_code 14 = .ok (.if_icmp .ne 4, 3) := by decide +kernel
theorem d_Mo_puts_17 : decode prog_13_method_51_code 17 = .ok (.return_, 1) := by decide +kernel
theorem d_Mo_puts_18 : decode prog_13_method_51_code 18 = .ok (.aload_n 0, 1) := by decide +kernel
theorem d_Mo_puts_19 : decode prog_13_method_51_code 19 = .ok (.getfield 71, 3) := by decide +kernel
theorem d_Mo_puts_22 : decode prog_13_method_51_code 22 = .ok (.sipush 243, 3) := by decide +kernel
theorem d_Mo_puts_25 : decode prog_13_method_51_code 25 = .ok (.iconst 2, 1) := by decide +kernel
theorem d_Mo_puts_26 : decode prog_13_method_51_code 26 = .ok (.iload 8, 2) := by decide +kernel
theorem d_Mo_puts_28 : decode prog_13_method_51_code 28 = .ok (.imul, 1) := by decide +kernel
theorem d_Mo_puts_29 : decode prog_13_method_51_code 29 = .ok (.iadd, 1) := by decide +kernel
theorem d_Mo_puts_30 : decode prog_13_method_51_code 30 = .ok (.iload_n 1, 1) := by decide +kernel
theorem d_Mo_puts_31 : decode prog_13_method_51_code 31 = .ok (.iload_n 2, 1) := by decide +kernel
theorem d_Mo_puts_32 : decode prog_13_method_51_code 32 = .ok (.iconst 2, 1) := by decide +kernel
theorem d_Mo_puts_33 : decode prog_13_method_51_code 33 = .ok (.ishl, 1) := by decide +kernel
theorem d_Mo_puts_34 : decode prog_13_method_51_code 34 = .ok (.ior, 1) := by decide +kernel
theorem d_Mo_puts_35 : decode prog_13_method_51_code 35 = .ok (.iload_n 3, 1) := by decide +kernel
theorem d_Mo_puts_36 : decode prog_13_method_51_code 36 = .ok (.iconst 5, 1) := by decide +kernel
theorem d_Mo_puts_37 : decode prog_13_method_51_code 37 = .ok (.ishl, 1) := by decide +kernel
theorem d_Mo_puts_38 : decode prog_13_method_51_code 38 = .ok (.ior, 1) := by decide +kernel
theorem d_Mo_puts_39 : decode prog_13_method_51_code 39 = .ok (.iload 4, 2) := by decide +kernel
theorem d_Mo_puts_41 : decode prog_13_method_51_code 41 = .ok (.bipush 8, 2) := by decide +kernel
theorem d_Mo_puts_43 : decode prog_13_method_51_code 43 = .ok (.ishl, 1) := by decide +kernel
theorem d_Mo_puts_44 : decode prog_13_method_51_code 44 = .ok (.ior, 1) := by decide +kernel
theorem d_Mo_puts_45 : decode prog_13_method_51_code 45 = .ok (.iload 5, 2) := by decide +kernel
theorem d_Mo_puts_47 : decode prog_13_method_51_code 47 = .ok (.bipush 11, 2) := by decide +kernel
theorem d_Mo_puts_49 : decode prog_13_method_51_code 49 = .ok (.ishl, 1) := by decide +kernel
theorem d_Mo_puts_50 : decode prog_13_method_51_code 50 = .ok (.ior, 1) := by decide +kernel
theorem d_Mo_puts_51 : decode prog_13_method_51_code 51 = .ok (.iload 6, 2) := by decide +kernel
theorem d_Mo_puts_53 : decode prog_13_method_51_code 53 = .ok (.bipush 16, 2) := by decide +kernel
theorem d_Mo_puts_55 : decode prog_13_method_51_code 55 = .ok (.ishl, 1) := by decide +kernel
theorem d_Mo_puts_56 : decode prog_13_method_51_code 56 = .ok (.ior, 1) := by decide +kernel
theorem d_Mo_puts_57 : decode prog_13_method_51_code 57 = .ok (.iastore, 1) := by decide +kernel
theorem d_Mo_puts_58 : decode prog_13_method_51_code 58 = .ok (.aload_n 0, 1) := by decide +kernel
theorem d_Mo_puts_59 : decode prog_13_method_51_code 59 = .ok (.getfield 71, 3) := by decide +kernel
theorem d_Mo_puts_62 : decode prog_13_method_51_code 62 = .ok (.sipush 243, 3) := by decide +kernel
theorem d_Mo_puts_65 : decode prog_13_method_51_code 65 = .ok (.iconst 2, 1) := by decide +kernel
theorem d_Mo_puts_66 : decode prog_13_method_51_code 66 = .ok (.iload 8, 2) := by decide +kernel
theorem d_Mo_puts_68 : decode prog_13_method_51_code 68 = .ok (.imul, 1) := by decide +kernel
theorem d_Mo_puts_69 : decode prog_13_method_51_code 69 = .ok (.iadd, 1) := by decide +kernel
theorem d_Mo_puts_70 : decode prog_13_method_51_code 70 = .ok (.iconst 1, 1) := by decide +kernel
theorem d_Mo_puts_71 : decode prog_13_method_51_code 71 = .ok (.iadd, 1) := by decide +kernel
theorem d_Mo_puts_72 : decode prog_13_method_51_code 72 = .ok (.iload 7, 2) := by decide +kernel
theorem d_Mo_puts_74 : decode prog_13_method_51_code 74 = .ok (.iastore, 1) := by decide +kernel
theorem d_Mo_puts_75 : decode prog_13_method_51_code 75 = .ok (.aload_n 0, 1) := by decide +kernel
theorem d_Mo_puts_76 : decode prog_13_method_51_code 76 = .ok (.getfield 71, 3) := by decide +kernel
theorem d_Mo_puts_79 : decode prog_13_method_51_code 79 = .ok (.bipush 7, 2) := by decide +kernel
theorem d_Mo_puts_81 : decode prog_13_method_51_code 81 = .ok (.iload 8, 2) := by decide +kernel
theorem d_Mo_puts_83 : decode prog_13_method_51_code 83 = .ok (.iconst 1, 1) := by decide +kernel
theorem d_Mo_puts_84 : decode prog_13_method_51_code 84 = .ok (.iadd, 1) := by decide +kernel
theorem d_Mo_puts_85 : decode prog_13_method_51_code 85 = .ok (.iastore, 1) := by decide +kernel
theorem d_Mo_puts_86 : decode prog_13_method_51_code 86 = .ok (.aload_n 0, 1) := by decide +kernel
theorem d_Mo_puts_87 : decode prog_13_method_51_code 87 = .ok (.getfield 71, 3) := by decide +kernel
theorem d_Mo_puts_90 : decode prog_13_method_51_code 90 = .ok (.iconst 1, 1) := by decide +kernel
theorem d_Mo_puts_91 : decode prog_13_method_51_code 91 = .ok (.iload_n 1, 1) := by decide +kernel
theorem d_Mo_puts_92 : decode prog_13_method_51_code 92 = .ok (.iadd, 1) := by decide +kernel
theorem d_Mo_puts_93 : decode prog_13_method_51_code 93 = .ok (.dup2, 1) := by decide +kernel
theorem d_Mo_puts_94 : decode prog_13_method_51_code 94 = .ok (.iaload, 1) := by decide +kernel
theorem d_Mo_puts_95 : decode prog_13_method_51_code 95 = .ok (.iconst 1, 1) := by decide +kernel
theorem d_Mo_puts_96 : decode prog_13_method_51_code 96 = .ok (.iadd, 1) := by decide +kernel
theorem d_Mo_puts_97 : decode prog_13_method_51_code 97 = .ok (.iastore, 1) := by decide +kernel
theorem d_Mo_puts_98 : decode prog_13_method_51_code 98 = .ok (.return_, 1) := by decide +kernel
def wp_Mo_puts (x1 : Int32) (x2 : Int32) (x3 : Int32) (x4 : Int32) (x5 : Int32) (x6 : Int32) (x7 : Int32) (σ : sx_M) (τ : sx_L) (Q : sx_M → sx_L → Prop) : Prop := vp_in 7 643 ∧ (if σ 68 0 0 (7 : Int32).toNatClampNeg = 200 then (Q σ τ) else (vp_in (243 + (2 * (σ 68 0 0 (7 : Int32).toNatClampNeg))) 643 ∧ (∀ σ4 : sx_M, σ4 = sx_u σ 68 0 0 (243 + (2 * (σ 68 0 0 (7 : Int32).toNatClampNeg))).toNatClampNeg (((((x1 ||| (x2 <<< (2 &&& 31))) ||| (x3 <<< (5 &&& 31))) ||| (x4 <<< (8 &&& 31))) ||| (x5 <<< (11 &&& 31))) ||| (x6 <<< (16 &&& 31))) → (vp_in ((243 + (2 * (σ 68 0 0 (7 : Int32).toNatClampNeg))) + 1) 643 ∧ (∀ σ6 : sx_M, σ6 = sx_u σ4 68 0 0 ((243 + (2 * (σ 68 0 0 (7 : Int32).toNatClampNeg))) + 1).toNatClampNeg x7 → (vp_in 7 643 ∧ (∀ σ8 : sx_M, σ8 = sx_u σ6 68 0 0 (7 : Int32).toNatClampNeg ((σ 68 0 0 (7 : Int32).toNatClampNeg) + 1) → (vp_in (1 + x1) 643 ∧ (vp_in (1 + x1) 643 ∧ (∀ σ11 : sx_M, σ11 = sx_u σ8 68 0 0 (1 + x1).toNatClampNeg ((σ8 68 0 0 (1 + x1).toNatClampNeg) + 1) → (Q σ11 τ)))))))))))
abbrev rm_Mo_puts : Room := { frames := 0, cells := 0, slots := 0, locals := 0 }
set_option maxRecDepth 100000 in
set_option maxHeartbeats 4000000 in
theorem c_Mo_puts {l : Launch} {K : sx_K} (hK : kx_F K) (x1 : Int32) (x2 : Int32) (x3 : Int32) (x4 : Int32) (x5 : Int32) (x6 : Int32) (x7 : Int32) (σ : sx_M) (τ : sx_L) (Q : sx_M → sx_L → Prop)  (h : wp_Mo_puts x1 x2 x3 x4 x5 x6 x7 σ τ Q) : Met l y_Mo_puts (sx_wd y_Mo_puts prog_13_method_51_code 9 none) rm_Mo_puts (sx_Pc K [.ref (K.2.2.1 50 0 0), .int x1, .int x2, .int x3, .int x4, .int x5, .int x6, .int x7] σ τ) (sx_Qv K Q) 0 0 (sx_A K) := by
  refine sx_met (by decide) (Nat.le_of_ble_eq_true rfl) (fun X hX hE => ?_)
  replace hX : sx_C X K prog_13_method_51_code 9 "SensorTreeModel" none rm_Mo_puts l := hX
  show sx_G X K 9 0 [(0, .ref (K.2.2.1 50 0 0)), (1, .int x1), (2, .int x2), (3, .int x3), (4, .int x4), (5, .int x5), (6, .int x6), (7, .int x7)] [] (sx_H K σ τ)
  unfold wp_Mo_puts at h
  refine sx_aload_n (pc2 := 1) hX 0 d_Mo_puts_0 rfl rfl rfl ?_
  refine fg_Mo_71 (pc2 := 4) hX (kr_50 hK) d_Mo_puts_1 rfl ?_
  refine sx_bipush (v := 7) (pc2 := 6) hX d_Mo_puts_4 (by decide) rfl ?_
  obtain ⟨hc1, h⟩ := h
  refine sx_iald (pc2 := 7) hX (kr_68 hK) rfl hc1 d_Mo_puts_6 rfl ?_
  refine sx_istore (pc2 := 9) hX _ [(0, .ref (K.2.2.1 50 0 0)), (1, .int x1), (2, .int x2), (3, .int x3), (4, .int x4), (5, .int x5), (6, .int x6), (7, .int x7), (8, .int (σ 68 0 0 (7 : Int32).toNatClampNeg))] [1, 2, 3, 4, 5, 6, 7, 8, 0] d_Mo_puts_7 (by decide) rfl rfl rfl ?_
  refine sx_iload (pc2 := 11) hX 8 d_Mo_puts_9 rfl rfl ?_
  refine sx_sipush (v := 200) (pc2 := 14) hX d_Mo_puts_11 (by decide) rfl ?_
  refine sx_icmp_ne (tgt := 18) (pc2 := 17) hX d_Mo_puts_14 (by decide) rfl (fun hc2 => ?_) (fun hc2 => ?_)
  · replace h := sx_f h hc2
    refine sx_aload_n (pc2 := 19) hX 0 d_Mo_puts_18 rfl rfl rfl ?_
    refine fg_Mo_71 (pc2 := 22) hX (kr_50 hK) d_Mo_puts_19 rfl ?_
    refine sx_sipush (v := 243) (pc2 := 25) hX d_Mo_puts_22 (by decide) rfl ?_
    refine sx_iconst (v := 2) (pc2 := 26) hX d_Mo_puts_25 (by decide) rfl ?_
    refine sx_iload (pc2 := 28) hX 8 d_Mo_puts_26 rfl rfl ?_
    refine sx_imul (pc2 := 29) hX d_Mo_puts_28 rfl ?_
    refine sx_iadd (pc2 := 30) hX d_Mo_puts_29 rfl ?_
    refine sx_iload_n (pc2 := 31) hX 1 d_Mo_puts_30 rfl rfl rfl ?_
    refine sx_iload_n (pc2 := 32) hX 2 d_Mo_puts_31 rfl rfl rfl ?_
    refine sx_iconst (v := 2) (pc2 := 33) hX d_Mo_puts_32 (by decide) rfl ?_
    refine sx_ishl (pc2 := 34) hX d_Mo_puts_33 rfl ?_
    refine sx_ior (pc2 := 35) hX d_Mo_puts_34 rfl ?_
    refine sx_iload_n (pc2 := 36) hX 3 d_Mo_puts_35 rfl rfl rfl ?_
    refine sx_iconst (v := 5) (pc2 := 37) hX d_Mo_puts_36 (by decide) rfl ?_
    refine sx_ishl (pc2 := 38) hX d_Mo_puts_37 rfl ?_
    refine sx_ior (pc2 := 39) hX d_Mo_puts_38 rfl ?_
    refine sx_iload (pc2 := 41) hX 4 d_Mo_puts_39 rfl rfl ?_
    refine sx_bipush (v := 8) (pc2 := 43) hX d_Mo_puts_41 (by decide) rfl ?_
    refine sx_ishl (pc2 := 44) hX d_Mo_puts_43 rfl ?_
    refine sx_ior (pc2 := 45) hX d_Mo_puts_44 rfl ?_
    refine sx_iload (pc2 := 47) hX 5 d_Mo_puts_45 rfl rfl ?_
    refine sx_bipush (v := 11) (pc2 := 49) hX d_Mo_puts_47 (by decide) rfl ?_
    refine sx_ishl (pc2 := 50) hX d_Mo_puts_49 rfl ?_
    refine sx_ior (pc2 := 51) hX d_Mo_puts_50 rfl ?_
    refine sx_iload (pc2 := 53) hX 6 d_Mo_puts_51 rfl rfl ?_
    refine sx_bipush (v := 16) (pc2 := 55) hX d_Mo_puts_53 (by decide) rfl ?_
    refine sx_ishl (pc2 := 56) hX d_Mo_puts_55 rfl ?_
    refine sx_ior (pc2 := 57) hX d_Mo_puts_56 rfl ?_
    obtain ⟨hc3, h⟩ := h
    refine sx_iast (pc2 := 58) hX (kr_68 hK) (fun _ => rfl) hc3 d_Mo_puts_57 rfl ?_
    refine sx_nm (fun σ4 e4 => ?_)
    replace h := h σ4 e4
    refine sx_aload_n (pc2 := 59) hX 0 d_Mo_puts_58 rfl rfl rfl ?_
    refine fg_Mo_71 (pc2 := 62) hX (kr_50 hK) d_Mo_puts_59 rfl ?_
    refine sx_sipush (v := 243) (pc2 := 65) hX d_Mo_puts_62 (by decide) rfl ?_
    refine sx_iconst (v := 2) (pc2 := 66) hX d_Mo_puts_65 (by decide) rfl ?_
    refine sx_iload (pc2 := 68) hX 8 d_Mo_puts_66 rfl rfl ?_
    refine sx_imul (pc2 := 69) hX d_Mo_puts_68 rfl ?_
    refine sx_iadd (pc2 := 70) hX d_Mo_puts_69 rfl ?_
    refine sx_iconst (v := 1) (pc2 := 71) hX d_Mo_puts_70 (by decide) rfl ?_
    refine sx_iadd (pc2 := 72) hX d_Mo_puts_71 rfl ?_
    refine sx_iload (pc2 := 74) hX 7 d_Mo_puts_72 rfl rfl ?_
    obtain ⟨hc5, h⟩ := h
    refine sx_iast (pc2 := 75) hX (kr_68 hK) (fun _ => rfl) hc5 d_Mo_puts_74 rfl ?_
    refine sx_nm (fun σ6 e6 => ?_)
    replace h := h σ6 e6
    refine sx_aload_n (pc2 := 76) hX 0 d_Mo_puts_75 rfl rfl rfl ?_
    refine fg_Mo_71 (pc2 := 79) hX (kr_50 hK) d_Mo_puts_76 rfl ?_
    refine sx_bipush (v := 7) (pc2 := 81) hX d_Mo_puts_79 (by decide) rfl ?_
    refine sx_iload (pc2 := 83) hX 8 d_Mo_puts_81 rfl rfl ?_
    refine sx_iconst (v := 1) (pc2 := 84) hX d_Mo_puts_83 (by decide) rfl ?_
    refine sx_iadd (pc2 := 85) hX d_Mo_puts_84 rfl ?_
    obtain ⟨hc7, h⟩ := h
    refine sx_iast (pc2 := 86) hX (kr_68 hK) (fun _ => rfl) hc7 d_Mo_puts_85 rfl ?_
    refine sx_nm (fun σ8 e8 => ?_)
    replace h := h σ8 e8
    refine sx_aload_n (pc2 := 87) hX 0 d_Mo_puts_86 rfl rfl rfl ?_
    refine fg_Mo_71 (pc2 := 90) hX (kr_50 hK) d_Mo_puts_87 rfl ?_
    refine sx_iconst (v := 1) (pc2 := 91) hX d_Mo_puts_90 (by decide) rfl ?_
    refine sx_iload_n (pc2 := 92) hX 1 d_Mo_puts_91 rfl rfl rfl ?_
    refine sx_iadd (pc2 := 93) hX d_Mo_puts_92 rfl ?_
    refine sx_dup2 (pc2 := 94) hX d_Mo_puts_93 rfl rfl rfl ?_
    obtain ⟨hc9, h⟩ := h
    refine sx_iald (pc2 := 95) hX (kr_68 hK) rfl hc9 d_Mo_puts_94 rfl ?_
    refine sx_iconst (v := 1) (pc2 := 96) hX d_Mo_puts_95 (by decide) rfl ?_
    refine sx_iadd (pc2 := 97) hX d_Mo_puts_96 rfl ?_
    obtain ⟨hc10, h⟩ := h
    refine sx_iast (pc2 := 98) hX (kr_68 hK) (fun _ => rfl) hc10 d_Mo_puts_97 rfl ?_
    refine sx_nm (fun σ11 e11 => ?_)
    replace h := h σ11 e11
    exact sx_vret hX hE h d_Mo_puts_98
  · replace h := sx_t h hc2
    exact sx_vret hX hE h d_Mo_puts_17
theorem cl_Mo_280 {X : sx_T} {K : sx_K} {cc : ByteArray} {nL : Nat} {ret : Option FieldType} {rm : Room} {l : Launch} {pc pc2 : Nat} {lv : List (Nat × Value)} {st : List Value} {σ : sx_M} {τ : sx_L} {x1 : Int32} {x2 : Int32} {x3 : Int32} {x4 : Int32} {x5 : Int32} {x6 : Int32} {x7 : Int32} {Q : sx_M → sx_L → Prop} (hX : sx_C X K cc nL "SensorTreeModel" ret rm l) (hK : kx_F K) (h : wp_Mo_puts x1 x2 x3 x4 x5 x6 x7 σ τ Q)  (hR : rm_Mo_puts.frames + 1 ≤ rm.frames ∧ 8 + (9 + 11) + rm_Mo_puts.locals ≤ rm.locals) (hst : (st.map fun v => v.category).sum ≤ 8) (hd : decode cc pc = .ok (.invokevirtual 280, 3)) (hpc : pc + 3 = pc2) (kk : ∀ (σ2 : sx_M) (τ2 : sx_L), Q σ2 τ2 → sx_G X K nL pc2 lv (st) (sx_H K σ2 τ2)) : sx_G X K nL pc lv (.int x7 :: .int x6 :: .int x5 :: .int x4 :: .int x3 :: .int x2 :: .int x1 :: .ref (K.2.2.1 50 0 0) :: st) (sx_H K σ τ) :=
  sx_callVv (Q := Q) (As := [.int x1, .int x2, .int x3, .int x4, .int x5, .int x6, .int x7]) hX (c_Mo_puts hK x1 x2 x3 x4 x5 x6 x7 σ τ Q  h) (kr_50 hK) rfl rfl lk_484 ls_79 hy_Mo_puts lk_482 lk_364 lk_483 ⟨rfl, rfl⟩ hR hst rfl hd hpc kk
def y_Mo_isLost : MethodName := ⟨"SensorTreeModel", "isLost", "(II)Z"⟩
theorem hy_Mo_isLost : y_Mo_isLost.cls ≠ "java/lang/invoke/MethodHandle" ∧ y_Mo_isLost.cls ≠ "java/lang/invoke/VarHandle" ∧ (parseMethodDescriptor y_Mo_isLost.desc).map (fun d => d.parameters.length) = some 2 := by decide +kernel
theorem d_Mo_isLost_0 : decode prog_13_method_52_code 0 = .ok (.aload_n 0, 1) := by decide +kernel
theorem d_Mo_isLost_1 : decode prog_13_method_52_code 1 = .ok (.iload_n 1, 1) := by decide +kernel
theorem d_Mo_isLost_2 : decode prog_13_method_52_code 2 = .ok (.iload_n 2, 1) := by decide +kernel
theorem d_Mo_isLost_3 : decode prog_13_method_52_code 3 = .ok (.invokevirtual 258, 3) := by decide +kernel
theorem d_Mo_isLost_6 : decode prog_13_method_52_code 6 = .ok (.ifCond .eq 38, 3) := by decide +kernel
theorem d_Mo_isLost_9 : decode prog_13_method_52_code 9 = .ok (.aload_n 0, 1) := by decide +kernel
theorem d_Mo_isLost_10 : decode prog_13_method_52_code 10 = .ok (.ldc_w 262, 3) := by decide +kernel
theorem d_Mo_isLost_13 : decode prog_13_method_52_code 13 = .ok (.bipush 64, 2) := by decide +kernel
theorem d_Mo_isLost_15 : decode prog_13_method_52_code 15 = .ok (.aload_n 0, 1) := by decide +kernel
theorem d_Mo_isLost_16 : decode prog_13_method_52_code 16 = .ok (.getfield 71, 3) := by decide +kernel
theorem d_Mo_isLost_19 : decode prog_13_method_52_code 19 = .ok (.iconst 0, 1) := by decide +kernel
theorem d_Mo_isLost_20 : decode prog_13_method_52_code 20 = .ok (.iaload, 1) := by decide +kernel
theorem d_Mo_isLost_21 : decode prog_13_method_52_code 21 = .ok (.imul, 1) := by decide +kernel
theorem d_Mo_isLost_22 : decode prog_13_method_52_code 22 = .ok (.iadd, 1) := by decide +kernel
theorem d_Mo_isLost_23 : decode prog_13_method_52_code 23 = .ok (.bipush 8, 2) := by decide +kernel
theorem d_Mo_isLost_25 : decode prog_13_method_52_code 25 = .ok (.iload_n 1, 1) := by decide +kernel
theorem d_Mo_isLost_26 : decode prog_13_method_52_code 26 = .ok (.imul, 1) := by decide +kernel
theorem d_Mo_isLost_27 : decode prog_13_method_52_code 27 = .ok (.iadd, 1) := by decide +kernel
theorem d_Mo_isLost_28 : decode prog_13_method_52_code 28 = .ok (.iload_n 2, 1) := by decide +kernel
theorem d_Mo_isLost_29 : decode prog_13_method_52_code 29 = .ok (.iadd, 1) := by decide +kernel
theorem d_Mo_isLost_30 : decode prog_13_method_52_code 30 = .ok (.bipush 100, 2) := by decide +kernel
theorem d_Mo_isLost_32 : decode prog_13_method_52_code 32 = .ok (.invokevirtual 243, 3) := by decide +kernel
theorem d_Mo_isLost_35 : decode prog_13_method_52_code 35 = .ok (.aload_n 0, 1) := by decide +kernel
theorem d_Mo_isLost_36 : decode prog_13_method_52_code 36 = .ok (.bipush 7, 2) := by decide +kernel
theorem d_Mo_isLost_38 : decode prog_13_method_52_code 38 = .ok (.invokevirtual 233, 3) := by decide +kernel
theorem d_Mo_isLost_41 : decode prog_13_method_52_code 41 = .ok (.if_icmp .ge 7, 3) := by decide +kernel
theorem d_Mo_isLost_44 : decode prog_13_method_52_code 44 = .ok (.iconst 1, 1) := by decide +kernel
theorem d_Mo_isLost_45 : decode prog_13_method_52_code 45 = .ok (.goto 4, 3) := by decide +kernel
theorem d_Mo_isLost_48 : decode prog_13_method_52_code 48 = .ok (.iconst 0, 1) := by decide +kernel
theorem d_Mo_isLost_49 : decode prog_13_method_52_code 49 = .ok (.istore_n 3, 1) := by decide +kernel
theorem d_Mo_isLost_50 : decode prog_13_method_52_code 50 = .ok (.iload_n 3, 1) := by decide +kernel
theorem d_Mo_isLost_51 : decode prog_13_method_52_code 51 = .ok (.ifCond .eq 13, 3) := by decide +kernel
theorem d_Mo_isLost_54 : decode prog_13_method_52_code 54 = .ok (.aload_n 0, 1) := by decide +kernel
theorem d_Mo_isLost_55 : decode prog_13_method_52_code 55 = .ok (.getfield 71, 3) := by decide +kernel
theorem d_Mo_isLost_58 : decode prog_13_method_52_code 58 = .ok (.iconst 5, 1) := by decide +kernel
theorem d_Mo_isLost_59 : decode prog_13_method_52_code 59 = .ok (.dup2, 1) := by decide +kernel
theorem d_Mo_isLost_60 : decode prog_13_method_52_code 60 = .ok (.iaload, 1) := by decide +kernel
theorem d_Mo_isLost_61 : decode prog_13_method_52_code 61 = .ok (.iconst 1, 1) := by decide +kernel
theorem d_Mo_isLost_62 : decode prog_13_method_52_code 62 = .ok (.iadd, 1) := by decide +kernel
theorem d_Mo_isLost_63 : decode prog_13_method_52_code 63 = .ok (.iastore, 1) := by decide +kernel
theorem d_Mo_isLost_64 : decode prog_13_method_52_code 64 = .ok (.iload_n 3, 1) := by decide +kernel
theorem d_Mo_isLost_65 : decode prog_13_method_52_code 65 = .ok (.ireturn, 1) := by decide +kernel
def wp_Mo_isLost_b64   (Q : Int32 → sx_M → sx_L → Prop) (v3 : Int32) (σ : sx_M) (τ : sx_L) : Prop := (v3 = 0 ∨ v3 = 1) ∧ (Q v3 σ τ)
def wp_Mo_isLost_b49   (Q : Int32 → sx_M → sx_L → Prop) (w0 : Int32) (σ : sx_M) (τ : sx_L) : Prop := if w0 = 0 then (wp_Mo_isLost_b64 Q w0 σ τ) else (vp_in 5 643 ∧ (vp_in 5 643 ∧ (∀ σ5 : sx_M, σ5 = sx_u σ 68 0 0 (5 : Int32).toNatClampNeg ((σ 68 0 0 (5 : Int32).toNatClampNeg) + 1) → (wp_Mo_isLost_b64 Q w0 σ5 τ))))
def wp_Mo_isLost_b44   (Q : Int32 → sx_M → sx_L → Prop)  (σ : sx_M) (τ : sx_L) : Prop := wp_Mo_isLost_b49 Q 1 σ τ
def wp_Mo_isLost (x1 : Int32) (x2 : Int32) (σ : sx_M) (τ : sx_L) (Q : Int32 → sx_M → sx_L → Prop) : Prop := wp_Mo_areNear x1 x2 σ τ (fun r6 σ6 τ6 => if r6 = 0 then (wp_Mo_isLost_b44 Q σ6 τ6) else (vp_in 0 643 ∧ (wp_Mo_lotOf (((1000000 + (64 * (σ6 68 0 0 (0 : Int32).toNatClampNeg))) + (8 * x1)) + x2) (100 : Int32) σ6 τ6 (fun r9 σ9 τ9 => wp_Mo_setting (7 : Int32) σ9 τ9 (fun r10 σ10 τ10 => if r10 ≤ r9 then (wp_Mo_isLost_b49 Q 0 σ10 τ10) else (wp_Mo_isLost_b44 Q σ10 τ10))))))
abbrev rm_Mo_isLost : Room := { frames := 2, cells := 0, slots := 0, locals := 44 }
set_option maxRecDepth 100000 in
set_option maxHeartbeats 4000000 in
theorem g_Mo_isLost_b64 {l : Launch} {K : sx_K} {X : sx_T}   {Q : Int32 → sx_M → sx_L → Prop} (hX : sx_C X K prog_13_method_52_code 4 "SensorTreeModel" (some .boolean) rm_Mo_isLost l) (hK : kx_F K) (hE : sx_E X K (sx_Qi K Q))  (v3 : Int32) (σ : sx_M) (τ : sx_L)  (h : wp_Mo_isLost_b64 Q  v3 σ τ) : sx_G X K 4 64 [(3, .int v3)] [] (sx_H K σ τ) := by
  unfold wp_Mo_isLost_b64 at h
  refine sx_iload_n (pc2 := 65) hX 0 d_Mo_isLost_64 rfl rfl rfl ?_
  obtain ⟨hc1, h⟩ := h
  exact sx_zret hX hE hc1 h d_Mo_isLost_65
set_option maxRecDepth 100000 in
set_option maxHeartbeats 4000000 in
theorem g_Mo_isLost_b49 {l : Launch} {K : sx_K} {X : sx_T}   {Q : Int32 → sx_M → sx_L → Prop} (hX : sx_C X K prog_13_method_52_code 4 "SensorTreeModel" (some .boolean) rm_Mo_isLost l) (hK : kx_F K) (hE : sx_E X K (sx_Qi K Q))  (w0 : Int32) (σ : sx_M) (τ : sx_L)  (h : wp_Mo_isLost_b49 Q  w0 σ τ) : sx_G X K 4 49 [(0, .ref (K.2.2.1 50 0 0))] [.int w0] (sx_H K σ τ) := by
  unfold wp_Mo_isLost_b49 at h
  refine sx_istore_n (pc2 := 50) hX _ [(0, .ref (K.2.2.1 50 0 0)), (3, .int w0)] [1, 0] d_Mo_isLost_49 rfl (by decide) rfl rfl rfl ?_
  refine sx_iload_n (pc2 := 51) hX 1 d_Mo_isLost_50 rfl rfl rfl ?_
  refine sx_if_eq (tgt := 64) (pc2 := 54) hX d_Mo_isLost_51 (by decide) rfl (fun hc2 => ?_) (fun hc2 => ?_)
  · replace h := sx_t h hc2
    refine sx_sub [(3, .int w0)] [1] rfl ?_
    exact g_Mo_isLost_b64 hX hK hE   w0 _ _ h
  · replace h := sx_f h hc2
    refine sx_aload_n (pc2 := 55) hX 0 d_Mo_isLost_54 rfl rfl rfl ?_
    refine fg_Mo_71 (pc2 := 58) hX (kr_50 hK) d_Mo_isLost_55 rfl ?_
    refine sx_iconst (v := 5) (pc2 := 59) hX d_Mo_isLost_58 (by decide) rfl ?_
    refine sx_dup2 (pc2 := 60) hX d_Mo_isLost_59 rfl rfl rfl ?_
    obtain ⟨hc3, h⟩ := h
    refine sx_iald (pc2 := 61) hX (kr_68 hK) rfl hc3 d_Mo_isLost_60 rfl ?_
    refine sx_iconst (v := 1) (pc2 := 62) hX d_Mo_isLost_61 (by decide) rfl ?_
    refine sx_iadd (pc2 := 63) hX d_Mo_isLost_62 rfl ?_
    obtain ⟨hc4, h⟩ := h
    refine sx_iast (pc2 := 64) hX (kr_68 hK) (fun _ => rfl) hc4 d_Mo_isLost_63 rfl ?_
    refine sx_nm (fun σ5 e5 => ?_)
    replace h := h σ5 e5
    refine sx_sub [(3, .int w0)] [1] rfl ?_
    exact g_Mo_isLost_b64 hX hK hE   w0 _ _ h
set_option maxRecDepth 100000 in
set_option maxHeartbeats 4000000 in
theorem g_Mo_isLost_b44 {l : Launch} {K : sx_K} {X : sx_T}   {Q : Int32 → sx_M → sx_L → Prop} (hX : sx_C X K prog_13_method_52_code 4 "SensorTreeModel" (some .boolean) rm_Mo_isLost l) (hK : kx_F K) (hE : sx_E X K (sx_Qi K Q))   (σ : sx_M) (τ : sx_L)  (h : wp_Mo_isLost_b44 Q  σ τ) : sx_G X K 4 44 [(0, .ref (K.2.2.1 50 0 0))] [] (sx_H K σ τ) := by
  unfold wp_Mo_isLost_b44 at h
  refine sx_iconst (v := 1) (pc2 := 45) hX d_Mo_isLost_44 (by decide) rfl ?_
  refine sx_goto (tgt := 49) hX d_Mo_isLost_45 (by decide) ?_
  exact g_Mo_isLost_b49 hX hK hE   1 _ _ h
set_option maxRecDepth 100000 in
set_option maxHeartbeats 4000000 in
theorem c_Mo_isLost {l : Launch} {K : sx_K} (hK : kx_F K) (x1 : Int32) (x2 : Int32) (σ : sx_M) (τ : sx_L) (Q : Int32 → sx_M → sx_L → Prop)  (h : wp_Mo_isLost x1 x2 σ τ Q) : Met l y_Mo_isLost (sx_wd y_Mo_isLost prog_13_method_52_code 4 (some .boolean)) rm_Mo_isLost (sx_Pc K [.ref (K.2.2.1 50 0 0), .int x1, .int x2] σ τ) (sx_Qi K Q) 0 0 (sx_A K) := by
  refine sx_met (by decide) (Nat.le_of_ble_eq_true rfl) (fun X hX hE => ?_)
  replace hX : sx_C X K prog_13_method_52_code 4 "SensorTreeModel" (some .boolean) rm_Mo_isLost l := hX
  show sx_G X K 4 0 [(0, .ref (K.2.2.1 50 0 0)), (1, .int x1), (2, .int x2)] [] (sx_H K σ τ)
  unfold wp_Mo_isLost at h
  refine sx_aload_n (pc2 := 1) hX 0 d_Mo_isLost_0 rfl rfl rfl ?_
  refine sx_iload_n (pc2 := 2) hX 1 d_Mo_isLost_1 rfl rfl rfl ?_
  refine sx_iload_n (pc2 := 3) hX 2 d_Mo_isLost_2 rfl rfl rfl ?_
  refine cl_Mo_258 (pc2 := 6) hX hK h  ⟨Nat.le_of_ble_eq_true rfl, Nat.le_of_ble_eq_true rfl⟩ (Nat.le_of_ble_eq_true rfl) d_Mo_isLost_3 rfl (fun r6 σ6 τ6 h => ?_)
  refine sx_if_eq (tgt := 44) (pc2 := 9) hX d_Mo_isLost_6 (by decide) rfl (fun hc7 => ?_) (fun hc7 => ?_)
  · replace h := sx_t h hc7
    refine sx_sub [(0, .ref (K.2.2.1 50 0 0))] [0] rfl ?_
    exact g_Mo_isLost_b44 hX hK hE   _ _ h
  · replace h := sx_f h hc7
    refine sx_aload_n (pc2 := 10) hX 0 d_Mo_isLost_9 rfl rfl rfl ?_
    refine sx_ldcw (v := 1000000) (pc2 := 13) hX lk_21 d_Mo_isLost_10 rfl ?_
    refine sx_bipush (v := 64) (pc2 := 15) hX d_Mo_isLost_13 (by decide) rfl ?_
    refine sx_aload_n (pc2 := 16) hX 0 d_Mo_isLost_15 rfl rfl rfl ?_
    refine fg_Mo_71 (pc2 := 19) hX (kr_50 hK) d_Mo_isLost_16 rfl ?_
    refine sx_iconst (v := 0) (pc2 := 20) hX d_Mo_isLost_19 (by decide) rfl ?_
    obtain ⟨hc8, h⟩ := h
    refine sx_iald (pc2 := 21) hX (kr_68 hK) rfl hc8 d_Mo_isLost_20 rfl ?_
    refine sx_imul (pc2 := 22) hX d_Mo_isLost_21 rfl ?_
    refine sx_iadd (pc2 := 23) hX d_Mo_isLost_22 rfl ?_
    refine sx_bipush (v := 8) (pc2 := 25) hX d_Mo_isLost_23 (by decide) rfl ?_
    refine sx_iload_n (pc2 := 26) hX 1 d_Mo_isLost_25 rfl rfl rfl ?_
    refine sx_imul (pc2 := 27) hX d_Mo_isLost_26 rfl ?_
    refine sx_iadd (pc2 := 28) hX d_Mo_isLost_27 rfl ?_
    refine sx_iload_n (pc2 := 29) hX 2 d_Mo_isLost_28 rfl rfl rfl ?_
    refine sx_iadd (pc2 := 30) hX d_Mo_isLost_29 rfl ?_
    refine sx_bipush (v := 100) (pc2 := 32) hX d_Mo_isLost_30 (by decide) rfl ?_
    refine cl_Mo_243 (pc2 := 35) hX hK h  ⟨Nat.le_of_ble_eq_true rfl, Nat.le_of_ble_eq_true rfl⟩ (Nat.le_of_ble_eq_true rfl) d_Mo_isLost_32 rfl (fun r9 σ9 τ9 h => ?_)
    refine sx_aload_n (pc2 := 36) hX 0 d_Mo_isLost_35 rfl rfl rfl ?_
    refine sx_bipush (v := 7) (pc2 := 38) hX d_Mo_isLost_36 (by decide) rfl ?_
    refine cl_Mo_233 (pc2 := 41) hX hK h  ⟨Nat.le_of_ble_eq_true rfl, Nat.le_of_ble_eq_true rfl⟩ (Nat.le_of_ble_eq_true rfl) d_Mo_isLost_38 rfl (fun r10 σ10 τ10 h => ?_)
    refine sx_icmp_ge (tgt := 48) (pc2 := 44) hX d_Mo_isLost_41 (by decide) rfl (fun hc11 => ?_) (fun hc11 => ?_)
    · replace h := sx_t h hc11
      refine sx_iconst (v := 0) (pc2 := 49) hX d_Mo_isLost_48 (by decide) rfl ?_
      refine sx_sub [(0, .ref (K.2.2.1 50 0 0))] [0] rfl ?_
      exact g_Mo_isLost_b49 hX hK hE   0 _ _ h
    · replace h := sx_f h hc11
      refine sx_sub [(0, .ref (K.2.2.1 50 0 0))] [0] rfl ?_
      exact g_Mo_isLost_b44 hX hK hE   _ _ h
theorem cl_Mo_263 {X : sx_T} {K : sx_K} {cc : ByteArray} {nL : Nat} {ret : Option FieldType} {rm : Room} {l : Launch} {pc pc2 : Nat} {lv : List (Nat × Value)} {st : List Value} {σ : sx_M} {τ : sx_L} {x1 : Int32} {x2 : Int32} {Q : Int32 → sx_M → sx_L → Prop} (hX : sx_C X K cc nL "SensorTreeModel" ret rm l) (hK : kx_F K) (h : wp_Mo_isLost x1 x2 σ τ Q)  (hR : rm_Mo_isLost.frames + 1 ≤ rm.frames ∧ 8 + (4 + 11) + rm_Mo_isLost.locals ≤ rm.locals) (hst : (st.map fun v => v.category).sum ≤ 8) (hd : decode cc pc = .ok (.invokevirtual 263, 3)) (hpc : pc + 3 = pc2) (kk : ∀ (r : Int32) (σ2 : sx_M) (τ2 : sx_L), Q r σ2 τ2 → sx_G X K nL pc2 lv (.int r :: st) (sx_H K σ2 τ2)) : sx_G X K nL pc lv (.int x2 :: .int x1 :: .ref (K.2.2.1 50 0 0) :: st) (sx_H K σ τ) :=
  sx_callVi (Q := Q) (As := [.int x1, .int x2]) hX (c_Mo_isLost hK x1 x2 σ τ Q  h) (kr_50 hK) rfl rfl lk_502 ls_70 hy_Mo_isLost lk_500 lk_364 lk_501 ⟨rfl, rfl⟩ hR hst rfl hd hpc kk
def y_Mo_bestOf : MethodName := ⟨"SensorTreeModel", "bestOf", "(II)I"⟩
theorem hy_Mo_bestOf : y_Mo_bestOf.cls ≠ "java/lang/invoke/MethodHandle" ∧ y_Mo_bestOf.cls ≠ "java/lang/invoke/VarHandle" ∧ (parseMethodDescriptor y_Mo_bestOf.desc).map (fun d => d.parameters.length) = some 2 := by decide +kernel
theorem d_Mo_bestOf_0 : decode prog_13_method_56_code 0 = .ok (.iconst (-1), 1) := by decide +kernel
theorem d_Mo_bestOf_1 : decode prog_13_method_56_code 1 = .ok (.istore_n 3, 1) := by decide +kernel
theorem d_Mo_bestOf_2 : decode prog_13_method_56_code 2 = .ok (.iconst 0, 1) := by decide +kernel
theorem d_Mo_bestOf_3 : decode prog_13_method_56_code 3 = .ok (.istore 4, 2) := by decide +kernel
theorem d_Mo_bestOf_5 : decode prog_13_method_56_code 5 = .ok (.iconst (-1), 1) := by decide +kernel
theorem d_Mo_bestOf_6 : decode prog_13_method_56_code 6 = .ok (.istore 5, 2) := by decide +kernel
theorem d_Mo_bestOf_8 : decode prog_13_method_56_code 8 = .ok (.aload_n 0, 1) := by decide +kernel
theorem d_Mo_bestOf_9 : decode prog_13_method_56_code 9 = .ok (.iload_n 1, 1) := by decide +kernel
theorem d_Mo_bestOf_10 : decode prog_13_method_56_code 10 = .ok (.iconst 2, 1) := by decide +kernel
theorem d_Mo_bestOf_11 : decode prog_13_method_56_code 11 = .ok (.invokevirtual 246, 3) := by decide +kernel
theorem d_Mo_bestOf_14 : decode prog_13_method_56_code 14 = .ok (.istore 6, 2) := by decide +kernel
theorem d_Mo_bestOf_16 : decode prog_13_method_56_code 16 = .ok (.iconst 0, 1) := by decide +kernel
theorem d_Mo_bestOf_17 : decode prog_13_method_56_code 17 = .ok (.istore 7, 2) := by decide +kernel
theorem d_Mo_bestOf_19 : decode prog_13_method_56_code 19 = .ok (.iload 7, 2) := by decide +kernel
theorem d_Mo_bestOf_21 : decode prog_13_method_56_code 21 = .ok (.aload_n 0, 1) := by decide +kernel
theorem d_Mo_bestOf_22 : decode prog_13_method_56_code 22 = .ok (.getfield 40, 3) := by decide +kernel
theorem d_Mo_bestOf_25 : decode prog_13_method_56_code 25 = .ok (.aload_n 0, 1) := by decide +kernel
theorem d_Mo_bestOf_26 : decode prog_13_method_56_code 26 = .ok (.getfield 170, 3) := by decide +kernel
theorem d_Mo_bestOf_29 : decode prog_13_method_56_code 29 = .ok (.iaload, 1) := by decide +kernel
theorem d_Mo_bestOf_30 : decode prog_13_method_56_code 30 = .ok (.if_icmp .ge 112, 3) := by decide +kernel
theorem d_Mo_bestOf_33 : decode prog_13_method_56_code 33 = .ok (.aload_n 0, 1) := by decide +kernel
theorem d_Mo_bestOf_34 : decode prog_13_method_56_code 34 = .ok (.getfield 71, 3) := by decide +kernel
theorem d_Mo_bestOf_37 : decode prog_13_method_56_code 37 = .ok (.bipush 96, 2) := by decide +kernel
theorem d_Mo_bestOf_39 : decode prog_13_method_56_code 39 = .ok (.bipush 7, 2) := by decide +kernel
theorem d_Mo_bestOf_41 : decode prog_13_method_56_code 41 = .ok (.iload_n 1, 1) := by decide +kernel
theorem d_Mo_bestOf_42 : decode prog_13_method_56_code 42 = .ok (.imul, 1) := by decide +kernel
theorem d_Mo_bestOf_43 : decode prog_13_method_56_code 43 = .ok (.iadd, 1) := by decide +kernel
theorem d_Mo_bestOf_44 : decode prog_13_method_56_code 44 = .ok (.iload 7, 2) := by decide +kernel
theorem d_Mo_bestOf_46 : decode prog_13_method_56_code 46 = .ok (.iadd, 1) := by decide +kernel
theorem d_Mo_bestOf_47 : decode prog_13_method_56_code 47 = .ok (.iaload, 1) := by decide +kernel
theorem d_Mo_bestOf_48 : decode prog_13_method_56_code 48 = .ok (.istore 8, 2) := by decide +kernel
theorem d_Mo_bestOf_50 : decode prog_13_method_56_code 50 = .ok (.aload_n 0, 1) := by decide +kernel
theorem d_Mo_bestOf_51 : decode prog_13_method_56_code 51 = .ok (.iload_n 1, 1) := by decide +kernel
theorem d_Mo_bestOf_52 : decode prog_13_method_56_code 52 = .ok (.iload 7, 2) := by decide +kernel
theorem d_Mo_bestOf_54 : decode prog_13_method_56_code 54 = .ok (.invokevirtual 258, 3) := by decide +kernel
theorem d_Mo_bestOf_57 : decode prog_13_method_56_code 57 = .ok (.ifCond .eq 79, 3) := by decide +kernel
theorem d_Mo_bestOf_60 : decode prog_13_method_56_code 60 = .ok (.iload 8, 2) := by decide +kernel
theorem d_Mo_bestOf_62 : decode prog_13_method_56_code 62 = .ok (.sipush 9999, 3) := by decide +kernel
theorem d_Mo_bestOf_65 : decode prog_13_method_56_code 65 = .ok (.if_icmp .ge 71, 3) := by decide +kernel
theorem d_Mo_bestOf_68 : decode prog_13_method_56_code 68 = .ok (.aload_n 0, 1) := by decide +kernel
theorem d_Mo_bestOf_69 : decode prog_13_method_56_code 69 = .ok (.getfield 58, 3) := by decide +kernel
theorem d_Mo_bestOf_72 : decode prog_13_method_56_code 72 = .ok (.bipush 49, 2) := by decide +kernel
theorem d_Mo_bestOf_74 : decode prog_13_method_56_code 74 = .ok (.aload_n 0, 1) := by decide +kernel
theorem d_Mo_bestOf_75 : decode prog_13_method_56_code 75 = .ok (.getfield 170, 3) := by decide +kernel
theorem d_Mo_bestOf_78 : decode prog_13_method_56_code 78 = .ok (.imul, 1) := by decide +kernel
theorem d_Mo_bestOf_79 : decode prog_13_method_56_code 79 = .ok (.bipush 7, 2) := by decide +kernel
theorem d_Mo_bestOf_81 : decode prog_13_method_56_code 81 = .ok (.iload_n 1, 1) := by decide +kernel
theorem d_Mo_bestOf_82 : decode prog_13_method_56_code 82 = .ok (.imul, 1) := by decide +kernel
theorem d_Mo_bestOf_83 : decode prog_13_method_56_code 83 = .ok (.iadd, 1) := by decide +kernel
theorem d_Mo_bestOf_84 : decode prog_13_method_56_code 84 = .ok (.iload 7, 2) := by decide +kernel
theorem d_Mo_bestOf_86 : decode prog_13_method_56_code 86 = .ok (.iadd, 1) := by decide +kernel
theorem d_Mo_bestOf_87 : decode prog_13_method_56_code 87 = .ok (.iaload, 1) := by decide +kernel
theorem d_Mo_bestOf_88 : decode prog_13_method_56_code 88 = .ok (.iload_n 2, 1) := by decide +kernel
theorem d_Mo_bestOf_89 : decode prog_13_method_56_code 89 = .ok (.if_icmp .ne 6, 3) := by decide +kernel
theorem d_Mo_bestOf_92 : decode prog_13_method_56_code 92 = .ok (.goto 44, 3) := by decide +kernel
theorem d_Mo_bestOf_95 : decode prog_13_method_56_code 95 = .ok (.iload 8, 2) := by decide +kernel
theorem d_Mo_bestOf_97 : decode prog_13_method_56_code 97 = .ok (.aload_n 0, 1) := by decide +kernel
theorem d_Mo_bestOf_98 : decode prog_13_method_56_code 98 = .ok (.iload_n 1, 1) := by decide +kernel
theorem d_Mo_bestOf_99 : decode prog_13_method_56_code 99 = .ok (.iload 7, 2) := by decide +kernel
theorem d_Mo_bestOf_101 : decode prog_13_method_56_code 101 = .ok (.invokevirtual 284, 3) := by decide +kernel
theorem d_Mo_bestOf_104 : decode prog_13_method_56_code 104 = .ok (.iadd, 1) := by decide +kernel
theorem d_Mo_bestOf_105 : decode prog_13_method_56_code 105 = .ok (.istore 9, 2) := by decide +kernel
theorem d_Mo_bestOf_107 : decode prog_13_method_56_code 107 = .ok (.iload_n 3, 1) := by decide +kernel
theorem d_Mo_bestOf_108 : decode prog_13_method_56_code 108 = .ok (.ifCond .lt 10, 3) := by decide +kernel
theorem d_Mo_bestOf_111 : decode prog_13_method_56_code 111 = .ok (.iload 9, 2) := by decide +kernel
theorem d_Mo_bestOf_113 : decode prog_13_method_56_code 113 = .ok (.iload 4, 2) := by decide +kernel
theorem d_Mo_bestOf_115 : decode prog_13_method_56_code 115 = .ok (.if_icmp .ge 10, 3) := by decide +kernel
theorem d_Mo_bestOf_118 : decode prog_13_method_56_code 118 = .ok (.iload 7, 2) := by decide +kernel
theorem d_Mo_bestOf_120 : decode prog_13_method_56_code 120 = .ok (.istore_n 3, 1) := by decide +kernel
theorem d_Mo_bestOf_121 : decode prog_13_method_56_code 121 = .ok (.iload 9, 2) := by decide +kernel
theorem d_Mo_bestOf_123 : decode prog_13_method_56_code 123 = .ok (.istore 4, 2) := by decide +kernel
theorem d_Mo_bestOf_125 : decode prog_13_method_56_code 125 = .ok (.iload 7, 2) := by decide +kernel
theorem d_Mo_bestOf_127 : decode prog_13_method_56_code 127 = .ok (.iload 6, 2) := by decide +kernel
theorem d_Mo_bestOf_129 : decode prog_13_method_56_code 129 = .ok (.if_icmp .ne 7, 3) := by decide +kernel
theorem d_Mo_bestOf_132 : decode prog_13_method_56_code 132 = .ok (.iload 9, 2) := by decide +kernel
theorem d_Mo_bestOf_134 : decode prog_13_method_56_code 134 = .ok (.istore 5, 2) := by decide +kernel
theorem d_Mo_bestOf_136 : decode prog_13_method_56_code 136 = .ok (.iinc 7 1, 3) := by decide +kernel
theorem d_Mo_bestOf_139 : decode prog_13_method_56_code 139 = .ok (.goto (-120), 3) := by decide +kernel
theorem d_Mo_bestOf_142 : decode prog_13_method_56_code 142 = .ok (.iload 5, 2) := by decide +kernel
theorem d_Mo_bestOf_144 : decode prog_13_method_56_code 144 = .ok (.ifCond .lt 21, 3) := by decide +kernel
theorem d_Mo_bestOf_147 : decode prog_13_method_56_code 147 = .ok (.iload 5, 2) := by decide +kernel
theorem d_Mo_bestOf_149 : decode prog_13_method_56_code 149 = .ok (.iload 4, 2) := by decide +kernel
theorem d_Mo_bestOf_151 : decode prog_13_method_56_code 151 = .ok (.isub, 1) := by decide +kernel
theorem d_Mo_bestOf_152 : decode prog_13_method_56_code 152 = .ok (.aload_n 0, 1) := by decide +kernel
theorem d_Mo_bestOf_153 : decode prog_13_method_56_code 153 = .ok (.iconst 3, 1) := by decide +kernel
theorem d_Mo_bestOf_154 : decode prog_13_method_56_code 154 = .ok (.invokevirtual 233, 3) := by decide +kernel
theorem d_Mo_bestOf_157 : decode prog_13_method_56_code 157 = .ok (.if_icmp .gt 8, 3) := by decide +kernel
theorem d_Mo_bestOf_160 : decode prog_13_method_56_code 160 = .ok (.iload 6, 2) := by decide +kernel
theorem d_Mo_bestOf_162 : decode prog_13_method_56_code 162 = .ok (.goto 4, 3) := by decide +kernel
theorem d_Mo_bestOf_165 : decode prog_13_method_56_code 165 = .ok (.iload_n 3, 1) := by decide +kernel
theorem d_Mo_bestOf_166 : decode prog_13_method_56_code 166 = .ok (.ireturn, 1) := by decide +kernel
def wp_Mo_bestOf_b166   (Q : Int32 → sx_M → sx_L → Prop) (w0 : Int32) (σ : sx_M) (τ : sx_L) : Prop := Q w0 σ τ
def wp_Mo_bestOf_b165   (Q : Int32 → sx_M → sx_L → Prop) (v3 : Int32) (σ : sx_M) (τ : sx_L) : Prop := wp_Mo_bestOf_b166 Q v3 σ τ
def wp_Mo_bestOf_b136  (k19 : Int32 → Int32 → Int32 → Int32 → Int32 → Int32 → Int32 → sx_M → sx_L → Prop) (Q : Int32 → sx_M → sx_L → Prop) (v1 : Int32) (v2 : Int32) (v3 : Int32) (v4 : Int32) (v5 : Int32) (v6 : Int32) (v7 : Int32) (σ : sx_M) (τ : sx_L) : Prop := k19 v1 v2 v3 v4 v5 v6 (v7 + 1) σ τ
def wp_Mo_bestOf_b125  (k19 : Int32 → Int32 → Int32 → Int32 → Int32 → Int32 → Int32 → sx_M → sx_L → Prop) (Q : Int32 → sx_M → sx_L → Prop) (v1 : Int32) (v2 : Int32) (v3 : Int32) (v4 : Int32) (v5 : Int32) (v6 : Int32) (v7 : Int32) (v9 : Int32) (σ : sx_M) (τ : sx_L) : Prop := if v7 = v6 then (wp_Mo_bestOf_b136 k19 Q v1 v2 v3 v4 v9 v6 v7 σ τ) else (wp_Mo_bestOf_b136 k19 Q v1 v2 v3 v4 v5 v6 v7 σ τ)
def wp_Mo_bestOf_b118  (k19 : Int32 → Int32 → Int32 → Int32 → Int32 → Int32 → Int32 → sx_M → sx_L → Prop) (Q : Int32 → sx_M → sx_L → Prop) (v1 : Int32) (v2 : Int32) (v5 : Int32) (v6 : Int32) (v7 : Int32) (v9 : Int32) (σ : sx_M) (τ : sx_L) : Prop := wp_Mo_bestOf_b125 k19 Q v1 v2 v7 v9 v5 v6 v7 v9 σ τ
def wp_Mo_bestOf_b19   (Q : Int32 → sx_M → sx_L → Prop) : Nat → Int32 → Int32 → Int32 → Int32 → Int32 → Int32 → Int32 → sx_M → sx_L → Prop
  | 0, _, _, _, _, _, _, _, _, _ => False
  | f + 1, v1, v2, v3, v4, v5, v6, v7, σ, τ => vp_in (σ 50 0 0 17) 2 ∧ (if σ 58 0 0 (σ 50 0 0 17).toNatClampNeg ≤ v7 then (if v5 < 0 then (wp_Mo_bestOf_b165 Q v3 σ τ) else (wp_Mo_setting (3 : Int32) σ τ (fun r5 σ5 τ5 => if r5 < v5 - v4 then (wp_Mo_bestOf_b165 Q v3 σ5 τ5) else (wp_Mo_bestOf_b166 Q v6 σ5 τ5)))) else (vp_in ((96 + (7 * v1)) + v7) 643 ∧ (wp_Mo_areNear v1 v7 σ τ (fun r8 σ8 τ8 => if r8 = 0 then (wp_Mo_bestOf_b136 (wp_Mo_bestOf_b19 Q f) Q v1 v2 v3 v4 v5 v6 v7 σ8 τ8) else (if 9999 ≤ σ 68 0 0 ((96 + (7 * v1)) + v7).toNatClampNeg then (wp_Mo_bestOf_b136 (wp_Mo_bestOf_b19 Q f) Q v1 v2 v3 v4 v5 v6 v7 σ8 τ8) else (vp_in (((49 * (σ8 50 0 0 17)) + (7 * v1)) + v7) 98 ∧ (if σ8 64 0 0 (((49 * (σ8 50 0 0 17)) + (7 * v1)) + v7).toNatClampNeg = v2 then (wp_Mo_bestOf_b136 (wp_Mo_bestOf_b19 Q f) Q v1 v2 v3 v4 v5 v6 v7 σ8 τ8) else (wp_Mo_stepTo v1 v7 σ8 τ8 (fun r13 σ13 τ13 => if v3 < 0 then (wp_Mo_bestOf_b118 (wp_Mo_bestOf_b19 Q f) Q v1 v2 v5 v6 v7 ((σ 68 0 0 ((96 + (7 * v1)) + v7).toNatClampNeg) + r13) σ13 τ13) else (if v4 ≤ (σ 68 0 0 ((96 + (7 * v1)) + v7).toNatClampNeg) + r13 then (wp_Mo_bestOf_b125 (wp_Mo_bestOf_b19 Q f) Q v1 v2 v3 v4 v5 v6 v7 ((σ 68 0 0 ((96 + (7 * v1)) + v7).toNatClampNeg) + r13) σ13 τ13) else (wp_Mo_bestOf_b118 (wp_Mo_bestOf_b19 Q f) Q v1 v2 v5 v6 v7 ((σ 68 0 0 ((96 + (7 * v1)) + v7).toNatClampNeg) + r13) σ13 τ13)))))))))))
def wp_Mo_bestOf (x1 : Int32) (x2 : Int32) (σ : sx_M) (τ : sx_L) (Q : Int32 → sx_M → sx_L → Prop) : Prop := wp_Mo_of x1 (2 : Int32) σ τ (fun r16 σ16 τ16 => ∃ f19, wp_Mo_bestOf_b19 Q f19 x1 x2 (-1) 0 (-1) r16 0 σ16 τ16)
abbrev rm_Mo_bestOf : Room := { frames := 2, cells := 0, slots := 0, locals := 44 }
set_option maxRecDepth 100000 in
set_option maxHeartbeats 4000000 in
theorem g_Mo_bestOf_b166 {l : Launch} {K : sx_K} {X : sx_T}   {Q : Int32 → sx_M → sx_L → Prop} (hX : sx_C X K prog_13_method_56_code 10 "SensorTreeModel" (some .int) rm_Mo_bestOf l) (hK : kx_F K) (hE : sx_E X K (sx_Qi K Q))  (w0 : Int32) (σ : sx_M) (τ : sx_L)  (h : wp_Mo_bestOf_b166 Q  w0 σ τ) : sx_G X K 10 166 [] [.int w0] (sx_H K σ τ) := by
  unfold wp_Mo_bestOf_b166 at h
  exact sx_iret hX hE h d_Mo_bestOf_166
set_option maxRecDepth 100000 in
set_option maxHeartbeats 4000000 in
theorem g_Mo_bestOf_b165 {l : Launch} {K : sx_K} {X : sx_T}   {Q : Int32 → sx_M → sx_L → Prop} (hX : sx_C X K prog_13_method_56_code 10 "SensorTreeModel" (some .int) rm_Mo_bestOf l) (hK : kx_F K) (hE : sx_E X K (sx_Qi K Q))  (v3 : Int32) (σ : sx_M) (τ : sx_L)  (h : wp_Mo_bestOf_b165 Q  v3 σ τ) : sx_G X K 10 165 [(3, .int v3)] [] (sx_H K σ τ) := by
  unfold wp_Mo_bestOf_b165 at h
  refine sx_iload_n (pc2 := 166) hX 0 d_Mo_bestOf_165 rfl rfl rfl ?_
  refine sx_sub [] [] rfl ?_
  exact g_Mo_bestOf_b166 hX hK hE   v3 _ _ h
set_option maxRecDepth 100000 in
set_option maxHeartbeats 4000000 in
theorem g_Mo_bestOf_b136 {l : Launch} {K : sx_K} {X : sx_T}  {k19 : Int32 → Int32 → Int32 → Int32 → Int32 → Int32 → Int32 → sx_M → sx_L → Prop} {Q : Int32 → sx_M → sx_L → Prop} (hX : sx_C X K prog_13_method_56_code 10 "SensorTreeModel" (some .int) rm_Mo_bestOf l) (hK : kx_F K) (hE : sx_E X K (sx_Qi K Q))  (hk19 : ∀ (v1 : Int32) (v2 : Int32) (v3 : Int32) (v4 : Int32) (v5 : Int32) (v6 : Int32) (v7 : Int32) (σ : sx_M) (τ : sx_L) , k19 v1 v2 v3 v4 v5 v6 v7 σ τ → sx_G X K 10 19 [(0, .ref (K.2.2.1 50 0 0)), (1, .int v1), (2, .int v2), (3, .int v3), (4, .int v4), (5, .int v5), (6, .int v6), (7, .int v7)] [] (sx_H K σ τ)) (v1 : Int32) (v2 : Int32) (v3 : Int32) (v4 : Int32) (v5 : Int32) (v6 : Int32) (v7 : Int32) (σ : sx_M) (τ : sx_L)  (h : wp_Mo_bestOf_b136 k19 Q  v1 v2 v3 v4 v5 v6 v7 σ τ) : sx_G X K 10 136 [(0, .ref (K.2.2.1 50 0 0)), (1, .int v1), (2, .int v2), (3, .int v3), (4, .int v4), (5, .int v5), (6, .int v6), (7, .int v7)] [] (sx_H K σ τ) := by
  unfold wp_Mo_bestOf_b136 at h
  refine sx_iinc (pc2 := 139) hX 7 _ [(0, .ref (K.2.2.1 50 0 0)), (1, .int v1), (2, .int v2), (3, .int v3), (4, .int v4), (5, .int v5), (6, .int v6), (7, .int (v7 + 1))] [1, 2, 3, 4, 5, 6, 7, 0] d_Mo_bestOf_136 rfl (v7 + 1) rfl (by decide) rfl rfl rfl ?_
  refine sx_goto (tgt := 19) hX d_Mo_bestOf_139 (by decide) ?_
  exact hk19 v1 v2 v3 v4 v5 v6 (v7 + 1) _ _ h
set_option maxRecDepth 100000 in
set_option maxHeartbeats 4000000 in
theorem g_Mo_bestOf_b125 {l : Launch} {K : sx_K} {X : sx_T}  {k19 : Int32 → Int32 → Int32 → Int32 → Int32 → Int32 → Int32 → sx_M → sx_L → Prop} {Q : Int32 → sx_M → sx_L → Prop} (hX : sx_C X K prog_13_method_56_code 10 "SensorTreeModel" (some .int) rm_Mo_bestOf l) (hK : kx_F K) (hE : sx_E X K (sx_Qi K Q))  (hk19 : ∀ (v1 : Int32) (v2 : Int32) (v3 : Int32) (v4 : Int32) (v5 : Int32) (v6 : Int32) (v7 : Int32) (σ : sx_M) (τ : sx_L) , k19 v1 v2 v3 v4 v5 v6 v7 σ τ → sx_G X K 10 19 [(0, .ref (K.2.2.1 50 0 0)), (1, .int v1), (2, .int v2), (3, .int v3), (4, .int v4), (5, .int v5), (6, .int v6), (7, .int v7)] [] (sx_H K σ τ)) (v1 : Int32) (v2 : Int32) (v3 : Int32) (v4 : Int32) (v5 : Int32) (v6 : Int32) (v7 : Int32) (v9 : Int32) (σ : sx_M) (τ : sx_L)  (h : wp_Mo_bestOf_b125 k19 Q  v1 v2 v3 v4 v5 v6 v7 v9 σ τ) : sx_G X K 10 125 [(0, .ref (K.2.2.1 50 0 0)), (1, .int v1), (2, .int v2), (3, .int v3), (4, .int v4), (5, .int v5), (6, .int v6), (7, .int v7), (9, .int v9)] [] (sx_H K σ τ) := by
  unfold wp_Mo_bestOf_b125 at h
  refine sx_iload (pc2 := 127) hX 7 d_Mo_bestOf_125 rfl rfl ?_
  refine sx_iload (pc2 := 129) hX 6 d_Mo_bestOf_127 rfl rfl ?_
  refine sx_icmp_ne (tgt := 136) (pc2 := 132) hX d_Mo_bestOf_129 (by decide) rfl (fun hc1 => ?_) (fun hc1 => ?_)
  · replace h := sx_f h hc1
    refine sx_sub [(0, .ref (K.2.2.1 50 0 0)), (1, .int v1), (2, .int v2), (3, .int v3), (4, .int v4), (5, .int v5), (6, .int v6), (7, .int v7)] [0, 1, 2, 3, 4, 5, 6, 7] rfl ?_
    exact g_Mo_bestOf_b136 hX hK hE  hk19 v1 v2 v3 v4 v5 v6 v7 _ _ h
  · replace h := sx_t h hc1
    refine sx_iload (pc2 := 134) hX 8 d_Mo_bestOf_132 rfl rfl ?_
    refine sx_istore (pc2 := 136) hX _ [(0, .ref (K.2.2.1 50 0 0)), (1, .int v1), (2, .int v2), (3, .int v3), (4, .int v4), (5, .int v9), (6, .int v6), (7, .int v7), (9, .int v9)] [1, 2, 3, 4, 5, 0, 6, 7, 8] d_Mo_bestOf_134 (by decide) rfl rfl rfl ?_
    refine sx_sub [(0, .ref (K.2.2.1 50 0 0)), (1, .int v1), (2, .int v2), (3, .int v3), (4, .int v4), (5, .int v9), (6, .int v6), (7, .int v7)] [0, 1, 2, 3, 4, 5, 6, 7] rfl ?_
    exact g_Mo_bestOf_b136 hX hK hE  hk19 v1 v2 v3 v4 v9 v6 v7 _ _ h
set_option maxRecDepth 100000 in
set_option maxHeartbeats 4000000 in
theorem g_Mo_bestOf_b118 {l : Launch} {K : sx_K} {X : sx_T}  {k19 : Int32 → Int32 → Int32 → Int32 → Int32 → Int32 → Int32 → sx_M → sx_L → Prop} {Q : Int32 → sx_M → sx_L → Prop} (hX : sx_C X K prog_13_method_56_code 10 "SensorTreeModel" (some .int) rm_Mo_bestOf l) (hK : kx_F K) (hE : sx_E X K (sx_Qi K Q))  (hk19 : ∀ (v1 : Int32) (v2 : Int32) (v3 : Int32) (v4 : Int32) (v5 : Int32) (v6 : Int32) (v7 : Int32) (σ : sx_M) (τ : sx_L) , k19 v1 v2 v3 v4 v5 v6 v7 σ τ → sx_G X K 10 19 [(0, .ref (K.2.2.1 50 0 0)), (1, .int v1), (2, .int v2), (3, .int v3), (4, .int v4), (5, .int v5), (6, .int v6), (7, .int v7)] [] (sx_H K σ τ)) (v1 : Int32) (v2 : Int32) (v5 : Int32) (v6 : Int32) (v7 : Int32) (v9 : Int32) (σ : sx_M) (τ : sx_L)  (h : wp_Mo_bestOf_b118 k19 Q  v1 v2 v5 v6 v7 v9 σ τ) : sx_G X K 10 118 [(0, .ref (K.2.2.1 50 0 0)), (1, .int v1), (2, .int v2), (5, .int v5), (6, .int v6), (7, .int v7), (9, .int v9)] [] (sx_H K σ τ) := by
  unfold wp_Mo_bestOf_b118 at h
  refine sx_iload (pc2 := 120) hX 5 d_Mo_bestOf_118 rfl rfl ?_
  refine sx_istore_n (pc2 := 121) hX _ [(0, .ref (K.2.2.1 50 0 0)), (1, .int v1), (2, .int v2), (3, .int v7), (5, .int v5), (6, .int v6), (7, .int v7), (9, .int v9)] [1, 2, 3, 0, 4, 5, 6, 7] d_Mo_bestOf_120 rfl (by decide) rfl rfl rfl ?_
  refine sx_iload (pc2 := 123) hX 7 d_Mo_bestOf_121 rfl rfl ?_
  refine sx_istore (pc2 := 125) hX _ [(0, .ref (K.2.2.1 50 0 0)), (1, .int v1), (2, .int v2), (3, .int v7), (4, .int v9), (5, .int v5), (6, .int v6), (7, .int v7), (9, .int v9)] [1, 2, 3, 4, 0, 5, 6, 7, 8] d_Mo_bestOf_123 (by decide) rfl rfl rfl ?_
  exact g_Mo_bestOf_b125 hX hK hE  hk19 v1 v2 v7 v9 v5 v6 v7 v9 _ _ h
set_option maxRecDepth 100000 in
set_option maxHeartbeats 4000000 in
theorem g_Mo_bestOf_b19 {l : Launch} {K : sx_K} {X : sx_T}   {Q : Int32 → sx_M → sx_L → Prop} (hX : sx_C X K prog_13_method_56_code 10 "SensorTreeModel" (some .int) rm_Mo_bestOf l) (hK : kx_F K) (hE : sx_E X K (sx_Qi K Q))  : ∀ (f : Nat) (v1 : Int32) (v2 : Int32) (v3 : Int32) (v4 : Int32) (v5 : Int32) (v6 : Int32) (v7 : Int32) (σ : sx_M) (τ : sx_L) , wp_Mo_bestOf_b19 Q f v1 v2 v3 v4 v5 v6 v7 σ τ → sx_G X K 10 19 [(0, .ref (K.2.2.1 50 0 0)), (1, .int v1), (2, .int v2), (3, .int v3), (4, .int v4), (5, .int v5), (6, .int v6), (7, .int v7)] [] (sx_H K σ τ) := by
  intro f
  induction f with
  | zero => intro v1 v2 v3 v4 v5 v6 v7 σ τ h; exact (show False from h).elim
  | succ f ih =>
    intro v1 v2 v3 v4 v5 v6 v7 σ τ h
    rw [wp_Mo_bestOf_b19] at h
    refine sx_iload (pc2 := 21) hX 7 d_Mo_bestOf_19 rfl rfl ?_
    refine sx_aload_n (pc2 := 22) hX 0 d_Mo_bestOf_21 rfl rfl rfl ?_
    refine fg_Mo_40 (pc2 := 25) hX (kr_50 hK) d_Mo_bestOf_22 rfl ?_
    refine sx_aload_n (pc2 := 26) hX 0 d_Mo_bestOf_25 rfl rfl rfl ?_
    refine fg_Mo_170 (pc2 := 29) hX (kr_50 hK) d_Mo_bestOf_26 rfl ?_
    obtain ⟨hc2, h⟩ := h
    refine sx_iald (pc2 := 30) hX (kr_58 hK) rfl hc2 d_Mo_bestOf_29 rfl ?_
    refine sx_icmp_ge (tgt := 142) (pc2 := 33) hX d_Mo_bestOf_30 (by decide) rfl (fun hc3 => ?_) (fun hc3 => ?_)
    · replace h := sx_t h hc3
      refine sx_iload (pc2 := 144) hX 5 d_Mo_bestOf_142 rfl rfl ?_
      refine sx_if_lt (tgt := 165) (pc2 := 147) hX d_Mo_bestOf_144 (by decide) rfl (fun hc4 => ?_) (fun hc4 => ?_)
      · replace h := sx_t h hc4
        refine sx_sub [(3, .int v3)] [3] rfl ?_
        exact g_Mo_bestOf_b165 hX hK hE   v3 _ _ h
      · replace h := sx_f h hc4
        refine sx_iload (pc2 := 149) hX 5 d_Mo_bestOf_147 rfl rfl ?_
        refine sx_iload (pc2 := 151) hX 4 d_Mo_bestOf_149 rfl rfl ?_
        refine sx_isub (pc2 := 152) hX d_Mo_bestOf_151 rfl ?_
        refine sx_aload_n (pc2 := 153) hX 0 d_Mo_bestOf_152 rfl rfl rfl ?_
        refine sx_iconst (v := 3) (pc2 := 154) hX d_Mo_bestOf_153 (by decide) rfl ?_
        refine cl_Mo_233 (pc2 := 157) hX hK h  ⟨Nat.le_of_ble_eq_true rfl, Nat.le_of_ble_eq_true rfl⟩ (Nat.le_of_ble_eq_true rfl) d_Mo_bestOf_154 rfl (fun r5 σ5 τ5 h => ?_)
        refine sx_icmp_gt (tgt := 165) (pc2 := 160) hX d_Mo_bestOf_157 (by decide) rfl (fun hc6 => ?_) (fun hc6 => ?_)
        · replace h := sx_t h hc6
          refine sx_sub [(3, .int v3)] [3] rfl ?_
          exact g_Mo_bestOf_b165 hX hK hE   v3 _ _ h
        · replace h := sx_f h hc6
          refine sx_iload (pc2 := 162) hX 6 d_Mo_bestOf_160 rfl rfl ?_
          refine sx_goto (tgt := 166) hX d_Mo_bestOf_162 (by decide) ?_
          refine sx_sub [] [] rfl ?_
          exact g_Mo_bestOf_b166 hX hK hE   v6 _ _ h
    · replace h := sx_f h hc3
      refine sx_aload_n (pc2 := 34) hX 0 d_Mo_bestOf_33 rfl rfl rfl ?_
      refine fg_Mo_71 (pc2 := 37) hX (kr_50 hK) d_Mo_bestOf_34 rfl ?_
      refine sx_bipush (v := 96) (pc2 := 39) hX d_Mo_bestOf_37 (by decide) rfl ?_
      refine sx_bipush (v := 7) (pc2 := 41) hX d_Mo_bestOf_39 (by decide) rfl ?_
      refine sx_iload_n (pc2 := 42) hX 1 d_Mo_bestOf_41 rfl rfl rfl ?_
      refine sx_imul (pc2 := 43) hX d_Mo_bestOf_42 rfl ?_
      refine sx_iadd (pc2 := 44) hX d_Mo_bestOf_43 rfl ?_
      refine sx_iload (pc2 := 46) hX 7 d_Mo_bestOf_44 rfl rfl ?_
      refine sx_iadd (pc2 := 47) hX d_Mo_bestOf_46 rfl ?_
      obtain ⟨hc7, h⟩ := h
      refine sx_iald (pc2 := 48) hX (kr_68 hK) rfl hc7 d_Mo_bestOf_47 rfl ?_
      refine sx_istore (pc2 := 50) hX _ [(0, .ref (K.2.2.1 50 0 0)), (1, .int v1), (2, .int v2), (3, .int v3), (4, .int v4), (5, .int v5), (6, .int v6), (7, .int v7), (8, .int (σ 68 0 0 ((96 + (7 * v1)) + v7).toNatClampNeg))] [1, 2, 3, 4, 5, 6, 7, 8, 0] d_Mo_bestOf_48 (by decide) rfl rfl rfl ?_
      refine sx_aload_n (pc2 := 51) hX 0 d_Mo_bestOf_50 rfl rfl rfl ?_
      refine sx_iload_n (pc2 := 52) hX 1 d_Mo_bestOf_51 rfl rfl rfl ?_
      refine sx_iload (pc2 := 54) hX 7 d_Mo_bestOf_52 rfl rfl ?_
      refine cl_Mo_258 (pc2 := 57) hX hK h  ⟨Nat.le_of_ble_eq_true rfl, Nat.le_of_ble_eq_true rfl⟩ (Nat.le_of_ble_eq_true rfl) d_Mo_bestOf_54 rfl (fun r8 σ8 τ8 h => ?_)
      refine sx_if_eq (tgt := 136) (pc2 := 60) hX d_Mo_bestOf_57 (by decide) rfl (fun hc9 => ?_) (fun hc9 => ?_)
      · replace h := sx_t h hc9
        refine sx_sub [(0, .ref (K.2.2.1 50 0 0)), (1, .int v1), (2, .int v2), (3, .int v3), (4, .int v4), (5, .int v5), (6, .int v6), (7, .int v7)] [0, 1, 2, 3, 4, 5, 6, 7] rfl ?_
        exact g_Mo_bestOf_b136 hX hK hE  ih v1 v2 v3 v4 v5 v6 v7 _ _ h
      · replace h := sx_f h hc9
        refine sx_iload (pc2 := 62) hX 8 d_Mo_bestOf_60 rfl rfl ?_
        refine sx_sipush (v := 9999) (pc2 := 65) hX d_Mo_bestOf_62 (by decide) rfl ?_
        refine sx_icmp_ge (tgt := 136) (pc2 := 68) hX d_Mo_bestOf_65 (by decide) rfl (fun hc10 => ?_) (fun hc10 => ?_)
        · replace h := sx_t h hc10
          refine sx_sub [(0, .ref (K.2.2.1 50 0 0)), (1, .int v1), (2, .int v2), (3, .int v3), (4, .int v4), (5, .int v5), (6, .int v6), (7, .int v7)] [0, 1, 2, 3, 4, 5, 6, 7] rfl ?_
          exact g_Mo_bestOf_b136 hX hK hE  ih v1 v2 v3 v4 v5 v6 v7 _ _ h
        · replace h := sx_f h hc10
          refine sx_aload_n (pc2 := 69) hX 0 d_Mo_bestOf_68 rfl rfl rfl ?_
          refine fg_Mo_58 (pc2 := 72) hX (kr_50 hK) d_Mo_bestOf_69 rfl ?_
          refine sx_bipush (v := 49) (pc2 := 74) hX d_Mo_bestOf_72 (by decide) rfl ?_
          refine sx_aload_n (pc2 := 75) hX 0 d_Mo_bestOf_74 rfl rfl rfl ?_
          refine fg_Mo_170 (pc2 := 78) hX (kr_50 hK) d_Mo_bestOf_75 rfl ?_
          refine sx_imul (pc2 := 79) hX d_Mo_bestOf_78 rfl ?_
          refine sx_bipush (v := 7) (pc2 := 81) hX d_Mo_bestOf_79 (by decide) rfl ?_
          refine sx_iload_n (pc2 := 82) hX 1 d_Mo_bestOf_81 rfl rfl rfl ?_
          refine sx_imul (pc2 := 83) hX d_Mo_bestOf_82 rfl ?_
          refine sx_iadd (pc2 := 84) hX d_Mo_bestOf_83 rfl ?_
          refine sx_iload (pc2 := 86) hX 7 d_Mo_bestOf_84 rfl rfl ?_
          refine sx_iadd (pc2 := 87) hX d_Mo_bestOf_86 rfl ?_
          obtain ⟨hc11, h⟩ := h
          refine sx_iald (pc2 := 88) hX (kr_64 hK) rfl hc11 d_Mo_bestOf_87 rfl ?_
          refine sx_iload_n (pc2 := 89) hX 2 d_Mo_bestOf_88 rfl rfl rfl ?_
          refine sx_icmp_ne (tgt := 95) (pc2 := 92) hX d_Mo_bestOf_89 (by decide) rfl (fun hc12 => ?_) (fun hc12 => ?_)
          · replace h := sx_f h hc12
            refine sx_iload (pc2 := 97) hX 8 d_Mo_bestOf_95 rfl rfl ?_
            refine sx_aload_n (pc2 := 98) hX 0 d_Mo_bestOf_97 rfl rfl rfl ?_
            refine sx_iload_n (pc2 := 99) hX 1 d_Mo_bestOf_98 rfl rfl rfl ?_
            refine sx_iload (pc2 := 101) hX 7 d_Mo_bestOf_99 rfl rfl ?_
            refine cl_Mo_284 (pc2 := 104) hX hK h  ⟨Nat.le_of_ble_eq_true rfl, Nat.le_of_ble_eq_true rfl⟩ (Nat.le_of_ble_eq_true rfl) d_Mo_bestOf_101 rfl (fun r13 σ13 τ13 h => ?_)
            refine sx_iadd (pc2 := 105) hX d_Mo_bestOf_104 rfl ?_
            refine sx_istore (pc2 := 107) hX _ [(0, .ref (K.2.2.1 50 0 0)), (1, .int v1), (2, .int v2), (3, .int v3), (4, .int v4), (5, .int v5), (6, .int v6), (7, .int v7), (8, .int (σ 68 0 0 ((96 + (7 * v1)) + v7).toNatClampNeg)), (9, .int ((σ 68 0 0 ((96 + (7 * v1)) + v7).toNatClampNeg) + r13))] [1, 2, 3, 4, 5, 6, 7, 8, 9, 0] d_Mo_bestOf_105 (by decide) rfl rfl rfl ?_
            refine sx_iload_n (pc2 := 108) hX 3 d_Mo_bestOf_107 rfl rfl rfl ?_
            refine sx_if_lt (tgt := 118) (pc2 := 111) hX d_Mo_bestOf_108 (by decide) rfl (fun hc14 => ?_) (fun hc14 => ?_)
            · replace h := sx_t h hc14
              refine sx_sub [(0, .ref (K.2.2.1 50 0 0)), (1, .int v1), (2, .int v2), (5, .int v5), (6, .int v6), (7, .int v7), (9, .int ((σ 68 0 0 ((96 + (7 * v1)) + v7).toNatClampNeg) + r13))] [0, 1, 2, 5, 6, 7, 9] rfl ?_
              exact g_Mo_bestOf_b118 hX hK hE  ih v1 v2 v5 v6 v7 ((σ 68 0 0 ((96 + (7 * v1)) + v7).toNatClampNeg) + r13) _ _ h
            · replace h := sx_f h hc14
              refine sx_iload (pc2 := 113) hX 9 d_Mo_bestOf_111 rfl rfl ?_
              refine sx_iload (pc2 := 115) hX 4 d_Mo_bestOf_113 rfl rfl ?_
              refine sx_icmp_ge (tgt := 125) (pc2 := 118) hX d_Mo_bestOf_115 (by decide) rfl (fun hc15 => ?_) (fun hc15 => ?_)
              · replace h := sx_t h hc15
                refine sx_sub [(0, .ref (K.2.2.1 50 0 0)), (1, .int v1), (2, .int v2), (3, .int v3), (4, .int v4), (5, .int v5), (6, .int v6), (7, .int v7), (9, .int ((σ 68 0 0 ((96 + (7 * v1)) + v7).toNatClampNeg) + r13))] [0, 1, 2, 3, 4, 5, 6, 7, 9] rfl ?_
                exact g_Mo_bestOf_b125 hX hK hE  ih v1 v2 v3 v4 v5 v6 v7 ((σ 68 0 0 ((96 + (7 * v1)) + v7).toNatClampNeg) + r13) _ _ h
              · replace h := sx_f h hc15
                refine sx_sub [(0, .ref (K.2.2.1 50 0 0)), (1, .int v1), (2, .int v2), (5, .int v5), (6, .int v6), (7, .int v7), (9, .int ((σ 68 0 0 ((96 + (7 * v1)) + v7).toNatClampNeg) + r13))] [0, 1, 2, 5, 6, 7, 9] rfl ?_
                exact g_Mo_bestOf_b118 hX hK hE  ih v1 v2 v5 v6 v7 ((σ 68 0 0 ((96 + (7 * v1)) + v7).toNatClampNeg) + r13) _ _ h
          · replace h := sx_t h hc12
            refine sx_goto (tgt := 136) hX d_Mo_bestOf_92 (by decide) ?_
            refine sx_sub [(0, .ref (K.2.2.1 50 0 0)), (1, .int v1), (2, .int v2), (3, .int v3), (4, .int v4), (5, .int v5), (6, .int v6), (7, .int v7)] [0, 1, 2, 3, 4, 5, 6, 7] rfl ?_
            exact g_Mo_bestOf_b136 hX hK hE  ih v1 v2 v3 v4 v5 v6 v7 _ _ h
set_option maxRecDepth 100000 in
set_option maxHeartbeats 4000000 in
theorem c_Mo_bestOf {l : Launch} {K : sx_K} (hK : kx_F K) (x1 : Int32) (x2 : Int32) (σ : sx_M) (τ : sx_L) (Q : Int32 → sx_M → sx_L → Prop)  (h : wp_Mo_bestOf x1 x2 σ τ Q) : Met l y_Mo_bestOf (sx_wd y_Mo_bestOf prog_13_method_56_code 10 (some .int)) rm_Mo_bestOf (sx_Pc K [.ref (K.2.2.1 50 0 0), .int x1, .int x2] σ τ) (sx_Qi K Q) 0 0 (sx_A K) := by
  refine sx_met (by decide) (Nat.le_of_ble_eq_true rfl) (fun X hX hE => ?_)
  replace hX : sx_C X K prog_13_method_56_code 10 "SensorTreeModel" (some .int) rm_Mo_bestOf l := hX
  show sx_G X K 10 0 [(0, .ref (K.2.2.1 50 0 0)), (1, .int x1), (2, .int x2)] [] (sx_H K σ τ)
  unfold wp_Mo_bestOf at h
  refine sx_iconst (v := (-1)) (pc2 := 1) hX d_Mo_bestOf_0 (by decide) rfl ?_
  refine sx_istore_n (pc2 := 2) hX _ [(0, .ref (K.2.2.1 50 0 0)), (1, .int x1), (2, .int x2), (3, .int (-1))] [1, 2, 3, 0] d_Mo_bestOf_1 rfl (by decide) rfl rfl rfl ?_
  refine sx_iconst (v := 0) (pc2 := 3) hX d_Mo_bestOf_2 (by decide) rfl ?_
  refine sx_istore (pc2 := 5) hX _ [(0, .ref (K.2.2.1 50 0 0)), (1, .int x1), (2, .int x2), (3, .int (-1)), (4, .int 0)] [1, 2, 3, 4, 0] d_Mo_bestOf_3 (by decide) rfl rfl rfl ?_
  refine sx_iconst (v := (-1)) (pc2 := 6) hX d_Mo_bestOf_5 (by decide) rfl ?_
  refine sx_istore (pc2 := 8) hX _ [(0, .ref (K.2.2.1 50 0 0)), (1, .int x1), (2, .int x2), (3, .int (-1)), (4, .int 0), (5, .int (-1))] [1, 2, 3, 4, 5, 0] d_Mo_bestOf_6 (by decide) rfl rfl rfl ?_
  refine sx_aload_n (pc2 := 9) hX 0 d_Mo_bestOf_8 rfl rfl rfl ?_
  refine sx_iload_n (pc2 := 10) hX 1 d_Mo_bestOf_9 rfl rfl rfl ?_
  refine sx_iconst (v := 2) (pc2 := 11) hX d_Mo_bestOf_10 (by decide) rfl ?_
  refine cl_Mo_246 (pc2 := 14) hX hK h  ⟨Nat.le_of_ble_eq_true rfl, Nat.le_of_ble_eq_true rfl⟩ (Nat.le_of_ble_eq_true rfl) d_Mo_bestOf_11 rfl (fun r16 σ16 τ16 h => ?_)
  refine sx_istore (pc2 := 16) hX _ [(0, .ref (K.2.2.1 50 0 0)), (1, .int x1), (2, .int x2), (3, .int (-1)), (4, .int 0), (5, .int (-1)), (6, .int r16)] [1, 2, 3, 4, 5, 6, 0] d_Mo_bestOf_14 (by decide) rfl rfl rfl ?_
  refine sx_iconst (v := 0) (pc2 := 17) hX d_Mo_bestOf_16 (by decide) rfl ?_
  refine sx_istore (pc2 := 19) hX _ [(0, .ref (K.2.2.1 50 0 0)), (1, .int x1), (2, .int x2), (3, .int (-1)), (4, .int 0), (5, .int (-1)), (6, .int r16), (7, .int 0)] [1, 2, 3, 4, 5, 6, 7, 0] d_Mo_bestOf_17 (by decide) rfl rfl rfl ?_
  obtain ⟨f19, h⟩ := h
  exact g_Mo_bestOf_b19 hX hK hE   f19 x1 x2 (-1) 0 (-1) r16 0 _ _ h
theorem cl_Mo_287 {X : sx_T} {K : sx_K} {cc : ByteArray} {nL : Nat} {ret : Option FieldType} {rm : Room} {l : Launch} {pc pc2 : Nat} {lv : List (Nat × Value)} {st : List Value} {σ : sx_M} {τ : sx_L} {x1 : Int32} {x2 : Int32} {Q : Int32 → sx_M → sx_L → Prop} (hX : sx_C X K cc nL "SensorTreeModel" ret rm l) (hK : kx_F K) (h : wp_Mo_bestOf x1 x2 σ τ Q)  (hR : rm_Mo_bestOf.frames + 1 ≤ rm.frames ∧ 8 + (10 + 11) + rm_Mo_bestOf.locals ≤ rm.locals) (hst : (st.map fun v => v.category).sum ≤ 8) (hd : decode cc pc = .ok (.invokevirtual 287, 3)) (hpc : pc + 3 = pc2) (kk : ∀ (r : Int32) (σ2 : sx_M) (τ2 : sx_L), Q r σ2 τ2 → sx_G X K nL pc2 lv (.int r :: st) (sx_H K σ2 τ2)) : sx_G X K nL pc lv (.int x2 :: .int x1 :: .ref (K.2.2.1 50 0 0) :: st) (sx_H K σ τ) :=
  sx_callVi (Q := Q) (As := [.int x1, .int x2]) hX (c_Mo_bestOf hK x1 x2 σ τ Q  h) (kr_50 hK) rfl rfl lk_496 ls_75 hy_Mo_bestOf lk_494 lk_364 lk_495 ⟨rfl, rfl⟩ hR hst rfl hd hpc kk
def y_Mo_tells : MethodName := ⟨"SensorTreeModel", "tells", "(III)V"⟩
theorem hy_Mo_tells : y_Mo_tells.cls ≠ "java/lang/invoke/MethodHandle" ∧ y_Mo_tells.cls ≠ "java/lang/invoke/VarHandle" ∧ (parseMethodDescriptor y_Mo_tells.desc).map (fun d => d.parameters.length) = some 3 := by decide +kernel
theorem d_Mo_tells_0 : decode prog_13_method_59_code 0 = .ok (.iload_n 3, 1) := by decide +kernel
theorem d_Mo_tells_1 : decode prog_13_method_59_code 1 = .ok (.iconst 2, 1) := by decide +kernel
theorem d_Mo_tells_2 : decode prog_13_method_59_code 2 = .ok (.if_icmp .ne 19, 3) := by decide +kernel
theorem d_Mo_tells_5 : decode prog_13_method_59_code 5 = .ok (.aload_n 0, 1) := by decide +kernel
theorem d_Mo_tells_6 : decode prog_13_method_59_code 6 = .ok (.iconst 2, 1) := by decide +kernel
theorem d_Mo_tells_7 : decode prog_13_method_59_code 7 = .ok (.iload_n 1, 1) := by decide +kernel
theorem d_Mo_tells_8 : decode prog_13_method_59_code 8 = .ok (.iload_n 2, 1) := by decide +kernel
theorem d_Mo_tells_9 : decode prog_13_method_59_code 9 = .ok (.iload_n 1, 1) := by decide +kernel
theorem d_Mo_tells_10 : decode prog_13_method_59_code 10 = .ok (.iconst 1, 1) := by decide +kernel
theorem d_Mo_tells_11 : decode prog_13_method_59_code 11 = .ok (.iconst 0, 1) := by decide +kernel
theorem d_Mo_tells_12 : decode prog_13_method_59_code 12 = .ok (.aload_n 0, 1) := by decide +kernel
theorem d_Mo_tells_13 : decode prog_13_method_59_code 13 = .ok (.iload_n 1, 1) := by decide +kernel
theorem d_Mo_tells_14 : decode prog_13_method_59_code 14 = .ok (.iconst 5, 1) := by decide +kernel
theorem d_Mo_tells_15 : decode prog_13_method_59_code 15 = .ok (.invokevirtual 246, 3) := by decide +kernel
theorem d_Mo_tells_18 : decode prog_13_method_59_code 18 = .ok (.invokevirtual 280, 3) := by decide +kernel
theorem d_Mo_tells_21 : decode prog_13_method_59_code 21 = .ok (.iconst 0, 1) := by decide +kernel
theorem d_Mo_tells_22 : decode prog_13_method_59_code 22 = .ok (.istore 4, 2) := by decide +kernel
theorem d_Mo_tells_24 : decode prog_13_method_59_code 24 = .ok (.iload 4, 2) := by decide +kernel
theorem d_Mo_tells_26 : decode prog_13_method_59_code 26 = .ok (.aload_n 0, 1) := by decide +kernel
theorem d_Mo_tells_27 : decode prog_13_method_59_code 27 = .ok (.getfield 40, 3) := by decide +kernel
theorem d_Mo_tells_30 : decode prog_13_method_59_code 30 = .ok (.aload_n 0, 1) := by decide +kernel
theorem d_Mo_tells_31 : decode prog_13_method_59_code 31 = .ok (.getfield 170, 3) := by decide +kernel
theorem d_Mo_tells_34 : decode prog_13_method_59_code 34 = .ok (.iaload, 1) := by decide +kernel
theorem d_Mo_tells_35 : decode prog_13_method_59_code 35 = .ok (.if_icmp .ge 55, 3) := by decide +kernel
theorem d_Mo_tells_38 : decode prog_13_method_59_code 38 = .ok (.aload_n 0, 1) := by decide +kernel
theorem d_Mo_tells_39 : decode prog_13_method_59_code 39 = .ok (.getfield 71, 3) := by decide +kernel
theorem d_Mo_tells_42 : decode prog_13_method_59_code 42 = .ok (.sipush 145, 3) := by decide +kernel
theorem d_Mo_tells_45 : decode prog_13_method_59_code 45 = .ok (.bipush 7, 2) := by decide +kernel
theorem d_Mo_tells_47 : decode prog_13_method_59_code 47 = .ok (.iload_n 1, 1) := by decide +kernel
theorem d_Mo_tells_48 : decode prog_13_method_59_code 48 = .ok (.imul, 1) := by decide +kernel
theorem d_Mo_tells_49 : decode prog_13_method_59_code 49 = .ok (.iadd, 1) := by decide +kernel
theorem d_Mo_tells_50 : decode prog_13_method_59_code 50 = .ok (.iload 4, 2) := by decide +kernel
theorem d_Mo_tells_52 : decode prog_13_method_59_code 52 = .ok (.iadd, 1) := by decide +kernel
theorem d_Mo_tells_53 : decode prog_13_method_59_code 53 = .ok (.iaload, 1) := by decide +kernel
theorem d_Mo_tells_54 : decode prog_13_method_59_code 54 = .ok (.ifCond .lt 30, 3) := by decide +kernel
theorem d_Mo_tells_57 : decode prog_13_method_59_code 57 = .ok (.aload_n 0, 1) := by decide +kernel
theorem d_Mo_tells_58 : decode prog_13_method_59_code 58 = .ok (.iload_n 3, 1) := by decide +kernel
theorem d_Mo_tells_59 : decode prog_13_method_59_code 59 = .ok (.iload_n 1, 1) := by decide +kernel
theorem d_Mo_tells_60 : decode prog_13_method_59_code 60 = .ok (.iload_n 2, 1) := by decide +kernel
theorem d_Mo_tells_61 : decode prog_13_method_59_code 61 = .ok (.iload 4, 2) := by decide +kernel
theorem d_Mo_tells_63 : decode prog_13_method_59_code 63 = .ok (.iconst 1, 1) := by decide +kernel
theorem d_Mo_tells_64 : decode prog_13_method_59_code 64 = .ok (.iconst 0, 1) := by decide +kernel
theorem d_Mo_tells_65 : decode prog_13_method_59_code 65 = .ok (.aload_n 0, 1) := by decide +kernel
theorem d_Mo_tells_66 : decode prog_13_method_59_code 66 = .ok (.getfield 71, 3) := by decide +kernel
theorem d_Mo_tells_69 : decode prog_13_method_59_code 69 = .ok (.sipush 194, 3) := by decide +kernel
theorem d_Mo_tells_72 : decode prog_13_method_59_code 72 = .ok (.bipush 7, 2) := by decide +kernel
theorem d_Mo_tells_74 : decode prog_13_method_59_code 74 = .ok (.iload_n 1, 1) := by decide +kernel
theorem d_Mo_tells_75 : decode prog_13_method_59_code 75 = .ok (.imul, 1) := by decide +kernel
theorem d_Mo_tells_76 : decode prog_13_method_59_code 76 = .ok (.iadd, 1) := by decide +kernel
theorem d_Mo_tells_77 : decode prog_13_method_59_code 77 = .ok (.iload 4, 2) := by decide +kernel
theorem d_Mo_tells_79 : decode prog_13_method_59_code 79 = .ok (.iadd, 1) := by decide +kernel
theorem d_Mo_tells_80 : decode prog_13_method_59_code 80 = .ok (.iaload, 1) := by decide +kernel
theorem d_Mo_tells_81 : decode prog_13_method_59_code 81 = .ok (.invokevirtual 280, 3) := by decide +kernel
theorem d_Mo_tells_84 : decode prog_13_method_59_code 84 = .ok (.iinc 4 1, 3) := by decide +kernel
theorem d_Mo_tells_87 : decode prog_13_method_59_code 87 = .ok (.goto (-63), 3) := by decide +kernel
theorem d_Mo_tells_90 : decode prog_13_method_59_code 90 = .ok (.return_, 1) := by decide +kernel
def wp_Mo_tells_b84  (k24 : Int32 → Int32 → Int32 → Int32 → sx_M → sx_L → Prop) (Q : sx_M → sx_L → Prop) (v1 : Int32) (v2 : Int32) (v3 : Int32) (v4 : Int32) (σ : sx_M) (τ : sx_L) : Prop := k24 v1 v2 v3 (v4 + 1) σ τ
def wp_Mo_tells_b24   (Q : sx_M → sx_L → Prop) : Nat → Int32 → Int32 → Int32 → Int32 → sx_M → sx_L → Prop
  | 0, _, _, _, _, _, _ => False
  | f + 1, v1, v2, v3, v4, σ, τ => vp_in (σ 50 0 0 17) 2 ∧ (if σ 58 0 0 (σ 50 0 0 17).toNatClampNeg ≤ v4 then (Q σ τ) else (vp_in ((145 + (7 * v1)) + v4) 643 ∧ (if σ 68 0 0 ((145 + (7 * v1)) + v4).toNatClampNeg < 0 then (wp_Mo_tells_b84 (wp_Mo_tells_b24 Q f) Q v1 v2 v3 v4 σ τ) else (vp_in ((194 + (7 * v1)) + v4) 643 ∧ (wp_Mo_puts v3 v1 v2 v4 (1 : Int32) (0 : Int32) (σ 68 0 0 ((194 + (7 * v1)) + v4).toNatClampNeg) σ τ (fun σ6 τ6 => wp_Mo_tells_b84 (wp_Mo_tells_b24 Q f) Q v1 v2 v3 v4 σ6 τ6))))))
def wp_Mo_tells_b21   (Q : sx_M → sx_L → Prop) (v1 : Int32) (v2 : Int32) (v3 : Int32) (σ : sx_M) (τ : sx_L) : Prop := ∃ f24, wp_Mo_tells_b24 Q f24 v1 v2 v3 0 σ τ
def wp_Mo_tells (x1 : Int32) (x2 : Int32) (x3 : Int32) (σ : sx_M) (τ : sx_L) (Q : sx_M → sx_L → Prop) : Prop := if x3 = 2 then (wp_Mo_of x1 (5 : Int32) σ τ (fun r8 σ8 τ8 => wp_Mo_puts (2 : Int32) x1 x2 x1 (1 : Int32) (0 : Int32) r8 σ8 τ8 (fun σ9 τ9 => wp_Mo_tells_b21 Q x1 x2 x3 σ9 τ9))) else (wp_Mo_tells_b21 Q x1 x2 x3 σ τ)
abbrev rm_Mo_tells : Room := { frames := 1, cells := 0, slots := 0, locals := 28 }
set_option maxRecDepth 100000 in
set_option maxHeartbeats 4000000 in
theorem g_Mo_tells_b84 {l : Launch} {K : sx_K} {X : sx_T}  {k24 : Int32 → Int32 → Int32 → Int32 → sx_M → sx_L → Prop} {Q : sx_M → sx_L → Prop} (hX : sx_C X K prog_13_method_59_code 5 "SensorTreeModel" none rm_Mo_tells l) (hK : kx_F K) (hE : sx_E X K (sx_Qv K Q))  (hk24 : ∀ (v1 : Int32) (v2 : Int32) (v3 : Int32) (v4 : Int32) (σ : sx_M) (τ : sx_L) , k24 v1 v2 v3 v4 σ τ → sx_G X K 5 24 [(0, .ref (K.2.2.1 50 0 0)), (1, .int v1), (2, .int v2), (3, .int v3), (4, .int v4)] [] (sx_H K σ τ)) (v1 : Int32) (v2 : Int32) (v3 : Int32) (v4 : Int32) (σ : sx_M) (τ : sx_L)  (h : wp_Mo_tells_b84 k24 Q  v1 v2 v3 v4 σ τ) : sx_G X K 5 84 [(0, .ref (K.2.2.1 50 0 0)), (1, .int v1), (2, .int v2), (3, .int v3), (4, .int v4)] [] (sx_H K σ τ) := by
  unfold wp_Mo_tells_b84 at h
  refine sx_iinc (pc2 := 87) hX 4 _ [(0, .ref (K.2.2.1 50 0 0)), (1, .int v1), (2, .int v2), (3, .int v3), (4, .int (v4 + 1))] [1, 2, 3, 4, 0] d_Mo_tells_84 rfl (v4 + 1) rfl (by decide) rfl rfl rfl ?_
  refine sx_goto (tgt := 24) hX d_Mo_tells_87 (by decide) ?_
  exact hk24 v1 v2 v3 (v4 + 1) _ _ h
set_option maxRecDepth 100000 in
set_option maxHeartbeats 4000000 in
theorem g_Mo_tells_b24 {l : Launch} {K : sx_K} {X : sx_T}   {Q : sx_M → sx_L → Prop} (hX : sx_C X K prog_13_method_59_code 5 "SensorTreeModel" none rm_Mo_tells l) (hK : kx_F K) (hE : sx_E X K (sx_Qv K Q))  : ∀ (f : Nat) (v1 : Int32) (v2 : Int32) (v3 : Int32) (v4 : Int32) (σ : sx_M) (τ : sx_L) , wp_Mo_tells_b24 Q f v1 v2 v3 v4 σ τ → sx_G X K 5 24 [(0, .ref (K.2.2.1 50 0 0)), (1, .int v1), (2, .int v2), (3, .int v3), (4, .int v4)] [] (sx_H K σ τ) := by
  intro f
  induction f with
  | zero => intro v1 v2 v3 v4 σ τ h; exact (show False from h).elim
  | succ f ih =>
    intro v1 v2 v3 v4 σ τ h
    rw [wp_Mo_tells_b24] at h
    refine sx_iload (pc2 := 26) hX 4 d_Mo_tells_24 rfl rfl ?_
    refine sx_aload_n (pc2 := 27) hX 0 d_Mo_tells_26 rfl rfl rfl ?_
    refine fg_Mo_40 (pc2 := 30) hX (kr_50 hK) d_Mo_tells_27 rfl ?_
    refine sx_aload_n (pc2 := 31) hX 0 d_Mo_tells_30 rfl rfl rfl ?_
    refine fg_Mo_170 (pc2 := 34) hX (kr_50 hK) d_Mo_tells_31 rfl ?_
    obtain ⟨hc1, h⟩ := h
    refine sx_iald (pc2 := 35) hX (kr_58 hK) rfl hc1 d_Mo_tells_34 rfl ?_
    refine sx_icmp_ge (tgt := 90) (pc2 := 38) hX d_Mo_tells_35 (by decide) rfl (fun hc2 => ?_) (fun hc2 => ?_)
    · replace h := sx_t h hc2
      exact sx_vret hX hE h d_Mo_tells_90
    · replace h := sx_f h hc2
      refine sx_aload_n (pc2 := 39) hX 0 d_Mo_tells_38 rfl rfl rfl ?_
      refine fg_Mo_71 (pc2 := 42) hX (kr_50 hK) d_Mo_tells_39 rfl ?_
      refine sx_sipush (v := 145) (pc2 := 45) hX d_Mo_tells_42 (by decide) rfl ?_
      refine sx_bipush (v := 7) (pc2 := 47) hX d_Mo_tells_45 (by decide) rfl ?_
      refine sx_iload_n (pc2 := 48) hX 1 d_Mo_tells_47 rfl rfl rfl ?_
      refine sx_imul (pc2 := 49) hX d_Mo_tells_48 rfl ?_
      refine sx_iadd (pc2 := 50) hX d_Mo_tells_49 rfl ?_
      refine sx_iload (pc2 := 52) hX 4 d_Mo_tells_50 rfl rfl ?_
      refine sx_iadd (pc2 := 53) hX d_Mo_tells_52 rfl ?_
      obtain ⟨hc3, h⟩ := h
      refine sx_iald (pc2 := 54) hX (kr_68 hK) rfl hc3 d_Mo_tells_53 rfl ?_
      refine sx_if_lt (tgt := 84) (pc2 := 57) hX d_Mo_tells_54 (by decide) rfl (fun hc4 => ?_) (fun hc4 => ?_)
      · replace h := sx_t h hc4
        exact g_Mo_tells_b84 hX hK hE  ih v1 v2 v3 v4 _ _ h
      · replace h := sx_f h hc4
        refine sx_aload_n (pc2 := 58) hX 0 d_Mo_tells_57 rfl rfl rfl ?_
        refine sx_iload_n (pc2 := 59) hX 3 d_Mo_tells_58 rfl rfl rfl ?_
        refine sx_iload_n (pc2 := 60) hX 1 d_Mo_tells_59 rfl rfl rfl ?_
        refine sx_iload_n (pc2 := 61) hX 2 d_Mo_tells_60 rfl rfl rfl ?_
        refine sx_iload (pc2 := 63) hX 4 d_Mo_tells_61 rfl rfl ?_
        refine sx_iconst (v := 1) (pc2 := 64) hX d_Mo_tells_63 (by decide) rfl ?_
        refine sx_iconst (v := 0) (pc2 := 65) hX d_Mo_tells_64 (by decide) rfl ?_
        refine sx_aload_n (pc2 := 66) hX 0 d_Mo_tells_65 rfl rfl rfl ?_
        refine fg_Mo_71 (pc2 := 69) hX (kr_50 hK) d_Mo_tells_66 rfl ?_
        refine sx_sipush (v := 194) (pc2 := 72) hX d_Mo_tells_69 (by decide) rfl ?_
        refine sx_bipush (v := 7) (pc2 := 74) hX d_Mo_tells_72 (by decide) rfl ?_
        refine sx_iload_n (pc2 := 75) hX 1 d_Mo_tells_74 rfl rfl rfl ?_
        refine sx_imul (pc2 := 76) hX d_Mo_tells_75 rfl ?_
        refine sx_iadd (pc2 := 77) hX d_Mo_tells_76 rfl ?_
        refine sx_iload (pc2 := 79) hX 4 d_Mo_tells_77 rfl rfl ?_
        refine sx_iadd (pc2 := 80) hX d_Mo_tells_79 rfl ?_
        obtain ⟨hc5, h⟩ := h
        refine sx_iald (pc2 := 81) hX (kr_68 hK) rfl hc5 d_Mo_tells_80 rfl ?_
        refine cl_Mo_280 (pc2 := 84) hX hK h  ⟨Nat.le_of_ble_eq_true rfl, Nat.le_of_ble_eq_true rfl⟩ (Nat.le_of_ble_eq_true rfl) d_Mo_tells_81 rfl (fun σ6 τ6 h => ?_)
        exact g_Mo_tells_b84 hX hK hE  ih v1 v2 v3 v4 _ _ h
set_option maxRecDepth 100000 in
set_option maxHeartbeats 4000000 in
theorem g_Mo_tells_b21 {l : Launch} {K : sx_K} {X : sx_T}   {Q : sx_M → sx_L → Prop} (hX : sx_C X K prog_13_method_59_code 5 "SensorTreeModel" none rm_Mo_tells l) (hK : kx_F K) (hE : sx_E X K (sx_Qv K Q))  (v1 : Int32) (v2 : Int32) (v3 : Int32) (σ : sx_M) (τ : sx_L)  (h : wp_Mo_tells_b21 Q  v1 v2 v3 σ τ) : sx_G X K 5 21 [(0, .ref (K.2.2.1 50 0 0)), (1, .int v1), (2, .int v2), (3, .int v3)] [] (sx_H K σ τ) := by
  unfold wp_Mo_tells_b21 at h
  refine sx_iconst (v := 0) (pc2 := 22) hX d_Mo_tells_21 (by decide) rfl ?_
  refine sx_istore (pc2 := 24) hX _ [(0, .ref (K.2.2.1 50 0 0)), (1, .int v1), (2, .int v2), (3, .int v3), (4, .int 0)] [1, 2, 3, 4, 0] d_Mo_tells_22 (by decide) rfl rfl rfl ?_
  obtain ⟨f24, h⟩ := h
  exact g_Mo_tells_b24 hX hK hE   f24 v1 v2 v3 0 _ _ h
set_option maxRecDepth 100000 in
set_option maxHeartbeats 4000000 in
theorem c_Mo_tells {l : Launch} {K : sx_K} (hK : kx_F K) (x1 : Int32) (x2 : Int32) (x3 : Int32) (σ : sx_M) (τ : sx_L) (Q : sx_M → sx_L → Prop)  (h : wp_Mo_tells x1 x2 x3 σ τ Q) : Met l y_Mo_tells (sx_wd y_Mo_tells prog_13_method_59_code 5 none) rm_Mo_tells (sx_Pc K [.ref (K.2.2.1 50 0 0), .int x1, .int x2, .int x3] σ τ) (sx_Qv K Q) 0 0 (sx_A K) := by
  refine sx_met (by decide) (Nat.le_of_ble_eq_true rfl) (fun X hX hE => ?_)
  replace hX : sx_C X K prog_13_method_59_code 5 "SensorTreeModel" none rm_Mo_tells l := hX
  show sx_G X K 5 0 [(0, .ref (K.2.2.1 50 0 0)), (1, .int x1), (2, .int x2), (3, .int x3)] [] (sx_H K σ τ)
  unfold wp_Mo_tells at h
  refine sx_iload_n (pc2 := 1) hX 3 d_Mo_tells_0 rfl rfl rfl ?_
  refine sx_iconst (v := 2) (pc2 := 2) hX d_Mo_tells_1 (by decide) rfl ?_
  refine sx_icmp_ne (tgt := 21) (pc2 := 5) hX d_Mo_tells_2 (by decide) rfl (fun hc7 => ?_) (fun hc7 => ?_)
  · replace h := sx_f h hc7
    exact g_Mo_tells_b21 hX hK hE   x1 x2 x3 _ _ h
  · replace h := sx_t h hc7
    refine sx_aload_n (pc2 := 6) hX 0 d_Mo_tells_5 rfl rfl rfl ?_
    refine sx_iconst (v := 2) (pc2 := 7) hX d_Mo_tells_6 (by decide) rfl ?_
    refine sx_iload_n (pc2 := 8) hX 1 d_Mo_tells_7 rfl rfl rfl ?_
    refine sx_iload_n (pc2 := 9) hX 2 d_Mo_tells_8 rfl rfl rfl ?_
    refine sx_iload_n (pc2 := 10) hX 1 d_Mo_tells_9 rfl rfl rfl ?_
    refine sx_iconst (v := 1) (pc2 := 11) hX d_Mo_tells_10 (by decide) rfl ?_
    refine sx_iconst (v := 0) (pc2 := 12) hX d_Mo_tells_11 (by decide) rfl ?_
    refine sx_aload_n (pc2 := 13) hX 0 d_Mo_tells_12 rfl rfl rfl ?_
    refine sx_iload_n (pc2 := 14) hX 1 d_Mo_tells_13 rfl rfl rfl ?_
    refine sx_iconst (v := 5) (pc2 := 15) hX d_Mo_tells_14 (by decide) rfl ?_
    refine cl_Mo_246 (pc2 := 18) hX hK h  ⟨Nat.le_of_ble_eq_true rfl, Nat.le_of_ble_eq_true rfl⟩ (Nat.le_of_ble_eq_true rfl) d_Mo_tells_15 rfl (fun r8 σ8 τ8 h => ?_)
    refine cl_Mo_280 (pc2 := 21) hX hK h  ⟨Nat.le_of_ble_eq_true rfl, Nat.le_of_ble_eq_true rfl⟩ (Nat.le_of_ble_eq_true rfl) d_Mo_tells_18 rfl (fun σ9 τ9 h => ?_)
    exact g_Mo_tells_b21 hX hK hE   x1 x2 x3 _ _ h
theorem cl_Mo_290 {X : sx_T} {K : sx_K} {cc : ByteArray} {nL : Nat} {ret : Option FieldType} {rm : Room} {l : Launch} {pc pc2 : Nat} {lv : List (Nat × Value)} {st : List Value} {σ : sx_M} {τ : sx_L} {x1 : Int32} {x2 : Int32} {x3 : Int32} {Q : sx_M → sx_L → Prop} (hX : sx_C X K cc nL "SensorTreeModel" ret rm l) (hK : kx_F K) (h : wp_Mo_tells x1 x2 x3 σ τ Q)  (hR : rm_Mo_tells.frames + 1 ≤ rm.frames ∧ 8 + (5 + 11) + rm_Mo_tells.locals ≤ rm.locals) (hst : (st.map fun v => v.category).sum ≤ 8) (hd : decode cc pc = .ok (.invokevirtual 290, 3)) (hpc : pc + 3 = pc2) (kk : ∀ (σ2 : sx_M) (τ2 : sx_L), Q σ2 τ2 → sx_G X K nL pc2 lv (st) (sx_H K σ2 τ2)) : sx_G X K nL pc lv (.int x3 :: .int x2 :: .int x1 :: .ref (K.2.2.1 50 0 0) :: st) (sx_H K σ τ) :=
  sx_callVv (Q := Q) (As := [.int x1, .int x2, .int x3]) hX (c_Mo_tells hK x1 x2 x3 σ τ Q  h) (kr_50 hK) rfl rfl lk_490 ls_78 hy_Mo_tells lk_488 lk_364 lk_489 ⟨rfl, rfl⟩ hR hst rfl hd hpc kk
def y_Mo_reports : MethodName := ⟨"SensorTreeModel", "reports", "(I)V"⟩
theorem hy_Mo_reports : y_Mo_reports.cls ≠ "java/lang/invoke/MethodHandle" ∧ y_Mo_reports.cls ≠ "java/lang/invoke/VarHandle" ∧ (parseMethodDescriptor y_Mo_reports.desc).map (fun d => d.parameters.length) = some 1 := by decide +kernel
theorem d_Mo_reports_0 : decode prog_13_method_58_code 0 = .ok (.aload_n 0, 1) := by decide +kernel
theorem d_Mo_reports_1 : decode prog_13_method_58_code 1 = .ok (.iload_n 1, 1) := by decide +kernel
theorem d_Mo_reports_2 : decode prog_13_method_58_code 2 = .ok (.iconst 5, 1) := by decide +kernel
theorem d_Mo_reports_3 : decode prog_13_method_58_code 3 = .ok (.aload_n 0, 1) := by decide +kernel
theorem d_Mo_reports_4 : decode prog_13_method_58_code 4 = .ok (.iload_n 1, 1) := by decide +kernel
theorem d_Mo_reports_5 : decode prog_13_method_58_code 5 = .ok (.iconst 5, 1) := by decide +kernel
theorem d_Mo_reports_6 : decode prog_13_method_58_code 6 = .ok (.invokevirtual 246, 3) := by decide +kernel
theorem d_Mo_reports_9 : decode prog_13_method_58_code 9 = .ok (.iconst 1, 1) := by decide +kernel
theorem d_Mo_reports_10 : decode prog_13_method_58_code 10 = .ok (.iadd, 1) := by decide +kernel
theorem d_Mo_reports_11 : decode prog_13_method_58_code 11 = .ok (.invokevirtual 229, 3) := by decide +kernel
theorem d_Mo_reports_14 : decode prog_13_method_58_code 14 = .ok (.aload_n 0, 1) := by decide +kernel
theorem d_Mo_reports_15 : decode prog_13_method_58_code 15 = .ok (.iconst 1, 1) := by decide +kernel
theorem d_Mo_reports_16 : decode prog_13_method_58_code 16 = .ok (.iload_n 1, 1) := by decide +kernel
theorem d_Mo_reports_17 : decode prog_13_method_58_code 17 = .ok (.aload_n 0, 1) := by decide +kernel
theorem d_Mo_reports_18 : decode prog_13_method_58_code 18 = .ok (.iload_n 1, 1) := by decide +kernel
theorem d_Mo_reports_19 : decode prog_13_method_58_code 19 = .ok (.iconst 2, 1) := by decide +kernel
theorem d_Mo_reports_20 : decode prog_13_method_58_code 20 = .ok (.invokevirtual 246, 3) := by decide +kernel
theorem d_Mo_reports_23 : decode prog_13_method_58_code 23 = .ok (.iload_n 1, 1) := by decide +kernel
theorem d_Mo_reports_24 : decode prog_13_method_58_code 24 = .ok (.iconst 1, 1) := by decide +kernel
theorem d_Mo_reports_25 : decode prog_13_method_58_code 25 = .ok (.iconst 0, 1) := by decide +kernel
theorem d_Mo_reports_26 : decode prog_13_method_58_code 26 = .ok (.aload_n 0, 1) := by decide +kernel
theorem d_Mo_reports_27 : decode prog_13_method_58_code 27 = .ok (.iload_n 1, 1) := by decide +kernel
theorem d_Mo_reports_28 : decode prog_13_method_58_code 28 = .ok (.iconst 5, 1) := by decide +kernel
theorem d_Mo_reports_29 : decode prog_13_method_58_code 29 = .ok (.invokevirtual 246, 3) := by decide +kernel
theorem d_Mo_reports_32 : decode prog_13_method_58_code 32 = .ok (.invokevirtual 280, 3) := by decide +kernel
theorem d_Mo_reports_35 : decode prog_13_method_58_code 35 = .ok (.return_, 1) := by decide +kernel
def wp_Mo_reports (x1 : Int32) (σ : sx_M) (τ : sx_L) (Q : sx_M → sx_L → Prop) : Prop := wp_Mo_of x1 (5 : Int32) σ τ (fun r1 σ1 τ1 => wp_Mo_keeps x1 (5 : Int32) (r1 + 1) σ1 τ1 (fun σ2 τ2 => wp_Mo_of x1 (2 : Int32) σ2 τ2 (fun r3 σ3 τ3 => wp_Mo_of x1 (5 : Int32) σ3 τ3 (fun r4 σ4 τ4 => wp_Mo_puts (1 : Int32) x1 r3 x1 (1 : Int32) (0 : Int32) r4 σ4 τ4 (fun σ5 τ5 => Q σ5 τ5)))))
abbrev rm_Mo_reports : Room := { frames := 1, cells := 0, slots := 0, locals := 28 }
set_option maxRecDepth 100000 in
set_option maxHeartbeats 4000000 in
theorem c_Mo_reports {l : Launch} {K : sx_K} (hK : kx_F K) (x1 : Int32) (σ : sx_M) (τ : sx_L) (Q : sx_M → sx_L → Prop)  (h : wp_Mo_reports x1 σ τ Q) : Met l y_Mo_reports (sx_wd y_Mo_reports prog_13_method_58_code 2 none) rm_Mo_reports (sx_Pc K [.ref (K.2.2.1 50 0 0), .int x1] σ τ) (sx_Qv K Q) 0 0 (sx_A K) := by
  refine sx_met (by decide) (Nat.le_of_ble_eq_true rfl) (fun X hX hE => ?_)
  replace hX : sx_C X K prog_13_method_58_code 2 "SensorTreeModel" none rm_Mo_reports l := hX
  show sx_G X K 2 0 [(0, .ref (K.2.2.1 50 0 0)), (1, .int x1)] [] (sx_H K σ τ)
  unfold wp_Mo_reports at h
  refine sx_aload_n (pc2 := 1) hX 0 d_Mo_reports_0 rfl rfl rfl ?_
  refine sx_iload_n (pc2 := 2) hX 1 d_Mo_reports_1 rfl rfl rfl ?_
  refine sx_iconst (v := 5) (pc2 := 3) hX d_Mo_reports_2 (by decide) rfl ?_
  refine sx_aload_n (pc2 := 4) hX 0 d_Mo_reports_3 rfl rfl rfl ?_
  refine sx_iload_n (pc2 := 5) hX 1 d_Mo_reports_4 rfl rfl rfl ?_
  refine sx_iconst (v := 5) (pc2 := 6) hX d_Mo_reports_5 (by decide) rfl ?_
  refine cl_Mo_246 (pc2 := 9) hX hK h  ⟨Nat.le_of_ble_eq_true rfl, Nat.le_of_ble_eq_true rfl⟩ (Nat.le_of_ble_eq_true rfl) d_Mo_reports_6 rfl (fun r1 σ1 τ1 h => ?_)
  refine sx_iconst (v := 1) (pc2 := 10) hX d_Mo_reports_9 (by decide) rfl ?_
  refine sx_iadd (pc2 := 11) hX d_Mo_reports_10 rfl ?_
  refine cl_Mo_229 (pc2 := 14) hX hK h  ⟨Nat.le_of_ble_eq_true rfl, Nat.le_of_ble_eq_true rfl⟩ (Nat.le_of_ble_eq_true rfl) d_Mo_reports_11 rfl (fun σ2 τ2 h => ?_)
  refine sx_aload_n (pc2 := 15) hX 0 d_Mo_reports_14 rfl rfl rfl ?_
  refine sx_iconst (v := 1) (pc2 := 16) hX d_Mo_reports_15 (by decide) rfl ?_
  refine sx_iload_n (pc2 := 17) hX 1 d_Mo_reports_16 rfl rfl rfl ?_
  refine sx_aload_n (pc2 := 18) hX 0 d_Mo_reports_17 rfl rfl rfl ?_
  refine sx_iload_n (pc2 := 19) hX 1 d_Mo_reports_18 rfl rfl rfl ?_
  refine sx_iconst (v := 2) (pc2 := 20) hX d_Mo_reports_19 (by decide) rfl ?_
  refine cl_Mo_246 (pc2 := 23) hX hK h  ⟨Nat.le_of_ble_eq_true rfl, Nat.le_of_ble_eq_true rfl⟩ (Nat.le_of_ble_eq_true rfl) d_Mo_reports_20 rfl (fun r3 σ3 τ3 h => ?_)
  refine sx_iload_n (pc2 := 24) hX 1 d_Mo_reports_23 rfl rfl rfl ?_
  refine sx_iconst (v := 1) (pc2 := 25) hX d_Mo_reports_24 (by decide) rfl ?_
  refine sx_iconst (v := 0) (pc2 := 26) hX d_Mo_reports_25 (by decide) rfl ?_
  refine sx_aload_n (pc2 := 27) hX 0 d_Mo_reports_26 rfl rfl rfl ?_
  refine sx_iload_n (pc2 := 28) hX 1 d_Mo_reports_27 rfl rfl rfl ?_
  refine sx_iconst (v := 5) (pc2 := 29) hX d_Mo_reports_28 (by decide) rfl ?_
  refine cl_Mo_246 (pc2 := 32) hX hK h  ⟨Nat.le_of_ble_eq_true rfl, Nat.le_of_ble_eq_true rfl⟩ (Nat.le_of_ble_eq_true rfl) d_Mo_reports_29 rfl (fun r4 σ4 τ4 h => ?_)
  refine cl_Mo_280 (pc2 := 35) hX hK h  ⟨Nat.le_of_ble_eq_true rfl, Nat.le_of_ble_eq_true rfl⟩ (Nat.le_of_ble_eq_true rfl) d_Mo_reports_32 rfl (fun σ5 τ5 h => ?_)
  exact sx_vret hX hE h d_Mo_reports_35
theorem cl_Mo_293 {X : sx_T} {K : sx_K} {cc : ByteArray} {nL : Nat} {ret : Option FieldType} {rm : Room} {l : Launch} {pc pc2 : Nat} {lv : List (Nat × Value)} {st : List Value} {σ : sx_M} {τ : sx_L} {x1 : Int32} {Q : sx_M → sx_L → Prop} (hX : sx_C X K cc nL "SensorTreeModel" ret rm l) (hK : kx_F K) (h : wp_Mo_reports x1 σ τ Q)  (hR : rm_Mo_reports.frames + 1 ≤ rm.frames ∧ 8 + (2 + 11) + rm_Mo_reports.locals ≤ rm.locals) (hst : (st.map fun v => v.category).sum ≤ 8) (hd : decode cc pc = .ok (.invokevirtual 293, 3)) (hpc : pc + 3 = pc2) (kk : ∀ (σ2 : sx_M) (τ2 : sx_L), Q σ2 τ2 → sx_G X K nL pc2 lv (st) (sx_H K σ2 τ2)) : sx_G X K nL pc lv (.int x1 :: .ref (K.2.2.1 50 0 0) :: st) (sx_H K σ τ) :=
  sx_callVv (Q := Q) (As := [.int x1]) hX (c_Mo_reports hK x1 σ τ Q  h) (kr_50 hK) rfl rfl lk_487 ls_80 hy_Mo_reports lk_485 lk_364 lk_486 ⟨rfl, rfl⟩ hR hst rfl hd hpc kk
def y_Mo_chooses : MethodName := ⟨"SensorTreeModel", "chooses", "(I)V"⟩
theorem hy_Mo_chooses : y_Mo_chooses.cls ≠ "java/lang/invoke/MethodHandle" ∧ y_Mo_chooses.cls ≠ "java/lang/invoke/VarHandle" ∧ (parseMethodDescriptor y_Mo_chooses.desc).map (fun d => d.parameters.length) = some 1 := by decide +kernel
theorem d_Mo_chooses_0 : decode prog_13_method_57_code 0 = .ok (.iload_n 1, 1) := by decide +kernel
theorem d_Mo_chooses_1 : decode prog_13_method_57_code 1 = .ok (.ifCond .eq 20, 3) := by decide +kernel
theorem d_Mo_chooses_4 : decode prog_13_method_57_code 4 = .ok (.aload_n 0, 1) := by decide +kernel
theorem d_Mo_chooses_5 : decode prog_13_method_57_code 5 = .ok (.iload_n 1, 1) := by decide +kernel
theorem d_Mo_chooses_6 : decode prog_13_method_57_code 6 = .ok (.invokevirtual 252, 3) := by decide +kernel
theorem d_Mo_chooses_9 : decode prog_13_method_57_code 9 = .ok (.ifCond .eq 12, 3) := by decide +kernel
theorem d_Mo_chooses_12 : decode prog_13_method_57_code 12 = .ok (.aload_n 0, 1) := by decide +kernel
theorem d_Mo_chooses_13 : decode prog_13_method_57_code 13 = .ok (.iload_n 1, 1) := by decide +kernel
theorem d_Mo_chooses_14 : decode prog_13_method_57_code 14 = .ok (.iconst 4, 1) := by decide +kernel
theorem d_Mo_chooses_15 : decode prog_13_method_57_code 15 = .ok (.invokevirtual 246, 3) := by decide +kernel
theorem d_Mo_chooses_18 : decode prog_13_method_57_code 18 = .ok (.ifCond .le 4, 3) := by decide +kernel
theorem d_Mo_chooses_21 : decode prog_13_method_57_code 21 = .ok (.return_, 1) := by decide +kernel
theorem d_Mo_chooses_22 : decode prog_13_method_57_code 22 = .ok (.aload_n 0, 1) := by decide +kernel
theorem d_Mo_chooses_23 : decode prog_13_method_57_code 23 = .ok (.iload_n 1, 1) := by decide +kernel
theorem d_Mo_chooses_24 : decode prog_13_method_57_code 24 = .ok (.iconst 1, 1) := by decide +kernel
theorem d_Mo_chooses_25 : decode prog_13_method_57_code 25 = .ok (.invokevirtual 246, 3) := by decide +kernel
theorem d_Mo_chooses_28 : decode prog_13_method_57_code 28 = .ok (.istore_n 2, 1) := by decide +kernel
theorem d_Mo_chooses_29 : decode prog_13_method_57_code 29 = .ok (.aload_n 0, 1) := by decide +kernel
theorem d_Mo_chooses_30 : decode prog_13_method_57_code 30 = .ok (.iload_n 1, 1) := by decide +kernel
theorem d_Mo_chooses_31 : decode prog_13_method_57_code 31 = .ok (.iconst 2, 1) := by decide +kernel
theorem d_Mo_chooses_32 : decode prog_13_method_57_code 32 = .ok (.invokevirtual 246, 3) := by decide +kernel
theorem d_Mo_chooses_35 : decode prog_13_method_57_code 35 = .ok (.istore_n 3, 1) := by decide +kernel
theorem d_Mo_chooses_36 : decode prog_13_method_57_code 36 = .ok (.aload_n 0, 1) := by decide +kernel
theorem d_Mo_chooses_37 : decode prog_13_method_57_code 37 = .ok (.iload_n 1, 1) := by decide +kernel
theorem d_Mo_chooses_38 : decode prog_13_method_57_code 38 = .ok (.iconst (-1), 1) := by decide +kernel
theorem d_Mo_chooses_39 : decode prog_13_method_57_code 39 = .ok (.invokevirtual 287, 3) := by decide +kernel
theorem d_Mo_chooses_42 : decode prog_13_method_57_code 42 = .ok (.istore 4, 2) := by decide +kernel
theorem d_Mo_chooses_44 : decode prog_13_method_57_code 44 = .ok (.iload 4, 2) := by decide +kernel
theorem d_Mo_chooses_46 : decode prog_13_method_57_code 46 = .ok (.ifCond .ge 9, 3) := by decide +kernel
theorem d_Mo_chooses_49 : decode prog_13_method_57_code 49 = .ok (.sipush 9999, 3) := by decide +kernel
theorem d_Mo_chooses_52 : decode prog_13_method_57_code 52 = .ok (.goto 26, 3) := by decide +kernel
theorem d_Mo_chooses_55 : decode prog_13_method_57_code 55 = .ok (.aload_n 0, 1) := by decide +kernel
theorem d_Mo_chooses_56 : decode prog_13_method_57_code 56 = .ok (.getfield 71, 3) := by decide +kernel
theorem d_Mo_chooses_59 : decode prog_13_method_57_code 59 = .ok (.bipush 96, 2) := by decide +kernel
theorem d_Mo_chooses_61 : decode prog_13_method_57_code 61 = .ok (.bipush 7, 2) := by decide +kernel
theorem d_Mo_chooses_63 : decode prog_13_method_57_code 63 = .ok (.iload_n 1, 1) := by decide +kernel
theorem d_Mo_chooses_64 : decode prog_13_method_57_code 64 = .ok (.imul, 1) := by decide +kernel
theorem d_Mo_chooses_65 : decode prog_13_method_57_code 65 = .ok (.iadd, 1) := by decide +kernel
theorem d_Mo_chooses_66 : decode prog_13_method_57_code 66 = .ok (.iload 4, 2) := by decide +kernel
theorem d_Mo_chooses_68 : decode prog_13_method_57_code 68 = .ok (.iadd, 1) := by decide +kernel
theorem d_Mo_chooses_69 : decode prog_13_method_57_code 69 = .ok (.iaload, 1) := by decide +kernel
theorem d_Mo_chooses_70 : decode prog_13_method_57_code 70 = .ok (.aload_n 0, 1) := by decide +kernel
theorem d_Mo_chooses_71 : decode prog_13_method_57_code 71 = .ok (.iload_n 1, 1) := by decide +kernel
theorem d_Mo_chooses_72 : decode prog_13_method_57_code 72 = .ok (.iload 4, 2) := by decide +kernel
theorem d_Mo_chooses_74 : decode prog_13_method_57_code 74 = .ok (.invokevirtual 284, 3) := by decide +kernel
theorem d_Mo_chooses_77 : decode prog_13_method_57_code 77 = .ok (.iadd, 1) := by decide +kernel
theorem d_Mo_chooses_78 : decode prog_13_method_57_code 78 = .ok (.istore 5, 2) := by decide +kernel
theorem d_Mo_chooses_80 : decode prog_13_method_57_code 80 = .ok (.iload 4, 2) := by decide +kernel
theorem d_Mo_chooses_82 : decode prog_13_method_57_code 82 = .ok (.ifCond .lt 58, 3) := by decide +kernel
theorem d_Mo_chooses_85 : decode prog_13_method_57_code 85 = .ok (.iload 5, 2) := by decide +kernel
theorem d_Mo_chooses_87 : decode prog_13_method_57_code 87 = .ok (.aload_n 0, 1) := by decide +kernel
theorem d_Mo_chooses_88 : decode prog_13_method_57_code 88 = .ok (.iload_n 1, 1) := by decide +kernel
theorem d_Mo_chooses_89 : decode prog_13_method_57_code 89 = .ok (.iconst 3, 1) := by decide +kernel
theorem d_Mo_chooses_90 : decode prog_13_method_57_code 90 = .ok (.invokevirtual 246, 3) := by decide +kernel
theorem d_Mo_chooses_93 : decode prog_13_method_57_code 93 = .ok (.aload_n 0, 1) := by decide +kernel
theorem d_Mo_chooses_94 : decode prog_13_method_57_code 94 = .ok (.iconst 4, 1) := by decide +kernel
theorem d_Mo_chooses_95 : decode prog_13_method_57_code 95 = .ok (.invokevirtual 233, 3) := by decide +kernel
theorem d_Mo_chooses_98 : decode prog_13_method_57_code 98 = .ok (.iadd, 1) := by decide +kernel
theorem d_Mo_chooses_99 : decode prog_13_method_57_code 99 = .ok (.if_icmp .le 41, 3) := by decide +kernel
theorem d_Mo_chooses_102 : decode prog_13_method_57_code 102 = .ok (.iconst (-1), 1) := by decide +kernel
theorem d_Mo_chooses_103 : decode prog_13_method_57_code 103 = .ok (.istore 4, 2) := by decide +kernel
theorem d_Mo_chooses_105 : decode prog_13_method_57_code 105 = .ok (.sipush 9999, 3) := by decide +kernel
theorem d_Mo_chooses_108 : decode prog_13_method_57_code 108 = .ok (.istore 5, 2) := by decide +kernel
theorem d_Mo_chooses_110 : decode prog_13_method_57_code 110 = .ok (.aload_n 0, 1) := by decide +kernel
theorem d_Mo_chooses_111 : decode prog_13_method_57_code 111 = .ok (.iload_n 1, 1) := by decide +kernel
theorem d_Mo_chooses_112 : decode prog_13_method_57_code 112 = .ok (.iconst 3, 1) := by decide +kernel
theorem d_Mo_chooses_113 : decode prog_13_method_57_code 113 = .ok (.sipush 9999, 3) := by decide +kernel
theorem d_Mo_chooses_116 : decode prog_13_method_57_code 116 = .ok (.invokevirtual 229, 3) := by decide +kernel
theorem d_Mo_chooses_119 : decode prog_13_method_57_code 119 = .ok (.aload_n 0, 1) := by decide +kernel
theorem d_Mo_chooses_120 : decode prog_13_method_57_code 120 = .ok (.iload_n 1, 1) := by decide +kernel
theorem d_Mo_chooses_121 : decode prog_13_method_57_code 121 = .ok (.iconst 4, 1) := by decide +kernel
theorem d_Mo_chooses_122 : decode prog_13_method_57_code 122 = .ok (.aload_n 0, 1) := by decide +kernel
theorem d_Mo_chooses_123 : decode prog_13_method_57_code 123 = .ok (.iconst 5, 1) := by decide +kernel
theorem d_Mo_chooses_124 : decode prog_13_method_57_code 124 = .ok (.invokevirtual 233, 3) := by decide +kernel
theorem d_Mo_chooses_127 : decode prog_13_method_57_code 127 = .ok (.invokevirtual 229, 3) := by decide +kernel
theorem d_Mo_chooses_130 : decode prog_13_method_57_code 130 = .ok (.aload_n 0, 1) := by decide +kernel
theorem d_Mo_chooses_131 : decode prog_13_method_57_code 131 = .ok (.getfield 71, 3) := by decide +kernel
theorem d_Mo_chooses_134 : decode prog_13_method_57_code 134 = .ok (.iconst 4, 1) := by decide +kernel
theorem d_Mo_chooses_135 : decode prog_13_method_57_code 135 = .ok (.dup2, 1) := by decide +kernel
theorem d_Mo_chooses_136 : decode prog_13_method_57_code 136 = .ok (.iaload, 1) := by decide +kernel
theorem d_Mo_chooses_137 : decode prog_13_method_57_code 137 = .ok (.iconst 1, 1) := by decide +kernel
theorem d_Mo_chooses_138 : decode prog_13_method_57_code 138 = .ok (.iadd, 1) := by decide +kernel
theorem d_Mo_chooses_139 : decode prog_13_method_57_code 139 = .ok (.iastore, 1) := by decide +kernel
theorem d_Mo_chooses_140 : decode prog_13_method_57_code 140 = .ok (.iload 4, 2) := by decide +kernel
theorem d_Mo_chooses_142 : decode prog_13_method_57_code 142 = .ok (.ifCond .lt 22, 3) := by decide +kernel
theorem d_Mo_chooses_145 : decode prog_13_method_57_code 145 = .ok (.iload 5, 2) := by decide +kernel
theorem d_Mo_chooses_147 : decode prog_13_method_57_code 147 = .ok (.aload_n 0, 1) := by decide +kernel
theorem d_Mo_chooses_148 : decode prog_13_method_57_code 148 = .ok (.iload_n 1, 1) := by decide +kernel
theorem d_Mo_chooses_149 : decode prog_13_method_57_code 149 = .ok (.iconst 3, 1) := by decide +kernel
theorem d_Mo_chooses_150 : decode prog_13_method_57_code 150 = .ok (.invokevirtual 246, 3) := by decide +kernel
theorem d_Mo_chooses_153 : decode prog_13_method_57_code 153 = .ok (.if_icmp .ge 11, 3) := by decide +kernel
theorem d_Mo_chooses_156 : decode prog_13_method_57_code 156 = .ok (.aload_n 0, 1) := by decide +kernel
theorem d_Mo_chooses_157 : decode prog_13_method_57_code 157 = .ok (.iload_n 1, 1) := by decide +kernel
theorem d_Mo_chooses_158 : decode prog_13_method_57_code 158 = .ok (.iconst 3, 1) := by decide +kernel
theorem d_Mo_chooses_159 : decode prog_13_method_57_code 159 = .ok (.iload 5, 2) := by decide +kernel
theorem d_Mo_chooses_161 : decode prog_13_method_57_code 161 = .ok (.invokevirtual 229, 3) := by decide +kernel
theorem d_Mo_chooses_164 : decode prog_13_method_57_code 164 = .ok (.iload 4, 2) := by decide +kernel
theorem d_Mo_chooses_166 : decode prog_13_method_57_code 166 = .ok (.ifCond .ge 8, 3) := by decide +kernel
theorem d_Mo_chooses_169 : decode prog_13_method_57_code 169 = .ok (.bipush (-2), 2) := by decide +kernel
theorem d_Mo_chooses_171 : decode prog_13_method_57_code 171 = .ok (.goto 5, 3) := by decide +kernel
theorem d_Mo_chooses_174 : decode prog_13_method_57_code 174 = .ok (.iload 4, 2) := by decide +kernel
theorem d_Mo_chooses_176 : decode prog_13_method_57_code 176 = .ok (.istore 6, 2) := by decide +kernel
theorem d_Mo_chooses_178 : decode prog_13_method_57_code 178 = .ok (.aload_n 0, 1) := by decide +kernel
theorem d_Mo_chooses_179 : decode prog_13_method_57_code 179 = .ok (.iload_n 1, 1) := by decide +kernel
theorem d_Mo_chooses_180 : decode prog_13_method_57_code 180 = .ok (.iconst 1, 1) := by decide +kernel
theorem d_Mo_chooses_181 : decode prog_13_method_57_code 181 = .ok (.iload 5, 2) := by decide +kernel
theorem d_Mo_chooses_183 : decode prog_13_method_57_code 183 = .ok (.invokevirtual 229, 3) := by decide +kernel
theorem d_Mo_chooses_186 : decode prog_13_method_57_code 186 = .ok (.aload_n 0, 1) := by decide +kernel
theorem d_Mo_chooses_187 : decode prog_13_method_57_code 187 = .ok (.iload_n 1, 1) := by decide +kernel
theorem d_Mo_chooses_188 : decode prog_13_method_57_code 188 = .ok (.iconst 2, 1) := by decide +kernel
theorem d_Mo_chooses_189 : decode prog_13_method_57_code 189 = .ok (.iload 6, 2) := by decide +kernel
theorem d_Mo_chooses_191 : decode prog_13_method_57_code 191 = .ok (.invokevirtual 229, 3) := by decide +kernel
theorem d_Mo_chooses_194 : decode prog_13_method_57_code 194 = .ok (.iload 5, 2) := by decide +kernel
theorem d_Mo_chooses_196 : decode prog_13_method_57_code 196 = .ok (.iload_n 2, 1) := by decide +kernel
theorem d_Mo_chooses_197 : decode prog_13_method_57_code 197 = .ok (.if_icmp .eq 8, 3) := by decide +kernel
theorem d_Mo_chooses_200 : decode prog_13_method_57_code 200 = .ok (.aload_n 0, 1) := by decide +kernel
theorem d_Mo_chooses_201 : decode prog_13_method_57_code 201 = .ok (.iload_n 1, 1) := by decide +kernel
theorem d_Mo_chooses_202 : decode prog_13_method_57_code 202 = .ok (.invokevirtual 274, 3) := by decide +kernel
theorem d_Mo_chooses_205 : decode prog_13_method_57_code 205 = .ok (.iload 6, 2) := by decide +kernel
theorem d_Mo_chooses_207 : decode prog_13_method_57_code 207 = .ok (.iload_n 3, 1) := by decide +kernel
theorem d_Mo_chooses_208 : decode prog_13_method_57_code 208 = .ok (.if_icmp .ne 4, 3) := by decide +kernel
theorem d_Mo_chooses_211 : decode prog_13_method_57_code 211 = .ok (.return_, 1) := by decide +kernel
theorem d_Mo_chooses_212 : decode prog_13_method_57_code 212 = .ok (.iload_n 3, 1) := by decide +kernel
theorem d_Mo_chooses_213 : decode prog_13_method_57_code 213 = .ok (.ifCond .lt 10, 3) := by decide +kernel
theorem d_Mo_chooses_216 : decode prog_13_method_57_code 216 = .ok (.aload_n 0, 1) := by decide +kernel
theorem d_Mo_chooses_217 : decode prog_13_method_57_code 217 = .ok (.iload_n 1, 1) := by decide +kernel
theorem d_Mo_chooses_218 : decode prog_13_method_57_code 218 = .ok (.iload_n 3, 1) := by decide +kernel
theorem d_Mo_chooses_219 : decode prog_13_method_57_code 219 = .ok (.iconst 2, 1) := by decide +kernel
theorem d_Mo_chooses_220 : decode prog_13_method_57_code 220 = .ok (.invokevirtual 290, 3) := by decide +kernel
theorem d_Mo_chooses_223 : decode prog_13_method_57_code 223 = .ok (.iload 6, 2) := by decide +kernel
theorem d_Mo_chooses_225 : decode prog_13_method_57_code 225 = .ok (.ifCond .lt 16, 3) := by decide +kernel
theorem d_Mo_chooses_228 : decode prog_13_method_57_code 228 = .ok (.aload_n 0, 1) := by decide +kernel
theorem d_Mo_chooses_229 : decode prog_13_method_57_code 229 = .ok (.iload_n 1, 1) := by decide +kernel
theorem d_Mo_chooses_230 : decode prog_13_method_57_code 230 = .ok (.invokevirtual 293, 3) := by decide +kernel
theorem d_Mo_chooses_233 : decode prog_13_method_57_code 233 = .ok (.aload_n 0, 1) := by decide +kernel
theorem d_Mo_chooses_234 : decode prog_13_method_57_code 234 = .ok (.iload_n 1, 1) := by decide +kernel
theorem d_Mo_chooses_235 : decode prog_13_method_57_code 235 = .ok (.iload 6, 2) := by decide +kernel
theorem d_Mo_chooses_237 : decode prog_13_method_57_code 237 = .ok (.iconst 1, 1) := by decide +kernel
theorem d_Mo_chooses_238 : decode prog_13_method_57_code 238 = .ok (.invokevirtual 290, 3) := by decide +kernel
theorem d_Mo_chooses_241 : decode prog_13_method_57_code 241 = .ok (.return_, 1) := by decide +kernel
def wp_Mo_chooses_b241   (Q : sx_M → sx_L → Prop)  (σ : sx_M) (τ : sx_L) : Prop := Q σ τ
def wp_Mo_chooses_b223   (Q : sx_M → sx_L → Prop) (v1 : Int32) (v6 : Int32) (σ : sx_M) (τ : sx_L) : Prop := if v6 < 0 then (wp_Mo_chooses_b241 Q σ τ) else (wp_Mo_reports v1 σ τ (fun σ2 τ2 => wp_Mo_tells v1 v6 (1 : Int32) σ2 τ2 (fun σ3 τ3 => wp_Mo_chooses_b241 Q σ3 τ3)))
def wp_Mo_chooses_b205   (Q : sx_M → sx_L → Prop) (v1 : Int32) (v3 : Int32) (v6 : Int32) (σ : sx_M) (τ : sx_L) : Prop := if v6 = v3 then (Q σ τ) else (if v3 < 0 then (wp_Mo_chooses_b223 Q v1 v6 σ τ) else (wp_Mo_tells v1 v3 (2 : Int32) σ τ (fun σ6 τ6 => wp_Mo_chooses_b223 Q v1 v6 σ6 τ6)))
def wp_Mo_chooses_b176   (Q : sx_M → sx_L → Prop) (v1 : Int32) (v2 : Int32) (v3 : Int32) (v5 : Int32) (w0 : Int32) (σ : sx_M) (τ : sx_L) : Prop := wp_Mo_keeps v1 (1 : Int32) v5 σ τ (fun σ7 τ7 => wp_Mo_keeps v1 (2 : Int32) w0 σ7 τ7 (fun σ8 τ8 => if v5 = v2 then (wp_Mo_chooses_b205 Q v1 v3 w0 σ8 τ8) else (wp_Mo_beginsAnew v1 σ8 τ8 (fun σ10 τ10 => wp_Mo_chooses_b205 Q v1 v3 w0 σ10 τ10))))
def wp_Mo_chooses_b164   (Q : sx_M → sx_L → Prop) (v1 : Int32) (v2 : Int32) (v3 : Int32) (v4 : Int32) (v5 : Int32) (σ : sx_M) (τ : sx_L) : Prop := if 0 ≤ v4 then (wp_Mo_chooses_b176 Q v1 v2 v3 v5 v4 σ τ) else (wp_Mo_chooses_b176 Q v1 v2 v3 v5 (-2) σ τ)
def wp_Mo_chooses_b140   (Q : sx_M → sx_L → Prop) (v1 : Int32) (v2 : Int32) (v3 : Int32) (v4 : Int32) (v5 : Int32) (σ : sx_M) (τ : sx_L) : Prop := if v4 < 0 then (wp_Mo_chooses_b164 Q v1 v2 v3 v4 v5 σ τ) else (wp_Mo_of v1 (3 : Int32) σ τ (fun r13 σ13 τ13 => if r13 ≤ v5 then (wp_Mo_chooses_b164 Q v1 v2 v3 v4 v5 σ13 τ13) else (wp_Mo_keeps v1 (3 : Int32) v5 σ13 τ13 (fun σ15 τ15 => wp_Mo_chooses_b164 Q v1 v2 v3 v4 v5 σ15 τ15))))
def wp_Mo_chooses_b78   (Q : sx_M → sx_L → Prop) (v1 : Int32) (v2 : Int32) (v3 : Int32) (v4 : Int32) (w0 : Int32) (σ : sx_M) (τ : sx_L) : Prop := if v4 < 0 then (wp_Mo_chooses_b140 Q v1 v2 v3 v4 w0 σ τ) else (wp_Mo_of v1 (3 : Int32) σ τ (fun r17 σ17 τ17 => wp_Mo_setting (4 : Int32) σ17 τ17 (fun r18 σ18 τ18 => if w0 ≤ r17 + r18 then (wp_Mo_chooses_b140 Q v1 v2 v3 v4 w0 σ18 τ18) else (wp_Mo_keeps v1 (3 : Int32) (9999 : Int32) σ18 τ18 (fun σ20 τ20 => wp_Mo_setting (5 : Int32) σ20 τ20 (fun r21 σ21 τ21 => wp_Mo_keeps v1 (4 : Int32) r21 σ21 τ21 (fun σ22 τ22 => vp_in 4 643 ∧ (vp_in 4 643 ∧ (∀ σ25 : sx_M, σ25 = sx_u σ22 68 0 0 (4 : Int32).toNatClampNeg ((σ22 68 0 0 (4 : Int32).toNatClampNeg) + 1) → (wp_Mo_chooses_b140 Q v1 v2 v3 (-1) 9999 σ25 τ22))))))))))
def wp_Mo_chooses_b21   (Q : sx_M → sx_L → Prop)  (σ : sx_M) (τ : sx_L) : Prop := Q σ τ
def wp_Mo_chooses (x1 : Int32) (σ : sx_M) (τ : sx_L) (Q : sx_M → sx_L → Prop) : Prop := if x1 = 0 then (wp_Mo_chooses_b21 Q σ τ) else (wp_Mo_isOn x1 σ τ (fun r27 σ27 τ27 => if r27 = 0 then (wp_Mo_chooses_b21 Q σ27 τ27) else (wp_Mo_of x1 (4 : Int32) σ27 τ27 (fun r29 σ29 τ29 => if r29 ≤ 0 then (wp_Mo_of x1 (1 : Int32) σ29 τ29 (fun r31 σ31 τ31 => wp_Mo_of x1 (2 : Int32) σ31 τ31 (fun r32 σ32 τ32 => wp_Mo_bestOf x1 (-1 : Int32) σ32 τ32 (fun r33 σ33 τ33 => if 0 ≤ r33 then (vp_in ((96 + (7 * x1)) + r33) 643 ∧ (wp_Mo_stepTo x1 r33 σ33 τ33 (fun r36 σ36 τ36 => wp_Mo_chooses_b78 Q x1 r31 r32 r33 ((σ33 68 0 0 ((96 + (7 * x1)) + r33).toNatClampNeg) + r36) σ36 τ36))) else (wp_Mo_chooses_b78 Q x1 r31 r32 r33 9999 σ33 τ33))))) else (wp_Mo_chooses_b21 Q σ29 τ29)))))
abbrev rm_Mo_chooses : Room := { frames := 4, cells := 0, slots := 0, locals := 87 }
set_option maxRecDepth 100000 in
set_option maxHeartbeats 4000000 in
theorem g_Mo_chooses_b241 {l : Launch} {K : sx_K} {X : sx_T}   {Q : sx_M → sx_L → Prop} (hX : sx_C X K prog_13_method_57_code 7 "SensorTreeModel" none rm_Mo_chooses l) (hK : kx_F K) (hE : sx_E X K (sx_Qv K Q))   (σ : sx_M) (τ : sx_L)  (h : wp_Mo_chooses_b241 Q  σ τ) : sx_G X K 7 241 [] [] (sx_H K σ τ) := by
  unfold wp_Mo_chooses_b241 at h
  exact sx_vret hX hE h d_Mo_chooses_241
set_option maxRecDepth 100000 in
set_option maxHeartbeats 4000000 in
theorem g_Mo_chooses_b223 {l : Launch} {K : sx_K} {X : sx_T}   {Q : sx_M → sx_L → Prop} (hX : sx_C X K prog_13_method_57_code 7 "SensorTreeModel" none rm_Mo_chooses l) (hK : kx_F K) (hE : sx_E X K (sx_Qv K Q))  (v1 : Int32) (v6 : Int32) (σ : sx_M) (τ : sx_L)  (h : wp_Mo_chooses_b223 Q  v1 v6 σ τ) : sx_G X K 7 223 [(0, .ref (K.2.2.1 50 0 0)), (1, .int v1), (6, .int v6)] [] (sx_H K σ τ) := by
  unfold wp_Mo_chooses_b223 at h
  refine sx_iload (pc2 := 225) hX 2 d_Mo_chooses_223 rfl rfl ?_
  refine sx_if_lt (tgt := 241) (pc2 := 228) hX d_Mo_chooses_225 (by decide) rfl (fun hc1 => ?_) (fun hc1 => ?_)
  · replace h := sx_t h hc1
    refine sx_sub [] [] rfl ?_
    exact g_Mo_chooses_b241 hX hK hE   _ _ h
  · replace h := sx_f h hc1
    refine sx_aload_n (pc2 := 229) hX 0 d_Mo_chooses_228 rfl rfl rfl ?_
    refine sx_iload_n (pc2 := 230) hX 1 d_Mo_chooses_229 rfl rfl rfl ?_
    refine cl_Mo_293 (pc2 := 233) hX hK h  ⟨Nat.le_of_ble_eq_true rfl, Nat.le_of_ble_eq_true rfl⟩ (Nat.le_of_ble_eq_true rfl) d_Mo_chooses_230 rfl (fun σ2 τ2 h => ?_)
    refine sx_aload_n (pc2 := 234) hX 0 d_Mo_chooses_233 rfl rfl rfl ?_
    refine sx_iload_n (pc2 := 235) hX 1 d_Mo_chooses_234 rfl rfl rfl ?_
    refine sx_iload (pc2 := 237) hX 2 d_Mo_chooses_235 rfl rfl ?_
    refine sx_iconst (v := 1) (pc2 := 238) hX d_Mo_chooses_237 (by decide) rfl ?_
    refine cl_Mo_290 (pc2 := 241) hX hK h  ⟨Nat.le_of_ble_eq_true rfl, Nat.le_of_ble_eq_true rfl⟩ (Nat.le_of_ble_eq_true rfl) d_Mo_chooses_238 rfl (fun σ3 τ3 h => ?_)
    refine sx_sub [] [] rfl ?_
    exact g_Mo_chooses_b241 hX hK hE   _ _ h
set_option maxRecDepth 100000 in
set_option maxHeartbeats 4000000 in
theorem g_Mo_chooses_b205 {l : Launch} {K : sx_K} {X : sx_T}   {Q : sx_M → sx_L → Prop} (hX : sx_C X K prog_13_method_57_code 7 "SensorTreeModel" none rm_Mo_chooses l) (hK : kx_F K) (hE : sx_E X K (sx_Qv K Q))  (v1 : Int32) (v3 : Int32) (v6 : Int32) (σ : sx_M) (τ : sx_L)  (h : wp_Mo_chooses_b205 Q  v1 v3 v6 σ τ) : sx_G X K 7 205 [(0, .ref (K.2.2.1 50 0 0)), (1, .int v1), (3, .int v3), (6, .int v6)] [] (sx_H K σ τ) := by
  unfold wp_Mo_chooses_b205 at h
  refine sx_iload (pc2 := 207) hX 3 d_Mo_chooses_205 rfl rfl ?_
  refine sx_iload_n (pc2 := 208) hX 2 d_Mo_chooses_207 rfl rfl rfl ?_
  refine sx_icmp_ne (tgt := 212) (pc2 := 211) hX d_Mo_chooses_208 (by decide) rfl (fun hc4 => ?_) (fun hc4 => ?_)
  · replace h := sx_f h hc4
    refine sx_iload_n (pc2 := 213) hX 2 d_Mo_chooses_212 rfl rfl rfl ?_
    refine sx_if_lt (tgt := 223) (pc2 := 216) hX d_Mo_chooses_213 (by decide) rfl (fun hc5 => ?_) (fun hc5 => ?_)
    · replace h := sx_t h hc5
      refine sx_sub [(0, .ref (K.2.2.1 50 0 0)), (1, .int v1), (6, .int v6)] [0, 1, 3] rfl ?_
      exact g_Mo_chooses_b223 hX hK hE   v1 v6 _ _ h
    · replace h := sx_f h hc5
      refine sx_aload_n (pc2 := 217) hX 0 d_Mo_chooses_216 rfl rfl rfl ?_
      refine sx_iload_n (pc2 := 218) hX 1 d_Mo_chooses_217 rfl rfl rfl ?_
      refine sx_iload_n (pc2 := 219) hX 2 d_Mo_chooses_218 rfl rfl rfl ?_
      refine sx_iconst (v := 2) (pc2 := 220) hX d_Mo_chooses_219 (by decide) rfl ?_
      refine cl_Mo_290 (pc2 := 223) hX hK h  ⟨Nat.le_of_ble_eq_true rfl, Nat.le_of_ble_eq_true rfl⟩ (Nat.le_of_ble_eq_true rfl) d_Mo_chooses_220 rfl (fun σ6 τ6 h => ?_)
      refine sx_sub [(0, .ref (K.2.2.1 50 0 0)), (1, .int v1), (6, .int v6)] [0, 1, 3] rfl ?_
      exact g_Mo_chooses_b223 hX hK hE   v1 v6 _ _ h
  · replace h := sx_t h hc4
    exact sx_vret hX hE h d_Mo_chooses_211
set_option maxRecDepth 100000 in
set_option maxHeartbeats 4000000 in
theorem g_Mo_chooses_b176 {l : Launch} {K : sx_K} {X : sx_T}   {Q : sx_M → sx_L → Prop} (hX : sx_C X K prog_13_method_57_code 7 "SensorTreeModel" none rm_Mo_chooses l) (hK : kx_F K) (hE : sx_E X K (sx_Qv K Q))  (v1 : Int32) (v2 : Int32) (v3 : Int32) (v5 : Int32) (w0 : Int32) (σ : sx_M) (τ : sx_L)  (h : wp_Mo_chooses_b176 Q  v1 v2 v3 v5 w0 σ τ) : sx_G X K 7 176 [(0, .ref (K.2.2.1 50 0 0)), (1, .int v1), (2, .int v2), (3, .int v3), (5, .int v5)] [.int w0] (sx_H K σ τ) := by
  unfold wp_Mo_chooses_b176 at h
  refine sx_istore (pc2 := 178) hX _ [(0, .ref (K.2.2.1 50 0 0)), (1, .int v1), (2, .int v2), (3, .int v3), (5, .int v5), (6, .int w0)] [1, 2, 3, 4, 5, 0] d_Mo_chooses_176 (by decide) rfl rfl rfl ?_
  refine sx_aload_n (pc2 := 179) hX 0 d_Mo_chooses_178 rfl rfl rfl ?_
  refine sx_iload_n (pc2 := 180) hX 1 d_Mo_chooses_179 rfl rfl rfl ?_
  refine sx_iconst (v := 1) (pc2 := 181) hX d_Mo_chooses_180 (by decide) rfl ?_
  refine sx_iload (pc2 := 183) hX 4 d_Mo_chooses_181 rfl rfl ?_
  refine cl_Mo_229 (pc2 := 186) hX hK h  ⟨Nat.le_of_ble_eq_true rfl, Nat.le_of_ble_eq_true rfl⟩ (Nat.le_of_ble_eq_true rfl) d_Mo_chooses_183 rfl (fun σ7 τ7 h => ?_)
  refine sx_aload_n (pc2 := 187) hX 0 d_Mo_chooses_186 rfl rfl rfl ?_
  refine sx_iload_n (pc2 := 188) hX 1 d_Mo_chooses_187 rfl rfl rfl ?_
  refine sx_iconst (v := 2) (pc2 := 189) hX d_Mo_chooses_188 (by decide) rfl ?_
  refine sx_iload (pc2 := 191) hX 5 d_Mo_chooses_189 rfl rfl ?_
  refine cl_Mo_229 (pc2 := 194) hX hK h  ⟨Nat.le_of_ble_eq_true rfl, Nat.le_of_ble_eq_true rfl⟩ (Nat.le_of_ble_eq_true rfl) d_Mo_chooses_191 rfl (fun σ8 τ8 h => ?_)
  refine sx_iload (pc2 := 196) hX 4 d_Mo_chooses_194 rfl rfl ?_
  refine sx_iload_n (pc2 := 197) hX 2 d_Mo_chooses_196 rfl rfl rfl ?_
  refine sx_icmp_eq (tgt := 205) (pc2 := 200) hX d_Mo_chooses_197 (by decide) rfl (fun hc9 => ?_) (fun hc9 => ?_)
  · replace h := sx_t h hc9
    refine sx_sub [(0, .ref (K.2.2.1 50 0 0)), (1, .int v1), (3, .int v3), (6, .int w0)] [0, 1, 3, 5] rfl ?_
    exact g_Mo_chooses_b205 hX hK hE   v1 v3 w0 _ _ h
  · replace h := sx_f h hc9
    refine sx_aload_n (pc2 := 201) hX 0 d_Mo_chooses_200 rfl rfl rfl ?_
    refine sx_iload_n (pc2 := 202) hX 1 d_Mo_chooses_201 rfl rfl rfl ?_
    refine cl_Mo_274 (pc2 := 205) hX hK h  ⟨Nat.le_of_ble_eq_true rfl, Nat.le_of_ble_eq_true rfl⟩ (Nat.le_of_ble_eq_true rfl) d_Mo_chooses_202 rfl (fun σ10 τ10 h => ?_)
    refine sx_sub [(0, .ref (K.2.2.1 50 0 0)), (1, .int v1), (3, .int v3), (6, .int w0)] [0, 1, 3, 5] rfl ?_
    exact g_Mo_chooses_b205 hX hK hE   v1 v3 w0 _ _ h
set_option maxRecDepth 100000 in
set_option maxHeartbeats 4000000 in
theorem g_Mo_chooses_b164 {l : Launch} {K : sx_K} {X : sx_T}   {Q : sx_M → sx_L → Prop} (hX : sx_C X K prog_13_method_57_code 7 "SensorTreeModel" none rm_Mo_chooses l) (hK : kx_F K) (hE : sx_E X K (sx_Qv K Q))  (v1 : Int32) (v2 : Int32) (v3 : Int32) (v4 : Int32) (v5 : Int32) (σ : sx_M) (τ : sx_L)  (h : wp_Mo_chooses_b164 Q  v1 v2 v3 v4 v5 σ τ) : sx_G X K 7 164 [(0, .ref (K.2.2.1 50 0 0)), (1, .int v1), (2, .int v2), (3, .int v3), (4, .int v4), (5, .int v5)] [] (sx_H K σ τ) := by
  unfold wp_Mo_chooses_b164 at h
  refine sx_iload (pc2 := 166) hX 4 d_Mo_chooses_164 rfl rfl ?_
  refine sx_if_ge (tgt := 174) (pc2 := 169) hX d_Mo_chooses_166 (by decide) rfl (fun hc11 => ?_) (fun hc11 => ?_)
  · replace h := sx_t h hc11
    refine sx_iload (pc2 := 176) hX 4 d_Mo_chooses_174 rfl rfl ?_
    refine sx_sub [(0, .ref (K.2.2.1 50 0 0)), (1, .int v1), (2, .int v2), (3, .int v3), (5, .int v5)] [0, 1, 2, 3, 5] rfl ?_
    exact g_Mo_chooses_b176 hX hK hE   v1 v2 v3 v5 v4 _ _ h
  · replace h := sx_f h hc11
    refine sx_bipush (v := (-2)) (pc2 := 171) hX d_Mo_chooses_169 (by decide) rfl ?_
    refine sx_goto (tgt := 176) hX d_Mo_chooses_171 (by decide) ?_
    refine sx_sub [(0, .ref (K.2.2.1 50 0 0)), (1, .int v1), (2, .int v2), (3, .int v3), (5, .int v5)] [0, 1, 2, 3, 5] rfl ?_
    exact g_Mo_chooses_b176 hX hK hE   v1 v2 v3 v5 (-2) _ _ h
set_option maxRecDepth 100000 in
set_option maxHeartbeats 4000000 in
theorem g_Mo_chooses_b140 {l : Launch} {K : sx_K} {X : sx_T}   {Q : sx_M → sx_L → Prop} (hX : sx_C X K prog_13_method_57_code 7 "SensorTreeModel" none rm_Mo_chooses l) (hK : kx_F K) (hE : sx_E X K (sx_Qv K Q))  (v1 : Int32) (v2 : Int32) (v3 : Int32) (v4 : Int32) (v5 : Int32) (σ : sx_M) (τ : sx_L)  (h : wp_Mo_chooses_b140 Q  v1 v2 v3 v4 v5 σ τ) : sx_G X K 7 140 [(0, .ref (K.2.2.1 50 0 0)), (1, .int v1), (2, .int v2), (3, .int v3), (4, .int v4), (5, .int v5)] [] (sx_H K σ τ) := by
  unfold wp_Mo_chooses_b140 at h
  refine sx_iload (pc2 := 142) hX 4 d_Mo_chooses_140 rfl rfl ?_
  refine sx_if_lt (tgt := 164) (pc2 := 145) hX d_Mo_chooses_142 (by decide) rfl (fun hc12 => ?_) (fun hc12 => ?_)
  · replace h := sx_t h hc12
    exact g_Mo_chooses_b164 hX hK hE   v1 v2 v3 v4 v5 _ _ h
  · replace h := sx_f h hc12
    refine sx_iload (pc2 := 147) hX 5 d_Mo_chooses_145 rfl rfl ?_
    refine sx_aload_n (pc2 := 148) hX 0 d_Mo_chooses_147 rfl rfl rfl ?_
    refine sx_iload_n (pc2 := 149) hX 1 d_Mo_chooses_148 rfl rfl rfl ?_
    refine sx_iconst (v := 3) (pc2 := 150) hX d_Mo_chooses_149 (by decide) rfl ?_
    refine cl_Mo_246 (pc2 := 153) hX hK h  ⟨Nat.le_of_ble_eq_true rfl, Nat.le_of_ble_eq_true rfl⟩ (Nat.le_of_ble_eq_true rfl) d_Mo_chooses_150 rfl (fun r13 σ13 τ13 h => ?_)
    refine sx_icmp_ge (tgt := 164) (pc2 := 156) hX d_Mo_chooses_153 (by decide) rfl (fun hc14 => ?_) (fun hc14 => ?_)
    · replace h := sx_t h hc14
      exact g_Mo_chooses_b164 hX hK hE   v1 v2 v3 v4 v5 _ _ h
    · replace h := sx_f h hc14
      refine sx_aload_n (pc2 := 157) hX 0 d_Mo_chooses_156 rfl rfl rfl ?_
      refine sx_iload_n (pc2 := 158) hX 1 d_Mo_chooses_157 rfl rfl rfl ?_
      refine sx_iconst (v := 3) (pc2 := 159) hX d_Mo_chooses_158 (by decide) rfl ?_
      refine sx_iload (pc2 := 161) hX 5 d_Mo_chooses_159 rfl rfl ?_
      refine cl_Mo_229 (pc2 := 164) hX hK h  ⟨Nat.le_of_ble_eq_true rfl, Nat.le_of_ble_eq_true rfl⟩ (Nat.le_of_ble_eq_true rfl) d_Mo_chooses_161 rfl (fun σ15 τ15 h => ?_)
      exact g_Mo_chooses_b164 hX hK hE   v1 v2 v3 v4 v5 _ _ h
set_option maxRecDepth 100000 in
set_option maxHeartbeats 4000000 in
theorem g_Mo_chooses_b78 {l : Launch} {K : sx_K} {X : sx_T}   {Q : sx_M → sx_L → Prop} (hX : sx_C X K prog_13_method_57_code 7 "SensorTreeModel" none rm_Mo_chooses l) (hK : kx_F K) (hE : sx_E X K (sx_Qv K Q))  (v1 : Int32) (v2 : Int32) (v3 : Int32) (v4 : Int32) (w0 : Int32) (σ : sx_M) (τ : sx_L)  (h : wp_Mo_chooses_b78 Q  v1 v2 v3 v4 w0 σ τ) : sx_G X K 7 78 [(0, .ref (K.2.2.1 50 0 0)), (1, .int v1), (2, .int v2), (3, .int v3), (4, .int v4)] [.int w0] (sx_H K σ τ) := by
  unfold wp_Mo_chooses_b78 at h
  refine sx_istore (pc2 := 80) hX _ [(0, .ref (K.2.2.1 50 0 0)), (1, .int v1), (2, .int v2), (3, .int v3), (4, .int v4), (5, .int w0)] [1, 2, 3, 4, 5, 0] d_Mo_chooses_78 (by decide) rfl rfl rfl ?_
  refine sx_iload (pc2 := 82) hX 4 d_Mo_chooses_80 rfl rfl ?_
  refine sx_if_lt (tgt := 140) (pc2 := 85) hX d_Mo_chooses_82 (by decide) rfl (fun hc16 => ?_) (fun hc16 => ?_)
  · replace h := sx_t h hc16
    exact g_Mo_chooses_b140 hX hK hE   v1 v2 v3 v4 w0 _ _ h
  · replace h := sx_f h hc16
    refine sx_iload (pc2 := 87) hX 5 d_Mo_chooses_85 rfl rfl ?_
    refine sx_aload_n (pc2 := 88) hX 0 d_Mo_chooses_87 rfl rfl rfl ?_
    refine sx_iload_n (pc2 := 89) hX 1 d_Mo_chooses_88 rfl rfl rfl ?_
    refine sx_iconst (v := 3) (pc2 := 90) hX d_Mo_chooses_89 (by decide) rfl ?_
    refine cl_Mo_246 (pc2 := 93) hX hK h  ⟨Nat.le_of_ble_eq_true rfl, Nat.le_of_ble_eq_true rfl⟩ (Nat.le_of_ble_eq_true rfl) d_Mo_chooses_90 rfl (fun r17 σ17 τ17 h => ?_)
    refine sx_aload_n (pc2 := 94) hX 0 d_Mo_chooses_93 rfl rfl rfl ?_
    refine sx_iconst (v := 4) (pc2 := 95) hX d_Mo_chooses_94 (by decide) rfl ?_
    refine cl_Mo_233 (pc2 := 98) hX hK h  ⟨Nat.le_of_ble_eq_true rfl, Nat.le_of_ble_eq_true rfl⟩ (Nat.le_of_ble_eq_true rfl) d_Mo_chooses_95 rfl (fun r18 σ18 τ18 h => ?_)
    refine sx_iadd (pc2 := 99) hX d_Mo_chooses_98 rfl ?_
    refine sx_icmp_le (tgt := 140) (pc2 := 102) hX d_Mo_chooses_99 (by decide) rfl (fun hc19 => ?_) (fun hc19 => ?_)
    · replace h := sx_t h hc19
      exact g_Mo_chooses_b140 hX hK hE   v1 v2 v3 v4 w0 _ _ h
    · replace h := sx_f h hc19
      refine sx_iconst (v := (-1)) (pc2 := 103) hX d_Mo_chooses_102 (by decide) rfl ?_
      refine sx_istore (pc2 := 105) hX _ [(0, .ref (K.2.2.1 50 0 0)), (1, .int v1), (2, .int v2), (3, .int v3), (4, .int (-1)), (5, .int w0)] [1, 2, 3, 4, 0, 5] d_Mo_chooses_103 (by decide) rfl rfl rfl ?_
      refine sx_sipush (v := 9999) (pc2 := 108) hX d_Mo_chooses_105 (by decide) rfl ?_
      refine sx_istore (pc2 := 110) hX _ [(0, .ref (K.2.2.1 50 0 0)), (1, .int v1), (2, .int v2), (3, .int v3), (4, .int (-1)), (5, .int 9999)] [1, 2, 3, 4, 5, 0] d_Mo_chooses_108 (by decide) rfl rfl rfl ?_
      refine sx_aload_n (pc2 := 111) hX 0 d_Mo_chooses_110 rfl rfl rfl ?_
      refine sx_iload_n (pc2 := 112) hX 1 d_Mo_chooses_111 rfl rfl rfl ?_
      refine sx_iconst (v := 3) (pc2 := 113) hX d_Mo_chooses_112 (by decide) rfl ?_
      refine sx_sipush (v := 9999) (pc2 := 116) hX d_Mo_chooses_113 (by decide) rfl ?_
      refine cl_Mo_229 (pc2 := 119) hX hK h  ⟨Nat.le_of_ble_eq_true rfl, Nat.le_of_ble_eq_true rfl⟩ (Nat.le_of_ble_eq_true rfl) d_Mo_chooses_116 rfl (fun σ20 τ20 h => ?_)
      refine sx_aload_n (pc2 := 120) hX 0 d_Mo_chooses_119 rfl rfl rfl ?_
      refine sx_iload_n (pc2 := 121) hX 1 d_Mo_chooses_120 rfl rfl rfl ?_
      refine sx_iconst (v := 4) (pc2 := 122) hX d_Mo_chooses_121 (by decide) rfl ?_
      refine sx_aload_n (pc2 := 123) hX 0 d_Mo_chooses_122 rfl rfl rfl ?_
      refine sx_iconst (v := 5) (pc2 := 124) hX d_Mo_chooses_123 (by decide) rfl ?_
      refine cl_Mo_233 (pc2 := 127) hX hK h  ⟨Nat.le_of_ble_eq_true rfl, Nat.le_of_ble_eq_true rfl⟩ (Nat.le_of_ble_eq_true rfl) d_Mo_chooses_124 rfl (fun r21 σ21 τ21 h => ?_)
      refine cl_Mo_229 (pc2 := 130) hX hK h  ⟨Nat.le_of_ble_eq_true rfl, Nat.le_of_ble_eq_true rfl⟩ (Nat.le_of_ble_eq_true rfl) d_Mo_chooses_127 rfl (fun σ22 τ22 h => ?_)
      refine sx_aload_n (pc2 := 131) hX 0 d_Mo_chooses_130 rfl rfl rfl ?_
      refine fg_Mo_71 (pc2 := 134) hX (kr_50 hK) d_Mo_chooses_131 rfl ?_
      refine sx_iconst (v := 4) (pc2 := 135) hX d_Mo_chooses_134 (by decide) rfl ?_
      refine sx_dup2 (pc2 := 136) hX d_Mo_chooses_135 rfl rfl rfl ?_
      obtain ⟨hc23, h⟩ := h
      refine sx_iald (pc2 := 137) hX (kr_68 hK) rfl hc23 d_Mo_chooses_136 rfl ?_
      refine sx_iconst (v := 1) (pc2 := 138) hX d_Mo_chooses_137 (by decide) rfl ?_
      refine sx_iadd (pc2 := 139) hX d_Mo_chooses_138 rfl ?_
      obtain ⟨hc24, h⟩ := h
      refine sx_iast (pc2 := 140) hX (kr_68 hK) (fun _ => rfl) hc24 d_Mo_chooses_139 rfl ?_
      refine sx_nm (fun σ25 e25 => ?_)
      replace h := h σ25 e25
      exact g_Mo_chooses_b140 hX hK hE   v1 v2 v3 (-1) 9999 _ _ h
set_option maxRecDepth 100000 in
set_option maxHeartbeats 4000000 in
theorem g_Mo_chooses_b21 {l : Launch} {K : sx_K} {X : sx_T}   {Q : sx_M → sx_L → Prop} (hX : sx_C X K prog_13_method_57_code 7 "SensorTreeModel" none rm_Mo_chooses l) (hK : kx_F K) (hE : sx_E X K (sx_Qv K Q))   (σ : sx_M) (τ : sx_L)  (h : wp_Mo_chooses_b21 Q  σ τ) : sx_G X K 7 21 [] [] (sx_H K σ τ) := by
  unfold wp_Mo_chooses_b21 at h
  exact sx_vret hX hE h d_Mo_chooses_21
set_option maxRecDepth 100000 in
set_option maxHeartbeats 4000000 in
theorem c_Mo_chooses {l : Launch} {K : sx_K} (hK : kx_F K) (x1 : Int32) (σ : sx_M) (τ : sx_L) (Q : sx_M → sx_L → Prop)  (h : wp_Mo_chooses x1 σ τ Q) : Met l y_Mo_chooses (sx_wd y_Mo_chooses prog_13_method_57_code 7 none) rm_Mo_chooses (sx_Pc K [.ref (K.2.2.1 50 0 0), .int x1] σ τ) (sx_Qv K Q) 0 0 (sx_A K) := by
  refine sx_met (by decide) (Nat.le_of_ble_eq_true rfl) (fun X hX hE => ?_)
  replace hX : sx_C X K prog_13_method_57_code 7 "SensorTreeModel" none rm_Mo_chooses l := hX
  show sx_G X K 7 0 [(0, .ref (K.2.2.1 50 0 0)), (1, .int x1)] [] (sx_H K σ τ)
  unfold wp_Mo_chooses at h
  refine sx_iload_n (pc2 := 1) hX 1 d_Mo_chooses_0 rfl rfl rfl ?_
  refine sx_if_eq (tgt := 21) (pc2 := 4) hX d_Mo_chooses_1 (by decide) rfl (fun hc26 => ?_) (fun hc26 => ?_)
  · replace h := sx_t h hc26
    refine sx_sub [] [] rfl ?_
    exact g_Mo_chooses_b21 hX hK hE   _ _ h
  · replace h := sx_f h hc26
    refine sx_aload_n (pc2 := 5) hX 0 d_Mo_chooses_4 rfl rfl rfl ?_
    refine sx_iload_n (pc2 := 6) hX 1 d_Mo_chooses_5 rfl rfl rfl ?_
    refine cl_Mo_252 (pc2 := 9) hX hK h  ⟨Nat.le_of_ble_eq_true rfl, Nat.le_of_ble_eq_true rfl⟩ (Nat.le_of_ble_eq_true rfl) d_Mo_chooses_6 rfl (fun r27 σ27 τ27 h => ?_)
    refine sx_if_eq (tgt := 21) (pc2 := 12) hX d_Mo_chooses_9 (by decide) rfl (fun hc28 => ?_) (fun hc28 => ?_)
    · replace h := sx_t h hc28
      refine sx_sub [] [] rfl ?_
      exact g_Mo_chooses_b21 hX hK hE   _ _ h
    · replace h := sx_f h hc28
      refine sx_aload_n (pc2 := 13) hX 0 d_Mo_chooses_12 rfl rfl rfl ?_
      refine sx_iload_n (pc2 := 14) hX 1 d_Mo_chooses_13 rfl rfl rfl ?_
      refine sx_iconst (v := 4) (pc2 := 15) hX d_Mo_chooses_14 (by decide) rfl ?_
      refine cl_Mo_246 (pc2 := 18) hX hK h  ⟨Nat.le_of_ble_eq_true rfl, Nat.le_of_ble_eq_true rfl⟩ (Nat.le_of_ble_eq_true rfl) d_Mo_chooses_15 rfl (fun r29 σ29 τ29 h => ?_)
      refine sx_if_le (tgt := 22) (pc2 := 21) hX d_Mo_chooses_18 (by decide) rfl (fun hc30 => ?_) (fun hc30 => ?_)
      · replace h := sx_t h hc30
        refine sx_aload_n (pc2 := 23) hX 0 d_Mo_chooses_22 rfl rfl rfl ?_
        refine sx_iload_n (pc2 := 24) hX 1 d_Mo_chooses_23 rfl rfl rfl ?_
        refine sx_iconst (v := 1) (pc2 := 25) hX d_Mo_chooses_24 (by decide) rfl ?_
        refine cl_Mo_246 (pc2 := 28) hX hK h  ⟨Nat.le_of_ble_eq_true rfl, Nat.le_of_ble_eq_true rfl⟩ (Nat.le_of_ble_eq_true rfl) d_Mo_chooses_25 rfl (fun r31 σ31 τ31 h => ?_)
        refine sx_istore_n (pc2 := 29) hX _ [(0, .ref (K.2.2.1 50 0 0)), (1, .int x1), (2, .int r31)] [1, 2, 0] d_Mo_chooses_28 rfl (by decide) rfl rfl rfl ?_
        refine sx_aload_n (pc2 := 30) hX 0 d_Mo_chooses_29 rfl rfl rfl ?_
        refine sx_iload_n (pc2 := 31) hX 1 d_Mo_chooses_30 rfl rfl rfl ?_
        refine sx_iconst (v := 2) (pc2 := 32) hX d_Mo_chooses_31 (by decide) rfl ?_
        refine cl_Mo_246 (pc2 := 35) hX hK h  ⟨Nat.le_of_ble_eq_true rfl, Nat.le_of_ble_eq_true rfl⟩ (Nat.le_of_ble_eq_true rfl) d_Mo_chooses_32 rfl (fun r32 σ32 τ32 h => ?_)
        refine sx_istore_n (pc2 := 36) hX _ [(0, .ref (K.2.2.1 50 0 0)), (1, .int x1), (2, .int r31), (3, .int r32)] [1, 2, 3, 0] d_Mo_chooses_35 rfl (by decide) rfl rfl rfl ?_
        refine sx_aload_n (pc2 := 37) hX 0 d_Mo_chooses_36 rfl rfl rfl ?_
        refine sx_iload_n (pc2 := 38) hX 1 d_Mo_chooses_37 rfl rfl rfl ?_
        refine sx_iconst (v := (-1)) (pc2 := 39) hX d_Mo_chooses_38 (by decide) rfl ?_
        refine cl_Mo_287 (pc2 := 42) hX hK h  ⟨Nat.le_of_ble_eq_true rfl, Nat.le_of_ble_eq_true rfl⟩ (Nat.le_of_ble_eq_true rfl) d_Mo_chooses_39 rfl (fun r33 σ33 τ33 h => ?_)
        refine sx_istore (pc2 := 44) hX _ [(0, .ref (K.2.2.1 50 0 0)), (1, .int x1), (2, .int r31), (3, .int r32), (4, .int r33)] [1, 2, 3, 4, 0] d_Mo_chooses_42 (by decide) rfl rfl rfl ?_
        refine sx_iload (pc2 := 46) hX 4 d_Mo_chooses_44 rfl rfl ?_
        refine sx_if_ge (tgt := 55) (pc2 := 49) hX d_Mo_chooses_46 (by decide) rfl (fun hc34 => ?_) (fun hc34 => ?_)
        · replace h := sx_t h hc34
          refine sx_aload_n (pc2 := 56) hX 0 d_Mo_chooses_55 rfl rfl rfl ?_
          refine fg_Mo_71 (pc2 := 59) hX (kr_50 hK) d_Mo_chooses_56 rfl ?_
          refine sx_bipush (v := 96) (pc2 := 61) hX d_Mo_chooses_59 (by decide) rfl ?_
          refine sx_bipush (v := 7) (pc2 := 63) hX d_Mo_chooses_61 (by decide) rfl ?_
          refine sx_iload_n (pc2 := 64) hX 1 d_Mo_chooses_63 rfl rfl rfl ?_
          refine sx_imul (pc2 := 65) hX d_Mo_chooses_64 rfl ?_
          refine sx_iadd (pc2 := 66) hX d_Mo_chooses_65 rfl ?_
          refine sx_iload (pc2 := 68) hX 4 d_Mo_chooses_66 rfl rfl ?_
          refine sx_iadd (pc2 := 69) hX d_Mo_chooses_68 rfl ?_
          obtain ⟨hc35, h⟩ := h
          refine sx_iald (pc2 := 70) hX (kr_68 hK) rfl hc35 d_Mo_chooses_69 rfl ?_
          refine sx_aload_n (pc2 := 71) hX 0 d_Mo_chooses_70 rfl rfl rfl ?_
          refine sx_iload_n (pc2 := 72) hX 1 d_Mo_chooses_71 rfl rfl rfl ?_
          refine sx_iload (pc2 := 74) hX 4 d_Mo_chooses_72 rfl rfl ?_
          refine cl_Mo_284 (pc2 := 77) hX hK h  ⟨Nat.le_of_ble_eq_true rfl, Nat.le_of_ble_eq_true rfl⟩ (Nat.le_of_ble_eq_true rfl) d_Mo_chooses_74 rfl (fun r36 σ36 τ36 h => ?_)
          refine sx_iadd (pc2 := 78) hX d_Mo_chooses_77 rfl ?_
          exact g_Mo_chooses_b78 hX hK hE   x1 r31 r32 r33 ((σ33 68 0 0 ((96 + (7 * x1)) + r33).toNatClampNeg) + r36) _ _ h
        · replace h := sx_f h hc34
          refine sx_sipush (v := 9999) (pc2 := 52) hX d_Mo_chooses_49 (by decide) rfl ?_
          refine sx_goto (tgt := 78) hX d_Mo_chooses_52 (by decide) ?_
          exact g_Mo_chooses_b78 hX hK hE   x1 r31 r32 r33 9999 _ _ h
      · replace h := sx_f h hc30
        refine sx_sub [] [] rfl ?_
        exact g_Mo_chooses_b21 hX hK hE   _ _ h
theorem cl_Mo_277 {X : sx_T} {K : sx_K} {cc : ByteArray} {nL : Nat} {ret : Option FieldType} {rm : Room} {l : Launch} {pc pc2 : Nat} {lv : List (Nat × Value)} {st : List Value} {σ : sx_M} {τ : sx_L} {x1 : Int32} {Q : sx_M → sx_L → Prop} (hX : sx_C X K cc nL "SensorTreeModel" ret rm l) (hK : kx_F K) (h : wp_Mo_chooses x1 σ τ Q)  (hR : rm_Mo_chooses.frames + 1 ≤ rm.frames ∧ 8 + (7 + 11) + rm_Mo_chooses.locals ≤ rm.locals) (hst : (st.map fun v => v.category).sum ≤ 8) (hd : decode cc pc = .ok (.invokevirtual 277, 3)) (hpc : pc + 3 = pc2) (kk : ∀ (σ2 : sx_M) (τ2 : sx_L), Q σ2 τ2 → sx_G X K nL pc2 lv (st) (sx_H K σ2 τ2)) : sx_G X K nL pc lv (.int x1 :: .ref (K.2.2.1 50 0 0) :: st) (sx_H K σ τ) :=
  sx_callVv (Q := Q) (As := [.int x1]) hX (c_Mo_chooses hK x1 σ τ Q  h) (kr_50 hK) rfl rfl lk_499 ls_74 hy_Mo_chooses lk_497 lk_364 lk_498 ⟨rfl, rfl⟩ hR hst rfl hd hpc kk
def y_Mo_hears : MethodName := ⟨"SensorTreeModel", "hears", "(IIII)V"⟩
theorem hy_Mo_hears : y_Mo_hears.cls ≠ "java/lang/invoke/MethodHandle" ∧ y_Mo_hears.cls ≠ "java/lang/invoke/VarHandle" ∧ (parseMethodDescriptor y_Mo_hears.desc).map (fun d => d.parameters.length) = some 4 := by decide +kernel
theorem d_Mo_hears_0 : decode prog_13_method_54_code 0 = .ok (.iload_n 3, 1) := by decide +kernel
theorem d_Mo_hears_1 : decode prog_13_method_54_code 1 = .ok (.aload_n 0, 1) := by decide +kernel
theorem d_Mo_hears_2 : decode prog_13_method_54_code 2 = .ok (.iload_n 1, 1) := by decide +kernel
theorem d_Mo_hears_3 : decode prog_13_method_54_code 3 = .ok (.iconst 0, 1) := by decide +kernel
theorem d_Mo_hears_4 : decode prog_13_method_54_code 4 = .ok (.invokevirtual 246, 3) := by decide +kernel
theorem d_Mo_hears_7 : decode prog_13_method_54_code 7 = .ok (.if_icmp .ge 9, 3) := by decide +kernel
theorem d_Mo_hears_10 : decode prog_13_method_54_code 10 = .ok (.aload_n 0, 1) := by decide +kernel
theorem d_Mo_hears_11 : decode prog_13_method_54_code 11 = .ok (.iload_n 1, 1) := by decide +kernel
theorem d_Mo_hears_12 : decode prog_13_method_54_code 12 = .ok (.invokevirtual 274, 3) := by decide +kernel
theorem d_Mo_hears_15 : decode prog_13_method_54_code 15 = .ok (.return_, 1) := by decide +kernel
theorem d_Mo_hears_16 : decode prog_13_method_54_code 16 = .ok (.bipush 96, 2) := by decide +kernel
theorem d_Mo_hears_18 : decode prog_13_method_54_code 18 = .ok (.bipush 7, 2) := by decide +kernel
theorem d_Mo_hears_20 : decode prog_13_method_54_code 20 = .ok (.iload_n 1, 1) := by decide +kernel
theorem d_Mo_hears_21 : decode prog_13_method_54_code 21 = .ok (.imul, 1) := by decide +kernel
theorem d_Mo_hears_22 : decode prog_13_method_54_code 22 = .ok (.iadd, 1) := by decide +kernel
theorem d_Mo_hears_23 : decode prog_13_method_54_code 23 = .ok (.istore 5, 2) := by decide +kernel
theorem d_Mo_hears_25 : decode prog_13_method_54_code 25 = .ok (.iload_n 3, 1) := by decide +kernel
theorem d_Mo_hears_26 : decode prog_13_method_54_code 26 = .ok (.aload_n 0, 1) := by decide +kernel
theorem d_Mo_hears_27 : decode prog_13_method_54_code 27 = .ok (.iload_n 1, 1) := by decide +kernel
theorem d_Mo_hears_28 : decode prog_13_method_54_code 28 = .ok (.iconst 0, 1) := by decide +kernel
theorem d_Mo_hears_29 : decode prog_13_method_54_code 29 = .ok (.invokevirtual 246, 3) := by decide +kernel
theorem d_Mo_hears_32 : decode prog_13_method_54_code 32 = .ok (.if_icmp .le 48, 3) := by decide +kernel
theorem d_Mo_hears_35 : decode prog_13_method_54_code 35 = .ok (.aload_n 0, 1) := by decide +kernel
theorem d_Mo_hears_36 : decode prog_13_method_54_code 36 = .ok (.iload_n 1, 1) := by decide +kernel
theorem d_Mo_hears_37 : decode prog_13_method_54_code 37 = .ok (.iconst 0, 1) := by decide +kernel
theorem d_Mo_hears_38 : decode prog_13_method_54_code 38 = .ok (.iload_n 3, 1) := by decide +kernel
theorem d_Mo_hears_39 : decode prog_13_method_54_code 39 = .ok (.invokevirtual 229, 3) := by decide +kernel
theorem d_Mo_hears_42 : decode prog_13_method_54_code 42 = .ok (.iconst 0, 1) := by decide +kernel
theorem d_Mo_hears_43 : decode prog_13_method_54_code 43 = .ok (.istore 6, 2) := by decide +kernel
theorem d_Mo_hears_45 : decode prog_13_method_54_code 45 = .ok (.iload 6, 2) := by decide +kernel
theorem d_Mo_hears_47 : decode prog_13_method_54_code 47 = .ok (.bipush 7, 2) := by decide +kernel
theorem d_Mo_hears_49 : decode prog_13_method_54_code 49 = .ok (.if_icmp .ge 22, 3) := by decide +kernel
theorem d_Mo_hears_52 : decode prog_13_method_54_code 52 = .ok (.aload_n 0, 1) := by decide +kernel
theorem d_Mo_hears_53 : decode prog_13_method_54_code 53 = .ok (.getfield 71, 3) := by decide +kernel
theorem d_Mo_hears_56 : decode prog_13_method_54_code 56 = .ok (.iload 5, 2) := by decide +kernel
theorem d_Mo_hears_58 : decode prog_13_method_54_code 58 = .ok (.iload 6, 2) := by decide +kernel
theorem d_Mo_hears_60 : decode prog_13_method_54_code 60 = .ok (.iadd, 1) := by decide +kernel
theorem d_Mo_hears_61 : decode prog_13_method_54_code 61 = .ok (.sipush 9999, 3) := by decide +kernel
theorem d_Mo_hears_64 : decode prog_13_method_54_code 64 = .ok (.iastore, 1) := by decide +kernel
theorem d_Mo_hears_65 : decode prog_13_method_54_code 65 = .ok (.iinc 6 1, 3) := by decide +kernel
theorem d_Mo_hears_68 : decode prog_13_method_54_code 68 = .ok (.goto (-23), 3) := by decide +kernel
theorem d_Mo_hears_71 : decode prog_13_method_54_code 71 = .ok (.aload_n 0, 1) := by decide +kernel
theorem d_Mo_hears_72 : decode prog_13_method_54_code 72 = .ok (.iload_n 1, 1) := by decide +kernel
theorem d_Mo_hears_73 : decode prog_13_method_54_code 73 = .ok (.iconst 3, 1) := by decide +kernel
theorem d_Mo_hears_74 : decode prog_13_method_54_code 74 = .ok (.sipush 9999, 3) := by decide +kernel
theorem d_Mo_hears_77 : decode prog_13_method_54_code 77 = .ok (.invokevirtual 229, 3) := by decide +kernel
theorem d_Mo_hears_80 : decode prog_13_method_54_code 80 = .ok (.aload_n 0, 1) := by decide +kernel
theorem d_Mo_hears_81 : decode prog_13_method_54_code 81 = .ok (.getfield 71, 3) := by decide +kernel
theorem d_Mo_hears_84 : decode prog_13_method_54_code 84 = .ok (.iload 5, 2) := by decide +kernel
theorem d_Mo_hears_86 : decode prog_13_method_54_code 86 = .ok (.iload_n 2, 1) := by decide +kernel
theorem d_Mo_hears_87 : decode prog_13_method_54_code 87 = .ok (.iadd, 1) := by decide +kernel
theorem d_Mo_hears_88 : decode prog_13_method_54_code 88 = .ok (.iaload, 1) := by decide +kernel
theorem d_Mo_hears_89 : decode prog_13_method_54_code 89 = .ok (.iload 4, 2) := by decide +kernel
theorem d_Mo_hears_91 : decode prog_13_method_54_code 91 = .ok (.if_icmp .ne 22, 3) := by decide +kernel
theorem d_Mo_hears_94 : decode prog_13_method_54_code 94 = .ok (.aload_n 0, 1) := by decide +kernel
theorem d_Mo_hears_95 : decode prog_13_method_54_code 95 = .ok (.iload_n 1, 1) := by decide +kernel
theorem d_Mo_hears_96 : decode prog_13_method_54_code 96 = .ok (.bipush 8, 2) := by decide +kernel
theorem d_Mo_hears_98 : decode prog_13_method_54_code 98 = .ok (.aload_n 0, 1) := by decide +kernel
theorem d_Mo_hears_99 : decode prog_13_method_54_code 99 = .ok (.iload_n 1, 1) := by decide +kernel
theorem d_Mo_hears_100 : decode prog_13_method_54_code 100 = .ok (.bipush 8, 2) := by decide +kernel
theorem d_Mo_hears_102 : decode prog_13_method_54_code 102 = .ok (.invokevirtual 246, 3) := by decide +kernel
theorem d_Mo_hears_105 : decode prog_13_method_54_code 105 = .ok (.iconst 1, 1) := by decide +kernel
theorem d_Mo_hears_106 : decode prog_13_method_54_code 106 = .ok (.iadd, 1) := by decide +kernel
theorem d_Mo_hears_107 : decode prog_13_method_54_code 107 = .ok (.invokevirtual 229, 3) := by decide +kernel
theorem d_Mo_hears_110 : decode prog_13_method_54_code 110 = .ok (.goto 8, 3) := by decide +kernel
theorem d_Mo_hears_113 : decode prog_13_method_54_code 113 = .ok (.aload_n 0, 1) := by decide +kernel
theorem d_Mo_hears_114 : decode prog_13_method_54_code 114 = .ok (.iload_n 1, 1) := by decide +kernel
theorem d_Mo_hears_115 : decode prog_13_method_54_code 115 = .ok (.invokevirtual 274, 3) := by decide +kernel
theorem d_Mo_hears_118 : decode prog_13_method_54_code 118 = .ok (.aload_n 0, 1) := by decide +kernel
theorem d_Mo_hears_119 : decode prog_13_method_54_code 119 = .ok (.getfield 71, 3) := by decide +kernel
theorem d_Mo_hears_122 : decode prog_13_method_54_code 122 = .ok (.iload 5, 2) := by decide +kernel
theorem d_Mo_hears_124 : decode prog_13_method_54_code 124 = .ok (.iload_n 2, 1) := by decide +kernel
theorem d_Mo_hears_125 : decode prog_13_method_54_code 125 = .ok (.iadd, 1) := by decide +kernel
theorem d_Mo_hears_126 : decode prog_13_method_54_code 126 = .ok (.iload 4, 2) := by decide +kernel
theorem d_Mo_hears_128 : decode prog_13_method_54_code 128 = .ok (.iastore, 1) := by decide +kernel
theorem d_Mo_hears_129 : decode prog_13_method_54_code 129 = .ok (.aload_n 0, 1) := by decide +kernel
theorem d_Mo_hears_130 : decode prog_13_method_54_code 130 = .ok (.iload_n 1, 1) := by decide +kernel
theorem d_Mo_hears_131 : decode prog_13_method_54_code 131 = .ok (.invokevirtual 277, 3) := by decide +kernel
theorem d_Mo_hears_134 : decode prog_13_method_54_code 134 = .ok (.return_, 1) := by decide +kernel
def wp_Mo_hears_b118   (Q : sx_M → sx_L → Prop) (v1 : Int32) (v2 : Int32) (v4 : Int32) (v5 : Int32) (σ : sx_M) (τ : sx_L) : Prop := vp_in (v5 + v2) 643 ∧ (∀ σ2 : sx_M, σ2 = sx_u σ 68 0 0 (v5 + v2).toNatClampNeg v4 → (wp_Mo_chooses v1 σ2 τ (fun σ3 τ3 => Q σ3 τ3)))
def wp_Mo_hears_b80   (Q : sx_M → sx_L → Prop) (v1 : Int32) (v2 : Int32) (v4 : Int32) (v5 : Int32) (σ : sx_M) (τ : sx_L) : Prop := vp_in (v5 + v2) 643 ∧ (if σ 68 0 0 (v5 + v2).toNatClampNeg = v4 then (wp_Mo_of v1 (8 : Int32) σ τ (fun r7 σ7 τ7 => wp_Mo_keeps v1 (8 : Int32) (r7 + 1) σ7 τ7 (fun σ8 τ8 => wp_Mo_hears_b118 Q v1 v2 v4 v5 σ8 τ8))) else (wp_Mo_beginsAnew v1 σ τ (fun σ6 τ6 => wp_Mo_hears_b118 Q v1 v2 v4 v5 σ6 τ6)))
def wp_Mo_hears_b45   (Q : sx_M → sx_L → Prop) : Nat → Int32 → Int32 → Int32 → Int32 → Int32 → sx_M → sx_L → Prop
  | 0, _, _, _, _, _, _, _ => False
  | f + 1, v1, v2, v4, v5, v6, σ, τ => if 7 ≤ v6 then (wp_Mo_keeps v1 (3 : Int32) (9999 : Int32) σ τ (fun σ10 τ10 => wp_Mo_hears_b80 Q v1 v2 v4 v5 σ10 τ10)) else (vp_in (v5 + v6) 643 ∧ (∀ σ12 : sx_M, σ12 = sx_u σ 68 0 0 (v5 + v6).toNatClampNeg 9999 → (wp_Mo_hears_b45 Q f v1 v2 v4 v5 (v6 + 1) σ12 τ)))
def wp_Mo_hears (x1 : Int32) (x2 : Int32) (x3 : Int32) (x4 : Int32) (σ : sx_M) (τ : sx_L) (Q : sx_M → sx_L → Prop) : Prop := wp_Mo_of x1 (0 : Int32) σ τ (fun r13 σ13 τ13 => if r13 ≤ x3 then (wp_Mo_of x1 (0 : Int32) σ13 τ13 (fun r15 σ15 τ15 => if x3 ≤ r15 then (wp_Mo_hears_b80 Q x1 x2 x4 (96 + (7 * x1)) σ15 τ15) else (wp_Mo_keeps x1 (0 : Int32) x3 σ15 τ15 (fun σ17 τ17 => ∃ f45, wp_Mo_hears_b45 Q f45 x1 x2 x4 (96 + (7 * x1)) 0 σ17 τ17)))) else (wp_Mo_beginsAnew x1 σ13 τ13 (fun σ18 τ18 => Q σ18 τ18)))
abbrev rm_Mo_hears : Room := { frames := 5, cells := 0, slots := 0, locals := 113 }
set_option maxRecDepth 100000 in
set_option maxHeartbeats 4000000 in
theorem g_Mo_hears_b118 {l : Launch} {K : sx_K} {X : sx_T}   {Q : sx_M → sx_L → Prop} (hX : sx_C X K prog_13_method_54_code 7 "SensorTreeModel" none rm_Mo_hears l) (hK : kx_F K) (hE : sx_E X K (sx_Qv K Q))  (v1 : Int32) (v2 : Int32) (v4 : Int32) (v5 : Int32) (σ : sx_M) (τ : sx_L)  (h : wp_Mo_hears_b118 Q  v1 v2 v4 v5 σ τ) : sx_G X K 7 118 [(0, .ref (K.2.2.1 50 0 0)), (1, .int v1), (2, .int v2), (4, .int v4), (5, .int v5)] [] (sx_H K σ τ) := by
  unfold wp_Mo_hears_b118 at h
  refine sx_aload_n (pc2 := 119) hX 0 d_Mo_hears_118 rfl rfl rfl ?_
  refine fg_Mo_71 (pc2 := 122) hX (kr_50 hK) d_Mo_hears_119 rfl ?_
  refine sx_iload (pc2 := 124) hX 4 d_Mo_hears_122 rfl rfl ?_
  refine sx_iload_n (pc2 := 125) hX 2 d_Mo_hears_124 rfl rfl rfl ?_
  refine sx_iadd (pc2 := 126) hX d_Mo_hears_125 rfl ?_
  refine sx_iload (pc2 := 128) hX 3 d_Mo_hears_126 rfl rfl ?_
  obtain ⟨hc1, h⟩ := h
  refine sx_iast (pc2 := 129) hX (kr_68 hK) (fun _ => rfl) hc1 d_Mo_hears_128 rfl ?_
  refine sx_nm (fun σ2 e2 => ?_)
  replace h := h σ2 e2
  refine sx_aload_n (pc2 := 130) hX 0 d_Mo_hears_129 rfl rfl rfl ?_
  refine sx_iload_n (pc2 := 131) hX 1 d_Mo_hears_130 rfl rfl rfl ?_
  refine cl_Mo_277 (pc2 := 134) hX hK h  ⟨Nat.le_of_ble_eq_true rfl, Nat.le_of_ble_eq_true rfl⟩ (Nat.le_of_ble_eq_true rfl) d_Mo_hears_131 rfl (fun σ3 τ3 h => ?_)
  exact sx_vret hX hE h d_Mo_hears_134
set_option maxRecDepth 100000 in
set_option maxHeartbeats 4000000 in
theorem g_Mo_hears_b80 {l : Launch} {K : sx_K} {X : sx_T}   {Q : sx_M → sx_L → Prop} (hX : sx_C X K prog_13_method_54_code 7 "SensorTreeModel" none rm_Mo_hears l) (hK : kx_F K) (hE : sx_E X K (sx_Qv K Q))  (v1 : Int32) (v2 : Int32) (v4 : Int32) (v5 : Int32) (σ : sx_M) (τ : sx_L)  (h : wp_Mo_hears_b80 Q  v1 v2 v4 v5 σ τ) : sx_G X K 7 80 [(0, .ref (K.2.2.1 50 0 0)), (1, .int v1), (2, .int v2), (4, .int v4), (5, .int v5)] [] (sx_H K σ τ) := by
  unfold wp_Mo_hears_b80 at h
  refine sx_aload_n (pc2 := 81) hX 0 d_Mo_hears_80 rfl rfl rfl ?_
  refine fg_Mo_71 (pc2 := 84) hX (kr_50 hK) d_Mo_hears_81 rfl ?_
  refine sx_iload (pc2 := 86) hX 4 d_Mo_hears_84 rfl rfl ?_
  refine sx_iload_n (pc2 := 87) hX 2 d_Mo_hears_86 rfl rfl rfl ?_
  refine sx_iadd (pc2 := 88) hX d_Mo_hears_87 rfl ?_
  obtain ⟨hc4, h⟩ := h
  refine sx_iald (pc2 := 89) hX (kr_68 hK) rfl hc4 d_Mo_hears_88 rfl ?_
  refine sx_iload (pc2 := 91) hX 3 d_Mo_hears_89 rfl rfl ?_
  refine sx_icmp_ne (tgt := 113) (pc2 := 94) hX d_Mo_hears_91 (by decide) rfl (fun hc5 => ?_) (fun hc5 => ?_)
  · replace h := sx_f h hc5
    refine sx_aload_n (pc2 := 114) hX 0 d_Mo_hears_113 rfl rfl rfl ?_
    refine sx_iload_n (pc2 := 115) hX 1 d_Mo_hears_114 rfl rfl rfl ?_
    refine cl_Mo_274 (pc2 := 118) hX hK h  ⟨Nat.le_of_ble_eq_true rfl, Nat.le_of_ble_eq_true rfl⟩ (Nat.le_of_ble_eq_true rfl) d_Mo_hears_115 rfl (fun σ6 τ6 h => ?_)
    exact g_Mo_hears_b118 hX hK hE   v1 v2 v4 v5 _ _ h
  · replace h := sx_t h hc5
    refine sx_aload_n (pc2 := 95) hX 0 d_Mo_hears_94 rfl rfl rfl ?_
    refine sx_iload_n (pc2 := 96) hX 1 d_Mo_hears_95 rfl rfl rfl ?_
    refine sx_bipush (v := 8) (pc2 := 98) hX d_Mo_hears_96 (by decide) rfl ?_
    refine sx_aload_n (pc2 := 99) hX 0 d_Mo_hears_98 rfl rfl rfl ?_
    refine sx_iload_n (pc2 := 100) hX 1 d_Mo_hears_99 rfl rfl rfl ?_
    refine sx_bipush (v := 8) (pc2 := 102) hX d_Mo_hears_100 (by decide) rfl ?_
    refine cl_Mo_246 (pc2 := 105) hX hK h  ⟨Nat.le_of_ble_eq_true rfl, Nat.le_of_ble_eq_true rfl⟩ (Nat.le_of_ble_eq_true rfl) d_Mo_hears_102 rfl (fun r7 σ7 τ7 h => ?_)
    refine sx_iconst (v := 1) (pc2 := 106) hX d_Mo_hears_105 (by decide) rfl ?_
    refine sx_iadd (pc2 := 107) hX d_Mo_hears_106 rfl ?_
    refine cl_Mo_229 (pc2 := 110) hX hK h  ⟨Nat.le_of_ble_eq_true rfl, Nat.le_of_ble_eq_true rfl⟩ (Nat.le_of_ble_eq_true rfl) d_Mo_hears_107 rfl (fun σ8 τ8 h => ?_)
    refine sx_goto (tgt := 118) hX d_Mo_hears_110 (by decide) ?_
    exact g_Mo_hears_b118 hX hK hE   v1 v2 v4 v5 _ _ h
set_option maxRecDepth 100000 in
set_option maxHeartbeats 4000000 in
theorem g_Mo_hears_b45 {l : Launch} {K : sx_K} {X : sx_T}   {Q : sx_M → sx_L → Prop} (hX : sx_C X K prog_13_method_54_code 7 "SensorTreeModel" none rm_Mo_hears l) (hK : kx_F K) (hE : sx_E X K (sx_Qv K Q))  : ∀ (f : Nat) (v1 : Int32) (v2 : Int32) (v4 : Int32) (v5 : Int32) (v6 : Int32) (σ : sx_M) (τ : sx_L) , wp_Mo_hears_b45 Q f v1 v2 v4 v5 v6 σ τ → sx_G X K 7 45 [(0, .ref (K.2.2.1 50 0 0)), (1, .int v1), (2, .int v2), (4, .int v4), (5, .int v5), (6, .int v6)] [] (sx_H K σ τ) := by
  intro f
  induction f with
  | zero => intro v1 v2 v4 v5 v6 σ τ h; exact (show False from h).elim
  | succ f ih =>
    intro v1 v2 v4 v5 v6 σ τ h
    rw [wp_Mo_hears_b45] at h
    refine sx_iload (pc2 := 47) hX 5 d_Mo_hears_45 rfl rfl ?_
    refine sx_bipush (v := 7) (pc2 := 49) hX d_Mo_hears_47 (by decide) rfl ?_
    refine sx_icmp_ge (tgt := 71) (pc2 := 52) hX d_Mo_hears_49 (by decide) rfl (fun hc9 => ?_) (fun hc9 => ?_)
    · replace h := sx_t h hc9
      refine sx_aload_n (pc2 := 72) hX 0 d_Mo_hears_71 rfl rfl rfl ?_
      refine sx_iload_n (pc2 := 73) hX 1 d_Mo_hears_72 rfl rfl rfl ?_
      refine sx_iconst (v := 3) (pc2 := 74) hX d_Mo_hears_73 (by decide) rfl ?_
      refine sx_sipush (v := 9999) (pc2 := 77) hX d_Mo_hears_74 (by decide) rfl ?_
      refine cl_Mo_229 (pc2 := 80) hX hK h  ⟨Nat.le_of_ble_eq_true rfl, Nat.le_of_ble_eq_true rfl⟩ (Nat.le_of_ble_eq_true rfl) d_Mo_hears_77 rfl (fun σ10 τ10 h => ?_)
      refine sx_sub [(0, .ref (K.2.2.1 50 0 0)), (1, .int v1), (2, .int v2), (4, .int v4), (5, .int v5)] [0, 1, 2, 3, 4] rfl ?_
      exact g_Mo_hears_b80 hX hK hE   v1 v2 v4 v5 _ _ h
    · replace h := sx_f h hc9
      refine sx_aload_n (pc2 := 53) hX 0 d_Mo_hears_52 rfl rfl rfl ?_
      refine fg_Mo_71 (pc2 := 56) hX (kr_50 hK) d_Mo_hears_53 rfl ?_
      refine sx_iload (pc2 := 58) hX 4 d_Mo_hears_56 rfl rfl ?_
      refine sx_iload (pc2 := 60) hX 5 d_Mo_hears_58 rfl rfl ?_
      refine sx_iadd (pc2 := 61) hX d_Mo_hears_60 rfl ?_
      refine sx_sipush (v := 9999) (pc2 := 64) hX d_Mo_hears_61 (by decide) rfl ?_
      obtain ⟨hc11, h⟩ := h
      refine sx_iast (pc2 := 65) hX (kr_68 hK) (fun _ => rfl) hc11 d_Mo_hears_64 rfl ?_
      refine sx_nm (fun σ12 e12 => ?_)
      replace h := h σ12 e12
      refine sx_iinc (pc2 := 68) hX 5 _ [(0, .ref (K.2.2.1 50 0 0)), (1, .int v1), (2, .int v2), (4, .int v4), (5, .int v5), (6, .int (v6 + 1))] [1, 2, 3, 4, 5, 0] d_Mo_hears_65 rfl (v6 + 1) rfl (by decide) rfl rfl rfl ?_
      refine sx_goto (tgt := 45) hX d_Mo_hears_68 (by decide) ?_
      exact ih v1 v2 v4 v5 (v6 + 1) _ _ h
set_option maxRecDepth 100000 in
set_option maxHeartbeats 4000000 in
theorem c_Mo_hears {l : Launch} {K : sx_K} (hK : kx_F K) (x1 : Int32) (x2 : Int32) (x3 : Int32) (x4 : Int32) (σ : sx_M) (τ : sx_L) (Q : sx_M → sx_L → Prop)  (h : wp_Mo_hears x1 x2 x3 x4 σ τ Q) : Met l y_Mo_hears (sx_wd y_Mo_hears prog_13_method_54_code 7 none) rm_Mo_hears (sx_Pc K [.ref (K.2.2.1 50 0 0), .int x1, .int x2, .int x3, .int x4] σ τ) (sx_Qv K Q) 0 0 (sx_A K) := by
  refine sx_met (by decide) (Nat.le_of_ble_eq_true rfl) (fun X hX hE => ?_)
  replace hX : sx_C X K prog_13_method_54_code 7 "SensorTreeModel" none rm_Mo_hears l := hX
  show sx_G X K 7 0 [(0, .ref (K.2.2.1 50 0 0)), (1, .int x1), (2, .int x2), (3, .int x3), (4, .int x4)] [] (sx_H K σ τ)
  unfold wp_Mo_hears at h
  refine sx_iload_n (pc2 := 1) hX 3 d_Mo_hears_0 rfl rfl rfl ?_
  refine sx_aload_n (pc2 := 2) hX 0 d_Mo_hears_1 rfl rfl rfl ?_
  refine sx_iload_n (pc2 := 3) hX 1 d_Mo_hears_2 rfl rfl rfl ?_
  refine sx_iconst (v := 0) (pc2 := 4) hX d_Mo_hears_3 (by decide) rfl ?_
  refine cl_Mo_246 (pc2 := 7) hX hK h  ⟨Nat.le_of_ble_eq_true rfl, Nat.le_of_ble_eq_true rfl⟩ (Nat.le_of_ble_eq_true rfl) d_Mo_hears_4 rfl (fun r13 σ13 τ13 h => ?_)
  refine sx_icmp_ge (tgt := 16) (pc2 := 10) hX d_Mo_hears_7 (by decide) rfl (fun hc14 => ?_) (fun hc14 => ?_)
  · replace h := sx_t h hc14
    refine sx_bipush (v := 96) (pc2 := 18) hX d_Mo_hears_16 (by decide) rfl ?_
    refine sx_bipush (v := 7) (pc2 := 20) hX d_Mo_hears_18 (by decide) rfl ?_
    refine sx_iload_n (pc2 := 21) hX 1 d_Mo_hears_20 rfl rfl rfl ?_
    refine sx_imul (pc2 := 22) hX d_Mo_hears_21 rfl ?_
    refine sx_iadd (pc2 := 23) hX d_Mo_hears_22 rfl ?_
    refine sx_istore (pc2 := 25) hX _ [(0, .ref (K.2.2.1 50 0 0)), (1, .int x1), (2, .int x2), (3, .int x3), (4, .int x4), (5, .int (96 + (7 * x1)))] [1, 2, 3, 4, 5, 0] d_Mo_hears_23 (by decide) rfl rfl rfl ?_
    refine sx_iload_n (pc2 := 26) hX 3 d_Mo_hears_25 rfl rfl rfl ?_
    refine sx_aload_n (pc2 := 27) hX 0 d_Mo_hears_26 rfl rfl rfl ?_
    refine sx_iload_n (pc2 := 28) hX 1 d_Mo_hears_27 rfl rfl rfl ?_
    refine sx_iconst (v := 0) (pc2 := 29) hX d_Mo_hears_28 (by decide) rfl ?_
    refine cl_Mo_246 (pc2 := 32) hX hK h  ⟨Nat.le_of_ble_eq_true rfl, Nat.le_of_ble_eq_true rfl⟩ (Nat.le_of_ble_eq_true rfl) d_Mo_hears_29 rfl (fun r15 σ15 τ15 h => ?_)
    refine sx_icmp_le (tgt := 80) (pc2 := 35) hX d_Mo_hears_32 (by decide) rfl (fun hc16 => ?_) (fun hc16 => ?_)
    · replace h := sx_t h hc16
      refine sx_sub [(0, .ref (K.2.2.1 50 0 0)), (1, .int x1), (2, .int x2), (4, .int x4), (5, .int (96 + (7 * x1)))] [0, 1, 2, 4, 5] rfl ?_
      exact g_Mo_hears_b80 hX hK hE   x1 x2 x4 (96 + (7 * x1)) _ _ h
    · replace h := sx_f h hc16
      refine sx_aload_n (pc2 := 36) hX 0 d_Mo_hears_35 rfl rfl rfl ?_
      refine sx_iload_n (pc2 := 37) hX 1 d_Mo_hears_36 rfl rfl rfl ?_
      refine sx_iconst (v := 0) (pc2 := 38) hX d_Mo_hears_37 (by decide) rfl ?_
      refine sx_iload_n (pc2 := 39) hX 3 d_Mo_hears_38 rfl rfl rfl ?_
      refine cl_Mo_229 (pc2 := 42) hX hK h  ⟨Nat.le_of_ble_eq_true rfl, Nat.le_of_ble_eq_true rfl⟩ (Nat.le_of_ble_eq_true rfl) d_Mo_hears_39 rfl (fun σ17 τ17 h => ?_)
      refine sx_iconst (v := 0) (pc2 := 43) hX d_Mo_hears_42 (by decide) rfl ?_
      refine sx_istore (pc2 := 45) hX _ [(0, .ref (K.2.2.1 50 0 0)), (1, .int x1), (2, .int x2), (3, .int x3), (4, .int x4), (5, .int (96 + (7 * x1))), (6, .int 0)] [1, 2, 3, 4, 5, 6, 0] d_Mo_hears_43 (by decide) rfl rfl rfl ?_
      refine sx_sub [(0, .ref (K.2.2.1 50 0 0)), (1, .int x1), (2, .int x2), (4, .int x4), (5, .int (96 + (7 * x1))), (6, .int 0)] [0, 1, 2, 4, 5, 6] rfl ?_
      obtain ⟨f45, h⟩ := h
      exact g_Mo_hears_b45 hX hK hE   f45 x1 x2 x4 (96 + (7 * x1)) 0 _ _ h
  · replace h := sx_f h hc14
    refine sx_aload_n (pc2 := 11) hX 0 d_Mo_hears_10 rfl rfl rfl ?_
    refine sx_iload_n (pc2 := 12) hX 1 d_Mo_hears_11 rfl rfl rfl ?_
    refine cl_Mo_274 (pc2 := 15) hX hK h  ⟨Nat.le_of_ble_eq_true rfl, Nat.le_of_ble_eq_true rfl⟩ (Nat.le_of_ble_eq_true rfl) d_Mo_hears_12 rfl (fun σ18 τ18 h => ?_)
    exact sx_vret hX hE h d_Mo_hears_15
theorem cl_Mo_266 {X : sx_T} {K : sx_K} {cc : ByteArray} {nL : Nat} {ret : Option FieldType} {rm : Room} {l : Launch} {pc pc2 : Nat} {lv : List (Nat × Value)} {st : List Value} {σ : sx_M} {τ : sx_L} {x1 : Int32} {x2 : Int32} {x3 : Int32} {x4 : Int32} {Q : sx_M → sx_L → Prop} (hX : sx_C X K cc nL "SensorTreeModel" ret rm l) (hK : kx_F K) (h : wp_Mo_hears x1 x2 x3 x4 σ τ Q)  (hR : rm_Mo_hears.frames + 1 ≤ rm.frames ∧ 8 + (7 + 11) + rm_Mo_hears.locals ≤ rm.locals) (hst : (st.map fun v => v.category).sum ≤ 8) (hd : decode cc pc = .ok (.invokevirtual 266, 3)) (hpc : pc + 3 = pc2) (kk : ∀ (σ2 : sx_M) (τ2 : sx_L), Q σ2 τ2 → sx_G X K nL pc2 lv (st) (sx_H K σ2 τ2)) : sx_G X K nL pc lv (.int x4 :: .int x3 :: .int x2 :: .int x1 :: .ref (K.2.2.1 50 0 0) :: st) (sx_H K σ τ) :=
  sx_callVv (Q := Q) (As := [.int x1, .int x2, .int x3, .int x4]) hX (c_Mo_hears hK x1 x2 x3 x4 σ τ Q  h) (kr_50 hK) rfl rfl lk_505 ls_71 hy_Mo_hears lk_503 lk_364 lk_504 ⟨rfl, rfl⟩ hR hst rfl hd hpc kk
def y_Mo_learns : MethodName := ⟨"SensorTreeModel", "learns", "(IIIIII)V"⟩
theorem hy_Mo_learns : y_Mo_learns.cls ≠ "java/lang/invoke/MethodHandle" ∧ y_Mo_learns.cls ≠ "java/lang/invoke/VarHandle" ∧ (parseMethodDescriptor y_Mo_learns.desc).map (fun d => d.parameters.length) = some 6 := by decide +kernel
theorem d_Mo_learns_0 : decode prog_13_method_55_code 0 = .ok (.iload 4, 2) := by decide +kernel
theorem d_Mo_learns_2 : decode prog_13_method_55_code 2 = .ok (.iload_n 1, 1) := by decide +kernel
theorem d_Mo_learns_3 : decode prog_13_method_55_code 3 = .ok (.if_icmp .ne 4, 3) := by decide +kernel
theorem d_Mo_learns_6 : decode prog_13_method_55_code 6 = .ok (.return_, 1) := by decide +kernel
theorem d_Mo_learns_7 : decode prog_13_method_55_code 7 = .ok (.bipush 7, 2) := by decide +kernel
theorem d_Mo_learns_9 : decode prog_13_method_55_code 9 = .ok (.iload_n 1, 1) := by decide +kernel
theorem d_Mo_learns_10 : decode prog_13_method_55_code 10 = .ok (.imul, 1) := by decide +kernel
theorem d_Mo_learns_11 : decode prog_13_method_55_code 11 = .ok (.iload 4, 2) := by decide +kernel
theorem d_Mo_learns_13 : decode prog_13_method_55_code 13 = .ok (.iadd, 1) := by decide +kernel
theorem d_Mo_learns_14 : decode prog_13_method_55_code 14 = .ok (.istore 7, 2) := by decide +kernel
theorem d_Mo_learns_16 : decode prog_13_method_55_code 16 = .ok (.iload_n 3, 1) := by decide +kernel
theorem d_Mo_learns_17 : decode prog_13_method_55_code 17 = .ok (.iconst 1, 1) := by decide +kernel
theorem d_Mo_learns_18 : decode prog_13_method_55_code 18 = .ok (.if_icmp .ne 62, 3) := by decide +kernel
theorem d_Mo_learns_21 : decode prog_13_method_55_code 21 = .ok (.aload_n 0, 1) := by decide +kernel
theorem d_Mo_learns_22 : decode prog_13_method_55_code 22 = .ok (.getfield 71, 3) := by decide +kernel
theorem d_Mo_learns_25 : decode prog_13_method_55_code 25 = .ok (.sipush 145, 3) := by decide +kernel
theorem d_Mo_learns_28 : decode prog_13_method_55_code 28 = .ok (.iload 7, 2) := by decide +kernel
theorem d_Mo_learns_30 : decode prog_13_method_55_code 30 = .ok (.iadd, 1) := by decide +kernel
theorem d_Mo_learns_31 : decode prog_13_method_55_code 31 = .ok (.iaload, 1) := by decide +kernel
theorem d_Mo_learns_32 : decode prog_13_method_55_code 32 = .ok (.ifCond .lt 20, 3) := by decide +kernel
theorem d_Mo_learns_35 : decode prog_13_method_55_code 35 = .ok (.aload_n 0, 1) := by decide +kernel
theorem d_Mo_learns_36 : decode prog_13_method_55_code 36 = .ok (.getfield 71, 3) := by decide +kernel
theorem d_Mo_learns_39 : decode prog_13_method_55_code 39 = .ok (.sipush 194, 3) := by decide +kernel
theorem d_Mo_learns_42 : decode prog_13_method_55_code 42 = .ok (.iload 7, 2) := by decide +kernel
theorem d_Mo_learns_44 : decode prog_13_method_55_code 44 = .ok (.iadd, 1) := by decide +kernel
theorem d_Mo_learns_45 : decode prog_13_method_55_code 45 = .ok (.iaload, 1) := by decide +kernel
theorem d_Mo_learns_46 : decode prog_13_method_55_code 46 = .ok (.iload 6, 2) := by decide +kernel
theorem d_Mo_learns_48 : decode prog_13_method_55_code 48 = .ok (.if_icmp .le 4, 3) := by decide +kernel
theorem d_Mo_learns_51 : decode prog_13_method_55_code 51 = .ok (.return_, 1) := by decide +kernel
theorem d_Mo_learns_52 : decode prog_13_method_55_code 52 = .ok (.aload_n 0, 1) := by decide +kernel
theorem d_Mo_learns_53 : decode prog_13_method_55_code 53 = .ok (.getfield 71, 3) := by decide +kernel
theorem d_Mo_learns_56 : decode prog_13_method_55_code 56 = .ok (.sipush 145, 3) := by decide +kernel
theorem d_Mo_learns_59 : decode prog_13_method_55_code 59 = .ok (.iload 7, 2) := by decide +kernel
theorem d_Mo_learns_61 : decode prog_13_method_55_code 61 = .ok (.iadd, 1) := by decide +kernel
theorem d_Mo_learns_62 : decode prog_13_method_55_code 62 = .ok (.iload_n 2, 1) := by decide +kernel
theorem d_Mo_learns_63 : decode prog_13_method_55_code 63 = .ok (.iastore, 1) := by decide +kernel
theorem d_Mo_learns_64 : decode prog_13_method_55_code 64 = .ok (.aload_n 0, 1) := by decide +kernel
theorem d_Mo_learns_65 : decode prog_13_method_55_code 65 = .ok (.getfield 71, 3) := by decide +kernel
theorem d_Mo_learns_68 : decode prog_13_method_55_code 68 = .ok (.sipush 194, 3) := by decide +kernel
theorem d_Mo_learns_71 : decode prog_13_method_55_code 71 = .ok (.iload 7, 2) := by decide +kernel
theorem d_Mo_learns_73 : decode prog_13_method_55_code 73 = .ok (.iadd, 1) := by decide +kernel
theorem d_Mo_learns_74 : decode prog_13_method_55_code 74 = .ok (.iload 6, 2) := by decide +kernel
theorem d_Mo_learns_76 : decode prog_13_method_55_code 76 = .ok (.iastore, 1) := by decide +kernel
theorem d_Mo_learns_77 : decode prog_13_method_55_code 77 = .ok (.goto 60, 3) := by decide +kernel
theorem d_Mo_learns_80 : decode prog_13_method_55_code 80 = .ok (.aload_n 0, 1) := by decide +kernel
theorem d_Mo_learns_81 : decode prog_13_method_55_code 81 = .ok (.getfield 71, 3) := by decide +kernel
theorem d_Mo_learns_84 : decode prog_13_method_55_code 84 = .ok (.sipush 145, 3) := by decide +kernel
theorem d_Mo_learns_87 : decode prog_13_method_55_code 87 = .ok (.iload 7, 2) := by decide +kernel
theorem d_Mo_learns_89 : decode prog_13_method_55_code 89 = .ok (.iadd, 1) := by decide +kernel
theorem d_Mo_learns_90 : decode prog_13_method_55_code 90 = .ok (.iaload, 1) := by decide +kernel
theorem d_Mo_learns_91 : decode prog_13_method_55_code 91 = .ok (.iload_n 2, 1) := by decide +kernel
theorem d_Mo_learns_92 : decode prog_13_method_55_code 92 = .ok (.if_icmp .ne 19, 3) := by decide +kernel
theorem d_Mo_learns_95 : decode prog_13_method_55_code 95 = .ok (.aload_n 0, 1) := by decide +kernel
theorem d_Mo_learns_96 : decode prog_13_method_55_code 96 = .ok (.getfield 71, 3) := by decide +kernel
theorem d_Mo_learns_99 : decode prog_13_method_55_code 99 = .ok (.sipush 194, 3) := by decide +kernel
theorem d_Mo_learns_102 : decode prog_13_method_55_code 102 = .ok (.iload 7, 2) := by decide +kernel
theorem d_Mo_learns_104 : decode prog_13_method_55_code 104 = .ok (.iadd, 1) := by decide +kernel
theorem d_Mo_learns_105 : decode prog_13_method_55_code 105 = .ok (.iaload, 1) := by decide +kernel
theorem d_Mo_learns_106 : decode prog_13_method_55_code 106 = .ok (.iload 6, 2) := by decide +kernel
theorem d_Mo_learns_108 : decode prog_13_method_55_code 108 = .ok (.if_icmp .le 4, 3) := by decide +kernel
theorem d_Mo_learns_111 : decode prog_13_method_55_code 111 = .ok (.return_, 1) := by decide +kernel
theorem d_Mo_learns_112 : decode prog_13_method_55_code 112 = .ok (.aload_n 0, 1) := by decide +kernel
theorem d_Mo_learns_113 : decode prog_13_method_55_code 113 = .ok (.getfield 71, 3) := by decide +kernel
theorem d_Mo_learns_116 : decode prog_13_method_55_code 116 = .ok (.sipush 145, 3) := by decide +kernel
theorem d_Mo_learns_119 : decode prog_13_method_55_code 119 = .ok (.iload 7, 2) := by decide +kernel
theorem d_Mo_learns_121 : decode prog_13_method_55_code 121 = .ok (.iadd, 1) := by decide +kernel
theorem d_Mo_learns_122 : decode prog_13_method_55_code 122 = .ok (.bipush (-2), 2) := by decide +kernel
theorem d_Mo_learns_124 : decode prog_13_method_55_code 124 = .ok (.iastore, 1) := by decide +kernel
theorem d_Mo_learns_125 : decode prog_13_method_55_code 125 = .ok (.aload_n 0, 1) := by decide +kernel
theorem d_Mo_learns_126 : decode prog_13_method_55_code 126 = .ok (.getfield 71, 3) := by decide +kernel
theorem d_Mo_learns_129 : decode prog_13_method_55_code 129 = .ok (.sipush 194, 3) := by decide +kernel
theorem d_Mo_learns_132 : decode prog_13_method_55_code 132 = .ok (.iload 7, 2) := by decide +kernel
theorem d_Mo_learns_134 : decode prog_13_method_55_code 134 = .ok (.iadd, 1) := by decide +kernel
theorem d_Mo_learns_135 : decode prog_13_method_55_code 135 = .ok (.iconst 0, 1) := by decide +kernel
theorem d_Mo_learns_136 : decode prog_13_method_55_code 136 = .ok (.iastore, 1) := by decide +kernel
theorem d_Mo_learns_137 : decode prog_13_method_55_code 137 = .ok (.aload_n 0, 1) := by decide +kernel
theorem d_Mo_learns_138 : decode prog_13_method_55_code 138 = .ok (.iload_n 1, 1) := by decide +kernel
theorem d_Mo_learns_139 : decode prog_13_method_55_code 139 = .ok (.iconst 2, 1) := by decide +kernel
theorem d_Mo_learns_140 : decode prog_13_method_55_code 140 = .ok (.invokevirtual 246, 3) := by decide +kernel
theorem d_Mo_learns_143 : decode prog_13_method_55_code 143 = .ok (.istore 8, 2) := by decide +kernel
theorem d_Mo_learns_145 : decode prog_13_method_55_code 145 = .ok (.iload 8, 2) := by decide +kernel
theorem d_Mo_learns_147 : decode prog_13_method_55_code 147 = .ok (.ifCond .lt 27, 3) := by decide +kernel
theorem d_Mo_learns_150 : decode prog_13_method_55_code 150 = .ok (.iload 5, 2) := by decide +kernel
theorem d_Mo_learns_152 : decode prog_13_method_55_code 152 = .ok (.bipush 12, 2) := by decide +kernel
theorem d_Mo_learns_154 : decode prog_13_method_55_code 154 = .ok (.if_icmp .ge 20, 3) := by decide +kernel
theorem d_Mo_learns_157 : decode prog_13_method_55_code 157 = .ok (.aload_n 0, 1) := by decide +kernel
theorem d_Mo_learns_158 : decode prog_13_method_55_code 158 = .ok (.iload_n 3, 1) := by decide +kernel
theorem d_Mo_learns_159 : decode prog_13_method_55_code 159 = .ok (.iload_n 1, 1) := by decide +kernel
theorem d_Mo_learns_160 : decode prog_13_method_55_code 160 = .ok (.iload 8, 2) := by decide +kernel
theorem d_Mo_learns_162 : decode prog_13_method_55_code 162 = .ok (.iload 4, 2) := by decide +kernel
theorem d_Mo_learns_164 : decode prog_13_method_55_code 164 = .ok (.iload 5, 2) := by decide +kernel
theorem d_Mo_learns_166 : decode prog_13_method_55_code 166 = .ok (.iconst 1, 1) := by decide +kernel
theorem d_Mo_learns_167 : decode prog_13_method_55_code 167 = .ok (.iadd, 1) := by decide +kernel
theorem d_Mo_learns_168 : decode prog_13_method_55_code 168 = .ok (.iconst 0, 1) := by decide +kernel
theorem d_Mo_learns_169 : decode prog_13_method_55_code 169 = .ok (.iload 6, 2) := by decide +kernel
theorem d_Mo_learns_171 : decode prog_13_method_55_code 171 = .ok (.invokevirtual 280, 3) := by decide +kernel
theorem d_Mo_learns_174 : decode prog_13_method_55_code 174 = .ok (.return_, 1) := by decide +kernel
def wp_Mo_learns_b174   (Q : sx_M → sx_L → Prop)  (σ : sx_M) (τ : sx_L) : Prop := Q σ τ
def wp_Mo_learns_b137   (Q : sx_M → sx_L → Prop) (v1 : Int32) (v3 : Int32) (v4 : Int32) (v5 : Int32) (v6 : Int32) (σ : sx_M) (τ : sx_L) : Prop := wp_Mo_of v1 (2 : Int32) σ τ (fun r1 σ1 τ1 => if r1 < 0 then (wp_Mo_learns_b174 Q σ1 τ1) else (if 12 ≤ v5 then (wp_Mo_learns_b174 Q σ1 τ1) else (wp_Mo_puts v3 v1 r1 v4 (v5 + 1) (0 : Int32) v6 σ1 τ1 (fun σ4 τ4 => wp_Mo_learns_b174 Q σ4 τ4))))
def wp_Mo_learns_b111   (Q : sx_M → sx_L → Prop)  (σ : sx_M) (τ : sx_L) : Prop := Q σ τ
def wp_Mo_learns_b52   (Q : sx_M → sx_L → Prop) (v1 : Int32) (v2 : Int32) (v3 : Int32) (v4 : Int32) (v5 : Int32) (v6 : Int32) (v7 : Int32) (σ : sx_M) (τ : sx_L) : Prop := vp_in (145 + v7) 643 ∧ (∀ σ6 : sx_M, σ6 = sx_u σ 68 0 0 (145 + v7).toNatClampNeg v2 → (vp_in (194 + v7) 643 ∧ (∀ σ8 : sx_M, σ8 = sx_u σ6 68 0 0 (194 + v7).toNatClampNeg v6 → (wp_Mo_learns_b137 Q v1 v3 v4 v5 v6 σ8 τ))))
def wp_Mo_learns (x1 : Int32) (x2 : Int32) (x3 : Int32) (x4 : Int32) (x5 : Int32) (x6 : Int32) (σ : sx_M) (τ : sx_L) (Q : sx_M → sx_L → Prop) : Prop := if x4 = x1 then (Q σ τ) else (if x3 = 1 then (vp_in (145 + ((7 * x1) + x4)) 643 ∧ (if σ 68 0 0 (145 + ((7 * x1) + x4)).toNatClampNeg < 0 then (wp_Mo_learns_b52 Q x1 x2 x3 x4 x5 x6 ((7 * x1) + x4) σ τ) else (vp_in (194 + ((7 * x1) + x4)) 643 ∧ (if σ 68 0 0 (194 + ((7 * x1) + x4)).toNatClampNeg ≤ x6 then (wp_Mo_learns_b52 Q x1 x2 x3 x4 x5 x6 ((7 * x1) + x4) σ τ) else (Q σ τ))))) else (vp_in (145 + ((7 * x1) + x4)) 643 ∧ (if σ 68 0 0 (145 + ((7 * x1) + x4)).toNatClampNeg = x2 then (vp_in (194 + ((7 * x1) + x4)) 643 ∧ (if σ 68 0 0 (194 + ((7 * x1) + x4)).toNatClampNeg ≤ x6 then (vp_in (145 + ((7 * x1) + x4)) 643 ∧ (∀ σ16 : sx_M, σ16 = sx_u σ 68 0 0 (145 + ((7 * x1) + x4)).toNatClampNeg (-2) → (vp_in (194 + ((7 * x1) + x4)) 643 ∧ (∀ σ18 : sx_M, σ18 = sx_u σ16 68 0 0 (194 + ((7 * x1) + x4)).toNatClampNeg 0 → (wp_Mo_learns_b137 Q x1 x3 x4 x5 x6 σ18 τ))))) else (wp_Mo_learns_b111 Q σ τ))) else (wp_Mo_learns_b111 Q σ τ))))
abbrev rm_Mo_learns : Room := { frames := 1, cells := 0, slots := 0, locals := 28 }
set_option maxRecDepth 100000 in
set_option maxHeartbeats 4000000 in
theorem g_Mo_learns_b174 {l : Launch} {K : sx_K} {X : sx_T}   {Q : sx_M → sx_L → Prop} (hX : sx_C X K prog_13_method_55_code 9 "SensorTreeModel" none rm_Mo_learns l) (hK : kx_F K) (hE : sx_E X K (sx_Qv K Q))   (σ : sx_M) (τ : sx_L)  (h : wp_Mo_learns_b174 Q  σ τ) : sx_G X K 9 174 [] [] (sx_H K σ τ) := by
  unfold wp_Mo_learns_b174 at h
  exact sx_vret hX hE h d_Mo_learns_174
set_option maxRecDepth 100000 in
set_option maxHeartbeats 4000000 in
theorem g_Mo_learns_b137 {l : Launch} {K : sx_K} {X : sx_T}   {Q : sx_M → sx_L → Prop} (hX : sx_C X K prog_13_method_55_code 9 "SensorTreeModel" none rm_Mo_learns l) (hK : kx_F K) (hE : sx_E X K (sx_Qv K Q))  (v1 : Int32) (v3 : Int32) (v4 : Int32) (v5 : Int32) (v6 : Int32) (σ : sx_M) (τ : sx_L)  (h : wp_Mo_learns_b137 Q  v1 v3 v4 v5 v6 σ τ) : sx_G X K 9 137 [(0, .ref (K.2.2.1 50 0 0)), (1, .int v1), (3, .int v3), (4, .int v4), (5, .int v5), (6, .int v6)] [] (sx_H K σ τ) := by
  unfold wp_Mo_learns_b137 at h
  refine sx_aload_n (pc2 := 138) hX 0 d_Mo_learns_137 rfl rfl rfl ?_
  refine sx_iload_n (pc2 := 139) hX 1 d_Mo_learns_138 rfl rfl rfl ?_
  refine sx_iconst (v := 2) (pc2 := 140) hX d_Mo_learns_139 (by decide) rfl ?_
  refine cl_Mo_246 (pc2 := 143) hX hK h  ⟨Nat.le_of_ble_eq_true rfl, Nat.le_of_ble_eq_true rfl⟩ (Nat.le_of_ble_eq_true rfl) d_Mo_learns_140 rfl (fun r1 σ1 τ1 h => ?_)
  refine sx_istore (pc2 := 145) hX _ [(0, .ref (K.2.2.1 50 0 0)), (1, .int v1), (3, .int v3), (4, .int v4), (5, .int v5), (6, .int v6), (8, .int r1)] [1, 2, 3, 4, 5, 6, 0] d_Mo_learns_143 (by decide) rfl rfl rfl ?_
  refine sx_iload (pc2 := 147) hX 6 d_Mo_learns_145 rfl rfl ?_
  refine sx_if_lt (tgt := 174) (pc2 := 150) hX d_Mo_learns_147 (by decide) rfl (fun hc2 => ?_) (fun hc2 => ?_)
  · replace h := sx_t h hc2
    refine sx_sub [] [] rfl ?_
    exact g_Mo_learns_b174 hX hK hE   _ _ h
  · replace h := sx_f h hc2
    refine sx_iload (pc2 := 152) hX 4 d_Mo_learns_150 rfl rfl ?_
    refine sx_bipush (v := 12) (pc2 := 154) hX d_Mo_learns_152 (by decide) rfl ?_
    refine sx_icmp_ge (tgt := 174) (pc2 := 157) hX d_Mo_learns_154 (by decide) rfl (fun hc3 => ?_) (fun hc3 => ?_)
    · replace h := sx_t h hc3
      refine sx_sub [] [] rfl ?_
      exact g_Mo_learns_b174 hX hK hE   _ _ h
    · replace h := sx_f h hc3
      refine sx_aload_n (pc2 := 158) hX 0 d_Mo_learns_157 rfl rfl rfl ?_
      refine sx_iload_n (pc2 := 159) hX 2 d_Mo_learns_158 rfl rfl rfl ?_
      refine sx_iload_n (pc2 := 160) hX 1 d_Mo_learns_159 rfl rfl rfl ?_
      refine sx_iload (pc2 := 162) hX 6 d_Mo_learns_160 rfl rfl ?_
      refine sx_iload (pc2 := 164) hX 3 d_Mo_learns_162 rfl rfl ?_
      refine sx_iload (pc2 := 166) hX 4 d_Mo_learns_164 rfl rfl ?_
      refine sx_iconst (v := 1) (pc2 := 167) hX d_Mo_learns_166 (by decide) rfl ?_
      refine sx_iadd (pc2 := 168) hX d_Mo_learns_167 rfl ?_
      refine sx_iconst (v := 0) (pc2 := 169) hX d_Mo_learns_168 (by decide) rfl ?_
      refine sx_iload (pc2 := 171) hX 5 d_Mo_learns_169 rfl rfl ?_
      refine cl_Mo_280 (pc2 := 174) hX hK h  ⟨Nat.le_of_ble_eq_true rfl, Nat.le_of_ble_eq_true rfl⟩ (Nat.le_of_ble_eq_true rfl) d_Mo_learns_171 rfl (fun σ4 τ4 h => ?_)
      refine sx_sub [] [] rfl ?_
      exact g_Mo_learns_b174 hX hK hE   _ _ h
set_option maxRecDepth 100000 in
set_option maxHeartbeats 4000000 in
theorem g_Mo_learns_b111 {l : Launch} {K : sx_K} {X : sx_T}   {Q : sx_M → sx_L → Prop} (hX : sx_C X K prog_13_method_55_code 9 "SensorTreeModel" none rm_Mo_learns l) (hK : kx_F K) (hE : sx_E X K (sx_Qv K Q))   (σ : sx_M) (τ : sx_L)  (h : wp_Mo_learns_b111 Q  σ τ) : sx_G X K 9 111 [] [] (sx_H K σ τ) := by
  unfold wp_Mo_learns_b111 at h
  exact sx_vret hX hE h d_Mo_learns_111
set_option maxRecDepth 100000 in
set_option maxHeartbeats 4000000 in
theorem g_Mo_learns_b52 {l : Launch} {K : sx_K} {X : sx_T}   {Q : sx_M → sx_L → Prop} (hX : sx_C X K prog_13_method_55_code 9 "SensorTreeModel" none rm_Mo_learns l) (hK : kx_F K) (hE : sx_E X K (sx_Qv K Q))  (v1 : Int32) (v2 : Int32) (v3 : Int32) (v4 : Int32) (v5 : Int32) (v6 : Int32) (v7 : Int32) (σ : sx_M) (τ : sx_L)  (h : wp_Mo_learns_b52 Q  v1 v2 v3 v4 v5 v6 v7 σ τ) : sx_G X K 9 52 [(0, .ref (K.2.2.1 50 0 0)), (1, .int v1), (2, .int v2), (3, .int v3), (4, .int v4), (5, .int v5), (6, .int v6), (7, .int v7)] [] (sx_H K σ τ) := by
  unfold wp_Mo_learns_b52 at h
  refine sx_aload_n (pc2 := 53) hX 0 d_Mo_learns_52 rfl rfl rfl ?_
  refine fg_Mo_71 (pc2 := 56) hX (kr_50 hK) d_Mo_learns_53 rfl ?_
  refine sx_sipush (v := 145) (pc2 := 59) hX d_Mo_learns_56 (by decide) rfl ?_
  refine sx_iload (pc2 := 61) hX 7 d_Mo_learns_59 rfl rfl ?_
  refine sx_iadd (pc2 := 62) hX d_Mo_learns_61 rfl ?_
  refine sx_iload_n (pc2 := 63) hX 2 d_Mo_learns_62 rfl rfl rfl ?_
  obtain ⟨hc5, h⟩ := h
  refine sx_iast (pc2 := 64) hX (kr_68 hK) (fun _ => rfl) hc5 d_Mo_learns_63 rfl ?_
  refine sx_nm (fun σ6 e6 => ?_)
  replace h := h σ6 e6
  refine sx_aload_n (pc2 := 65) hX 0 d_Mo_learns_64 rfl rfl rfl ?_
  refine fg_Mo_71 (pc2 := 68) hX (kr_50 hK) d_Mo_learns_65 rfl ?_
  refine sx_sipush (v := 194) (pc2 := 71) hX d_Mo_learns_68 (by decide) rfl ?_
  refine sx_iload (pc2 := 73) hX 7 d_Mo_learns_71 rfl rfl ?_
  refine sx_iadd (pc2 := 74) hX d_Mo_learns_73 rfl ?_
  refine sx_iload (pc2 := 76) hX 6 d_Mo_learns_74 rfl rfl ?_
  obtain ⟨hc7, h⟩ := h
  refine sx_iast (pc2 := 77) hX (kr_68 hK) (fun _ => rfl) hc7 d_Mo_learns_76 rfl ?_
  refine sx_nm (fun σ8 e8 => ?_)
  replace h := h σ8 e8
  refine sx_goto (tgt := 137) hX d_Mo_learns_77 (by decide) ?_
  refine sx_sub [(0, .ref (K.2.2.1 50 0 0)), (1, .int v1), (3, .int v3), (4, .int v4), (5, .int v5), (6, .int v6)] [0, 1, 3, 4, 5, 6] rfl ?_
  exact g_Mo_learns_b137 hX hK hE   v1 v3 v4 v5 v6 _ _ h
set_option maxRecDepth 100000 in
set_option maxHeartbeats 4000000 in
theorem c_Mo_learns {l : Launch} {K : sx_K} (hK : kx_F K) (x1 : Int32) (x2 : Int32) (x3 : Int32) (x4 : Int32) (x5 : Int32) (x6 : Int32) (σ : sx_M) (τ : sx_L) (Q : sx_M → sx_L → Prop)  (h : wp_Mo_learns x1 x2 x3 x4 x5 x6 σ τ Q) : Met l y_Mo_learns (sx_wd y_Mo_learns prog_13_method_55_code 9 none) rm_Mo_learns (sx_Pc K [.ref (K.2.2.1 50 0 0), .int x1, .int x2, .int x3, .int x4, .int x5, .int x6] σ τ) (sx_Qv K Q) 0 0 (sx_A K) := by
  refine sx_met (by decide) (Nat.le_of_ble_eq_true rfl) (fun X hX hE => ?_)
  replace hX : sx_C X K prog_13_method_55_code 9 "SensorTreeModel" none rm_Mo_learns l := hX
  show sx_G X K 9 0 [(0, .ref (K.2.2.1 50 0 0)), (1, .int x1), (2, .int x2), (3, .int x3), (4, .int x4), (5, .int x5), (6, .int x6)] [] (sx_H K σ τ)
  unfold wp_Mo_learns at h
  refine sx_iload (pc2 := 2) hX 4 d_Mo_learns_0 rfl rfl ?_
  refine sx_iload_n (pc2 := 3) hX 1 d_Mo_learns_2 rfl rfl rfl ?_
  refine sx_icmp_ne (tgt := 7) (pc2 := 6) hX d_Mo_learns_3 (by decide) rfl (fun hc9 => ?_) (fun hc9 => ?_)
  · replace h := sx_f h hc9
    refine sx_bipush (v := 7) (pc2 := 9) hX d_Mo_learns_7 (by decide) rfl ?_
    refine sx_iload_n (pc2 := 10) hX 1 d_Mo_learns_9 rfl rfl rfl ?_
    refine sx_imul (pc2 := 11) hX d_Mo_learns_10 rfl ?_
    refine sx_iload (pc2 := 13) hX 4 d_Mo_learns_11 rfl rfl ?_
    refine sx_iadd (pc2 := 14) hX d_Mo_learns_13 rfl ?_
    refine sx_istore (pc2 := 16) hX _ [(0, .ref (K.2.2.1 50 0 0)), (1, .int x1), (2, .int x2), (3, .int x3), (4, .int x4), (5, .int x5), (6, .int x6), (7, .int ((7 * x1) + x4))] [1, 2, 3, 4, 5, 6, 7, 0] d_Mo_learns_14 (by decide) rfl rfl rfl ?_
    refine sx_iload_n (pc2 := 17) hX 3 d_Mo_learns_16 rfl rfl rfl ?_
    refine sx_iconst (v := 1) (pc2 := 18) hX d_Mo_learns_17 (by decide) rfl ?_
    refine sx_icmp_ne (tgt := 80) (pc2 := 21) hX d_Mo_learns_18 (by decide) rfl (fun hc10 => ?_) (fun hc10 => ?_)
    · replace h := sx_f h hc10
      refine sx_aload_n (pc2 := 81) hX 0 d_Mo_learns_80 rfl rfl rfl ?_
      refine fg_Mo_71 (pc2 := 84) hX (kr_50 hK) d_Mo_learns_81 rfl ?_
      refine sx_sipush (v := 145) (pc2 := 87) hX d_Mo_learns_84 (by decide) rfl ?_
      refine sx_iload (pc2 := 89) hX 7 d_Mo_learns_87 rfl rfl ?_
      refine sx_iadd (pc2 := 90) hX d_Mo_learns_89 rfl ?_
      obtain ⟨hc11, h⟩ := h
      refine sx_iald (pc2 := 91) hX (kr_68 hK) rfl hc11 d_Mo_learns_90 rfl ?_
      refine sx_iload_n (pc2 := 92) hX 2 d_Mo_learns_91 rfl rfl rfl ?_
      refine sx_icmp_ne (tgt := 111) (pc2 := 95) hX d_Mo_learns_92 (by decide) rfl (fun hc12 => ?_) (fun hc12 => ?_)
      · replace h := sx_f h hc12
        refine sx_sub [] [] rfl ?_
        exact g_Mo_learns_b111 hX hK hE   _ _ h
      · replace h := sx_t h hc12
        refine sx_aload_n (pc2 := 96) hX 0 d_Mo_learns_95 rfl rfl rfl ?_
        refine fg_Mo_71 (pc2 := 99) hX (kr_50 hK) d_Mo_learns_96 rfl ?_
        refine sx_sipush (v := 194) (pc2 := 102) hX d_Mo_learns_99 (by decide) rfl ?_
        refine sx_iload (pc2 := 104) hX 7 d_Mo_learns_102 rfl rfl ?_
        refine sx_iadd (pc2 := 105) hX d_Mo_learns_104 rfl ?_
        obtain ⟨hc13, h⟩ := h
        refine sx_iald (pc2 := 106) hX (kr_68 hK) rfl hc13 d_Mo_learns_105 rfl ?_
        refine sx_iload (pc2 := 108) hX 6 d_Mo_learns_106 rfl rfl ?_
        refine sx_icmp_le (tgt := 112) (pc2 := 111) hX d_Mo_learns_108 (by decide) rfl (fun hc14 => ?_) (fun hc14 => ?_)
        · replace h := sx_t h hc14
          refine sx_aload_n (pc2 := 113) hX 0 d_Mo_learns_112 rfl rfl rfl ?_
          refine fg_Mo_71 (pc2 := 116) hX (kr_50 hK) d_Mo_learns_113 rfl ?_
          refine sx_sipush (v := 145) (pc2 := 119) hX d_Mo_learns_116 (by decide) rfl ?_
          refine sx_iload (pc2 := 121) hX 7 d_Mo_learns_119 rfl rfl ?_
          refine sx_iadd (pc2 := 122) hX d_Mo_learns_121 rfl ?_
          refine sx_bipush (v := (-2)) (pc2 := 124) hX d_Mo_learns_122 (by decide) rfl ?_
          obtain ⟨hc15, h⟩ := h
          refine sx_iast (pc2 := 125) hX (kr_68 hK) (fun _ => rfl) hc15 d_Mo_learns_124 rfl ?_
          refine sx_nm (fun σ16 e16 => ?_)
          replace h := h σ16 e16
          refine sx_aload_n (pc2 := 126) hX 0 d_Mo_learns_125 rfl rfl rfl ?_
          refine fg_Mo_71 (pc2 := 129) hX (kr_50 hK) d_Mo_learns_126 rfl ?_
          refine sx_sipush (v := 194) (pc2 := 132) hX d_Mo_learns_129 (by decide) rfl ?_
          refine sx_iload (pc2 := 134) hX 7 d_Mo_learns_132 rfl rfl ?_
          refine sx_iadd (pc2 := 135) hX d_Mo_learns_134 rfl ?_
          refine sx_iconst (v := 0) (pc2 := 136) hX d_Mo_learns_135 (by decide) rfl ?_
          obtain ⟨hc17, h⟩ := h
          refine sx_iast (pc2 := 137) hX (kr_68 hK) (fun _ => rfl) hc17 d_Mo_learns_136 rfl ?_
          refine sx_nm (fun σ18 e18 => ?_)
          replace h := h σ18 e18
          refine sx_sub [(0, .ref (K.2.2.1 50 0 0)), (1, .int x1), (3, .int x3), (4, .int x4), (5, .int x5), (6, .int x6)] [0, 1, 3, 4, 5, 6] rfl ?_
          exact g_Mo_learns_b137 hX hK hE   x1 x3 x4 x5 x6 _ _ h
        · replace h := sx_f h hc14
          refine sx_sub [] [] rfl ?_
          exact g_Mo_learns_b111 hX hK hE   _ _ h
    · replace h := sx_t h hc10
      refine sx_aload_n (pc2 := 22) hX 0 d_Mo_learns_21 rfl rfl rfl ?_
      refine fg_Mo_71 (pc2 := 25) hX (kr_50 hK) d_Mo_learns_22 rfl ?_
      refine sx_sipush (v := 145) (pc2 := 28) hX d_Mo_learns_25 (by decide) rfl ?_
      refine sx_iload (pc2 := 30) hX 7 d_Mo_learns_28 rfl rfl ?_
      refine sx_iadd (pc2 := 31) hX d_Mo_learns_30 rfl ?_
      obtain ⟨hc19, h⟩ := h
      refine sx_iald (pc2 := 32) hX (kr_68 hK) rfl hc19 d_Mo_learns_31 rfl ?_
      refine sx_if_lt (tgt := 52) (pc2 := 35) hX d_Mo_learns_32 (by decide) rfl (fun hc20 => ?_) (fun hc20 => ?_)
      · replace h := sx_t h hc20
        exact g_Mo_learns_b52 hX hK hE   x1 x2 x3 x4 x5 x6 ((7 * x1) + x4) _ _ h
      · replace h := sx_f h hc20
        refine sx_aload_n (pc2 := 36) hX 0 d_Mo_learns_35 rfl rfl rfl ?_
        refine fg_Mo_71 (pc2 := 39) hX (kr_50 hK) d_Mo_learns_36 rfl ?_
        refine sx_sipush (v := 194) (pc2 := 42) hX d_Mo_learns_39 (by decide) rfl ?_
        refine sx_iload (pc2 := 44) hX 7 d_Mo_learns_42 rfl rfl ?_
        refine sx_iadd (pc2 := 45) hX d_Mo_learns_44 rfl ?_
        obtain ⟨hc21, h⟩ := h
        refine sx_iald (pc2 := 46) hX (kr_68 hK) rfl hc21 d_Mo_learns_45 rfl ?_
        refine sx_iload (pc2 := 48) hX 6 d_Mo_learns_46 rfl rfl ?_
        refine sx_icmp_le (tgt := 52) (pc2 := 51) hX d_Mo_learns_48 (by decide) rfl (fun hc22 => ?_) (fun hc22 => ?_)
        · replace h := sx_t h hc22
          exact g_Mo_learns_b52 hX hK hE   x1 x2 x3 x4 x5 x6 ((7 * x1) + x4) _ _ h
        · replace h := sx_f h hc22
          exact sx_vret hX hE h d_Mo_learns_51
  · replace h := sx_t h hc9
    exact sx_vret hX hE h d_Mo_learns_6
theorem cl_Mo_270 {X : sx_T} {K : sx_K} {cc : ByteArray} {nL : Nat} {ret : Option FieldType} {rm : Room} {l : Launch} {pc pc2 : Nat} {lv : List (Nat × Value)} {st : List Value} {σ : sx_M} {τ : sx_L} {x1 : Int32} {x2 : Int32} {x3 : Int32} {x4 : Int32} {x5 : Int32} {x6 : Int32} {Q : sx_M → sx_L → Prop} (hX : sx_C X K cc nL "SensorTreeModel" ret rm l) (hK : kx_F K) (h : wp_Mo_learns x1 x2 x3 x4 x5 x6 σ τ Q)  (hR : rm_Mo_learns.frames + 1 ≤ rm.frames ∧ 8 + (9 + 11) + rm_Mo_learns.locals ≤ rm.locals) (hst : (st.map fun v => v.category).sum ≤ 8) (hd : decode cc pc = .ok (.invokevirtual 270, 3)) (hpc : pc + 3 = pc2) (kk : ∀ (σ2 : sx_M) (τ2 : sx_L), Q σ2 τ2 → sx_G X K nL pc2 lv (st) (sx_H K σ2 τ2)) : sx_G X K nL pc lv (.int x6 :: .int x5 :: .int x4 :: .int x3 :: .int x2 :: .int x1 :: .ref (K.2.2.1 50 0 0) :: st) (sx_H K σ τ) :=
  sx_callVv (Q := Q) (As := [.int x1, .int x2, .int x3, .int x4, .int x5, .int x6]) hX (c_Mo_learns hK x1 x2 x3 x4 x5 x6 σ τ Q  h) (kr_50 hK) rfl rfl lk_508 ls_81 hy_Mo_learns lk_506 lk_364 lk_507 ⟨rfl, rfl⟩ hR hst rfl hd hpc kk
def y_Mo_allCome : MethodName := ⟨"SensorTreeModel", "allCome", "()V"⟩
theorem hy_Mo_allCome : y_Mo_allCome.cls ≠ "java/lang/invoke/MethodHandle" ∧ y_Mo_allCome.cls ≠ "java/lang/invoke/VarHandle" ∧ (parseMethodDescriptor y_Mo_allCome.desc).map (fun d => d.parameters.length) = some 0 := by decide +kernel
theorem d_Mo_allCome_0 : decode prog_13_method_53_code 0 = .ok (.aload_n 0, 1) := by decide +kernel
theorem d_Mo_allCome_1 : decode prog_13_method_53_code 1 = .ok (.getfield 71, 3) := by decide +kernel
theorem d_Mo_allCome_4 : decode prog_13_method_53_code 4 = .ok (.bipush 7, 2) := by decide +kernel
theorem d_Mo_allCome_6 : decode prog_13_method_53_code 6 = .ok (.iaload, 1) := by decide +kernel
theorem d_Mo_allCome_7 : decode prog_13_method_53_code 7 = .ok (.istore_n 1, 1) := by decide +kernel
theorem d_Mo_allCome_8 : decode prog_13_method_53_code 8 = .ok (.iconst 0, 1) := by decide +kernel
theorem d_Mo_allCome_9 : decode prog_13_method_53_code 9 = .ok (.istore_n 2, 1) := by decide +kernel
theorem d_Mo_allCome_10 : decode prog_13_method_53_code 10 = .ok (.iload_n 2, 1) := by decide +kernel
theorem d_Mo_allCome_11 : decode prog_13_method_53_code 11 = .ok (.iconst 2, 1) := by decide +kernel
theorem d_Mo_allCome_12 : decode prog_13_method_53_code 12 = .ok (.iload_n 1, 1) := by decide +kernel
theorem d_Mo_allCome_13 : decode prog_13_method_53_code 13 = .ok (.imul, 1) := by decide +kernel
theorem d_Mo_allCome_14 : decode prog_13_method_53_code 14 = .ok (.if_icmp .ge 25, 3) := by decide +kernel
theorem d_Mo_allCome_17 : decode prog_13_method_53_code 17 = .ok (.aload_n 0, 1) := by decide +kernel
theorem d_Mo_allCome_18 : decode prog_13_method_53_code 18 = .ok (.getfield 74, 3) := by decide +kernel
theorem d_Mo_allCome_21 : decode prog_13_method_53_code 21 = .ok (.iload_n 2, 1) := by decide +kernel
theorem d_Mo_allCome_22 : decode prog_13_method_53_code 22 = .ok (.aload_n 0, 1) := by decide +kernel
theorem d_Mo_allCome_23 : decode prog_13_method_53_code 23 = .ok (.getfield 71, 3) := by decide +kernel
theorem d_Mo_allCome_26 : decode prog_13_method_53_code 26 = .ok (.sipush 243, 3) := by decide +kernel
theorem d_Mo_allCome_29 : decode prog_13_method_53_code 29 = .ok (.iload_n 2, 1) := by decide +kernel
theorem d_Mo_allCome_30 : decode prog_13_method_53_code 30 = .ok (.iadd, 1) := by decide +kernel
theorem d_Mo_allCome_31 : decode prog_13_method_53_code 31 = .ok (.iaload, 1) := by decide +kernel
theorem d_Mo_allCome_32 : decode prog_13_method_53_code 32 = .ok (.iastore, 1) := by decide +kernel
theorem d_Mo_allCome_33 : decode prog_13_method_53_code 33 = .ok (.iinc 2 1, 3) := by decide +kernel
theorem d_Mo_allCome_36 : decode prog_13_method_53_code 36 = .ok (.goto (-26), 3) := by decide +kernel
theorem d_Mo_allCome_39 : decode prog_13_method_53_code 39 = .ok (.aload_n 0, 1) := by decide +kernel
theorem d_Mo_allCome_40 : decode prog_13_method_53_code 40 = .ok (.getfield 71, 3) := by decide +kernel
theorem d_Mo_allCome_43 : decode prog_13_method_53_code 43 = .ok (.bipush 7, 2) := by decide +kernel
theorem d_Mo_allCome_45 : decode prog_13_method_53_code 45 = .ok (.iconst 0, 1) := by decide +kernel
theorem d_Mo_allCome_46 : decode prog_13_method_53_code 46 = .ok (.iastore, 1) := by decide +kernel
theorem d_Mo_allCome_47 : decode prog_13_method_53_code 47 = .ok (.iconst 0, 1) := by decide +kernel
theorem d_Mo_allCome_48 : decode prog_13_method_53_code 48 = .ok (.istore_n 2, 1) := by decide +kernel
theorem d_Mo_allCome_49 : decode prog_13_method_53_code 49 = .ok (.iload_n 2, 1) := by decide +kernel
theorem d_Mo_allCome_50 : decode prog_13_method_53_code 50 = .ok (.iload_n 1, 1) := by decide +kernel
theorem d_Mo_allCome_51 : decode prog_13_method_53_code 51 = .ok (.if_icmp .ge 152, 3) := by decide +kernel
theorem d_Mo_allCome_54 : decode prog_13_method_53_code 54 = .ok (.aload_n 0, 1) := by decide +kernel
theorem d_Mo_allCome_55 : decode prog_13_method_53_code 55 = .ok (.getfield 74, 3) := by decide +kernel
theorem d_Mo_allCome_58 : decode prog_13_method_53_code 58 = .ok (.iconst 2, 1) := by decide +kernel
theorem d_Mo_allCome_59 : decode prog_13_method_53_code 59 = .ok (.iload_n 2, 1) := by decide +kernel
theorem d_Mo_allCome_60 : decode prog_13_method_53_code 60 = .ok (.imul, 1) := by decide +kernel
theorem d_Mo_allCome_61 : decode prog_13_method_53_code 61 = .ok (.iaload, 1) := by decide +kernel
theorem d_Mo_allCome_62 : decode prog_13_method_53_code 62 = .ok (.istore_n 3, 1) := by decide +kernel
theorem d_Mo_allCome_63 : decode prog_13_method_53_code 63 = .ok (.aload_n 0, 1) := by decide +kernel
theorem d_Mo_allCome_64 : decode prog_13_method_53_code 64 = .ok (.getfield 74, 3) := by decide +kernel
theorem d_Mo_allCome_67 : decode prog_13_method_53_code 67 = .ok (.iconst 2, 1) := by decide +kernel
theorem d_Mo_allCome_68 : decode prog_13_method_53_code 68 = .ok (.iload_n 2, 1) := by decide +kernel
theorem d_Mo_allCome_69 : decode prog_13_method_53_code 69 = .ok (.imul, 1) := by decide +kernel
theorem d_Mo_allCome_70 : decode prog_13_method_53_code 70 = .ok (.iconst 1, 1) := by decide +kernel
theorem d_Mo_allCome_71 : decode prog_13_method_53_code 71 = .ok (.iadd, 1) := by decide +kernel
theorem d_Mo_allCome_72 : decode prog_13_method_53_code 72 = .ok (.iaload, 1) := by decide +kernel
theorem d_Mo_allCome_73 : decode prog_13_method_53_code 73 = .ok (.istore 4, 2) := by decide +kernel
theorem d_Mo_allCome_75 : decode prog_13_method_53_code 75 = .ok (.iload_n 3, 1) := by decide +kernel
theorem d_Mo_allCome_76 : decode prog_13_method_53_code 76 = .ok (.iconst 2, 1) := by decide +kernel
theorem d_Mo_allCome_77 : decode prog_13_method_53_code 77 = .ok (.ishr, 1) := by decide +kernel
theorem d_Mo_allCome_78 : decode prog_13_method_53_code 78 = .ok (.bipush 7, 2) := by decide +kernel
theorem d_Mo_allCome_80 : decode prog_13_method_53_code 80 = .ok (.iand, 1) := by decide +kernel
theorem d_Mo_allCome_81 : decode prog_13_method_53_code 81 = .ok (.istore 5, 2) := by decide +kernel
theorem d_Mo_allCome_83 : decode prog_13_method_53_code 83 = .ok (.iload_n 3, 1) := by decide +kernel
theorem d_Mo_allCome_84 : decode prog_13_method_53_code 84 = .ok (.iconst 3, 1) := by decide +kernel
theorem d_Mo_allCome_85 : decode prog_13_method_53_code 85 = .ok (.iand, 1) := by decide +kernel
theorem d_Mo_allCome_86 : decode prog_13_method_53_code 86 = .ok (.ifCond .ne 65, 3) := by decide +kernel
theorem d_Mo_allCome_89 : decode prog_13_method_53_code 89 = .ok (.iconst 0, 1) := by decide +kernel
theorem d_Mo_allCome_90 : decode prog_13_method_53_code 90 = .ok (.istore 6, 2) := by decide +kernel
theorem d_Mo_allCome_92 : decode prog_13_method_53_code 92 = .ok (.iload 6, 2) := by decide +kernel
theorem d_Mo_allCome_94 : decode prog_13_method_53_code 94 = .ok (.aload_n 0, 1) := by decide +kernel
theorem d_Mo_allCome_95 : decode prog_13_method_53_code 95 = .ok (.getfield 40, 3) := by decide +kernel
theorem d_Mo_allCome_98 : decode prog_13_method_53_code 98 = .ok (.aload_n 0, 1) := by decide +kernel
theorem d_Mo_allCome_99 : decode prog_13_method_53_code 99 = .ok (.getfield 170, 3) := by decide +kernel
theorem d_Mo_allCome_102 : decode prog_13_method_53_code 102 = .ok (.iaload, 1) := by decide +kernel
theorem d_Mo_allCome_103 : decode prog_13_method_53_code 103 = .ok (.if_icmp .ge 45, 3) := by decide +kernel
theorem d_Mo_allCome_106 : decode prog_13_method_53_code 106 = .ok (.aload_n 0, 1) := by decide +kernel
theorem d_Mo_allCome_107 : decode prog_13_method_53_code 107 = .ok (.iload 5, 2) := by decide +kernel
theorem d_Mo_allCome_109 : decode prog_13_method_53_code 109 = .ok (.iload 6, 2) := by decide +kernel
theorem d_Mo_allCome_111 : decode prog_13_method_53_code 111 = .ok (.invokevirtual 258, 3) := by decide +kernel
theorem d_Mo_allCome_114 : decode prog_13_method_53_code 114 = .ok (.ifCond .eq 28, 3) := by decide +kernel
theorem d_Mo_allCome_117 : decode prog_13_method_53_code 117 = .ok (.aload_n 0, 1) := by decide +kernel
theorem d_Mo_allCome_118 : decode prog_13_method_53_code 118 = .ok (.iload 5, 2) := by decide +kernel
theorem d_Mo_allCome_120 : decode prog_13_method_53_code 120 = .ok (.iload 6, 2) := by decide +kernel
theorem d_Mo_allCome_122 : decode prog_13_method_53_code 122 = .ok (.invokevirtual 263, 3) := by decide +kernel
theorem d_Mo_allCome_125 : decode prog_13_method_53_code 125 = .ok (.ifCond .ne 17, 3) := by decide +kernel
theorem d_Mo_allCome_128 : decode prog_13_method_53_code 128 = .ok (.aload_n 0, 1) := by decide +kernel
theorem d_Mo_allCome_129 : decode prog_13_method_53_code 129 = .ok (.iload 6, 2) := by decide +kernel
theorem d_Mo_allCome_131 : decode prog_13_method_53_code 131 = .ok (.iload 5, 2) := by decide +kernel
theorem d_Mo_allCome_133 : decode prog_13_method_53_code 133 = .ok (.iload_n 3, 1) := by decide +kernel
theorem d_Mo_allCome_134 : decode prog_13_method_53_code 134 = .ok (.bipush 16, 2) := by decide +kernel
theorem d_Mo_allCome_136 : decode prog_13_method_53_code 136 = .ok (.ishr, 1) := by decide +kernel
theorem d_Mo_allCome_137 : decode prog_13_method_53_code 137 = .ok (.iload 4, 2) := by decide +kernel
theorem d_Mo_allCome_139 : decode prog_13_method_53_code 139 = .ok (.invokevirtual 266, 3) := by decide +kernel
theorem d_Mo_allCome_142 : decode prog_13_method_53_code 142 = .ok (.iinc 6 1, 3) := by decide +kernel
theorem d_Mo_allCome_145 : decode prog_13_method_53_code 145 = .ok (.goto (-53), 3) := by decide +kernel
theorem d_Mo_allCome_148 : decode prog_13_method_53_code 148 = .ok (.goto 49, 3) := by decide +kernel
theorem d_Mo_allCome_151 : decode prog_13_method_53_code 151 = .ok (.iload_n 3, 1) := by decide +kernel
theorem d_Mo_allCome_152 : decode prog_13_method_53_code 152 = .ok (.iconst 5, 1) := by decide +kernel
theorem d_Mo_allCome_153 : decode prog_13_method_53_code 153 = .ok (.ishr, 1) := by decide +kernel
theorem d_Mo_allCome_154 : decode prog_13_method_53_code 154 = .ok (.bipush 7, 2) := by decide +kernel
theorem d_Mo_allCome_156 : decode prog_13_method_53_code 156 = .ok (.iand, 1) := by decide +kernel
theorem d_Mo_allCome_157 : decode prog_13_method_53_code 157 = .ok (.istore 6, 2) := by decide +kernel
theorem d_Mo_allCome_159 : decode prog_13_method_53_code 159 = .ok (.aload_n 0, 1) := by decide +kernel
theorem d_Mo_allCome_160 : decode prog_13_method_53_code 160 = .ok (.iload 5, 2) := by decide +kernel
theorem d_Mo_allCome_162 : decode prog_13_method_53_code 162 = .ok (.iload 6, 2) := by decide +kernel
theorem d_Mo_allCome_164 : decode prog_13_method_53_code 164 = .ok (.invokevirtual 263, 3) := by decide +kernel
theorem d_Mo_allCome_167 : decode prog_13_method_53_code 167 = .ok (.ifCond .ne 30, 3) := by decide +kernel
theorem d_Mo_allCome_170 : decode prog_13_method_53_code 170 = .ok (.aload_n 0, 1) := by decide +kernel
theorem d_Mo_allCome_171 : decode prog_13_method_53_code 171 = .ok (.iload 6, 2) := by decide +kernel
theorem d_Mo_allCome_173 : decode prog_13_method_53_code 173 = .ok (.iload 5, 2) := by decide +kernel
theorem d_Mo_allCome_175 : decode prog_13_method_53_code 175 = .ok (.iload_n 3, 1) := by decide +kernel
theorem d_Mo_allCome_176 : decode prog_13_method_53_code 176 = .ok (.iconst 3, 1) := by decide +kernel
theorem d_Mo_allCome_177 : decode prog_13_method_53_code 177 = .ok (.iand, 1) := by decide +kernel
theorem d_Mo_allCome_178 : decode prog_13_method_53_code 178 = .ok (.iload_n 3, 1) := by decide +kernel
theorem d_Mo_allCome_179 : decode prog_13_method_53_code 179 = .ok (.bipush 8, 2) := by decide +kernel
theorem d_Mo_allCome_181 : decode prog_13_method_53_code 181 = .ok (.ishr, 1) := by decide +kernel
theorem d_Mo_allCome_182 : decode prog_13_method_53_code 182 = .ok (.bipush 7, 2) := by decide +kernel
theorem d_Mo_allCome_184 : decode prog_13_method_53_code 184 = .ok (.iand, 1) := by decide +kernel
theorem d_Mo_allCome_185 : decode prog_13_method_53_code 185 = .ok (.iload_n 3, 1) := by decide +kernel
theorem d_Mo_allCome_186 : decode prog_13_method_53_code 186 = .ok (.bipush 11, 2) := by decide +kernel
theorem d_Mo_allCome_188 : decode prog_13_method_53_code 188 = .ok (.ishr, 1) := by decide +kernel
theorem d_Mo_allCome_189 : decode prog_13_method_53_code 189 = .ok (.bipush 15, 2) := by decide +kernel
theorem d_Mo_allCome_191 : decode prog_13_method_53_code 191 = .ok (.iand, 1) := by decide +kernel
theorem d_Mo_allCome_192 : decode prog_13_method_53_code 192 = .ok (.iload 4, 2) := by decide +kernel
theorem d_Mo_allCome_194 : decode prog_13_method_53_code 194 = .ok (.invokevirtual 270, 3) := by decide +kernel
theorem d_Mo_allCome_197 : decode prog_13_method_53_code 197 = .ok (.iinc 2 1, 3) := by decide +kernel
theorem d_Mo_allCome_200 : decode prog_13_method_53_code 200 = .ok (.goto (-151), 3) := by decide +kernel
theorem d_Mo_allCome_203 : decode prog_13_method_53_code 203 = .ok (.return_, 1) := by decide +kernel
def wp_Mo_allCome_b197  (k49 : Int32 → Int32 → sx_M → sx_L → Prop) (Q : sx_M → sx_L → Prop) (v1 : Int32) (v2 : Int32) (σ : sx_M) (τ : sx_L) : Prop := k49 v1 (v2 + 1) σ τ
def wp_Mo_allCome_b142  (k49 : Int32 → Int32 → sx_M → sx_L → Prop) (k92 : Int32 → Int32 → Int32 → Int32 → Int32 → Int32 → sx_M → sx_L → Prop) (Q : sx_M → sx_L → Prop) (v1 : Int32) (v2 : Int32) (v3 : Int32) (v4 : Int32) (v5 : Int32) (v6 : Int32) (σ : sx_M) (τ : sx_L) : Prop := k92 v1 v2 v3 v4 v5 (v6 + 1) σ τ
def wp_Mo_allCome_b92  (k49 : Int32 → Int32 → sx_M → sx_L → Prop) (Q : sx_M → sx_L → Prop) : Nat → Int32 → Int32 → Int32 → Int32 → Int32 → Int32 → sx_M → sx_L → Prop
  | 0, _, _, _, _, _, _, _, _ => False
  | f + 1, v1, v2, v3, v4, v5, v6, σ, τ => vp_in (σ 50 0 0 17) 2 ∧ (if σ 58 0 0 (σ 50 0 0 17).toNatClampNeg ≤ v6 then (wp_Mo_allCome_b197 k49 Q v1 v2 σ τ) else (wp_Mo_areNear v5 v6 σ τ (fun r3 σ3 τ3 => if r3 = 0 then (wp_Mo_allCome_b142 k49 (wp_Mo_allCome_b92 k49 Q f) Q v1 v2 v3 v4 v5 v6 σ3 τ3) else (wp_Mo_isLost v5 v6 σ3 τ3 (fun r5 σ5 τ5 => if r5 = 0 then (wp_Mo_hears v6 v5 (v3 >>> (16 &&& 31)) v4 σ5 τ5 (fun σ7 τ7 => wp_Mo_allCome_b142 k49 (wp_Mo_allCome_b92 k49 Q f) Q v1 v2 v3 v4 v5 v6 σ7 τ7)) else (wp_Mo_allCome_b142 k49 (wp_Mo_allCome_b92 k49 Q f) Q v1 v2 v3 v4 v5 v6 σ5 τ5))))))
def wp_Mo_allCome_b49   (Q : sx_M → sx_L → Prop) : Nat → Int32 → Int32 → sx_M → sx_L → Prop
  | 0, _, _, _, _ => False
  | f + 1, v1, v2, σ, τ => if v1 ≤ v2 then (Q σ τ) else (vp_in (2 * v2) 400 ∧ (vp_in ((2 * v2) + 1) 400 ∧ (if (σ 69 0 0 (2 * v2).toNatClampNeg) &&& 3 = 0 then (∃ f92, wp_Mo_allCome_b92 (wp_Mo_allCome_b49 Q f) Q f92 v1 v2 (σ 69 0 0 (2 * v2).toNatClampNeg) (σ 69 0 0 ((2 * v2) + 1).toNatClampNeg) (((σ 69 0 0 (2 * v2).toNatClampNeg) >>> (2 &&& 31)) &&& 7) 0 σ τ) else (wp_Mo_isLost (((σ 69 0 0 (2 * v2).toNatClampNeg) >>> (2 &&& 31)) &&& 7) (((σ 69 0 0 (2 * v2).toNatClampNeg) >>> (5 &&& 31)) &&& 7) σ τ (fun r12 σ12 τ12 => if r12 = 0 then (wp_Mo_learns (((σ 69 0 0 (2 * v2).toNatClampNeg) >>> (5 &&& 31)) &&& 7) (((σ 69 0 0 (2 * v2).toNatClampNeg) >>> (2 &&& 31)) &&& 7) ((σ 69 0 0 (2 * v2).toNatClampNeg) &&& 3) (((σ 69 0 0 (2 * v2).toNatClampNeg) >>> (8 &&& 31)) &&& 7) (((σ 69 0 0 (2 * v2).toNatClampNeg) >>> (11 &&& 31)) &&& 15) (σ 69 0 0 ((2 * v2) + 1).toNatClampNeg) σ12 τ12 (fun σ14 τ14 => wp_Mo_allCome_b197 (wp_Mo_allCome_b49 Q f) Q v1 v2 σ14 τ14)) else (wp_Mo_allCome_b197 (wp_Mo_allCome_b49 Q f) Q v1 v2 σ12 τ12))))))
def wp_Mo_allCome_b10   (Q : sx_M → sx_L → Prop) : Nat → Int32 → Int32 → sx_M → sx_L → Prop
  | 0, _, _, _, _ => False
  | f + 1, v1, v2, σ, τ => if 2 * v1 ≤ v2 then (vp_in 7 643 ∧ (∀ σ17 : sx_M, σ17 = sx_u σ 68 0 0 (7 : Int32).toNatClampNeg 0 → (∃ f49, wp_Mo_allCome_b49 Q f49 v1 0 σ17 τ))) else (vp_in (243 + v2) 643 ∧ (vp_in v2 400 ∧ (∀ σ20 : sx_M, σ20 = sx_u σ 69 0 0 v2.toNatClampNeg (σ 68 0 0 (243 + v2).toNatClampNeg) → (wp_Mo_allCome_b10 Q f v1 (v2 + 1) σ20 τ))))
def wp_Mo_allCome  (σ : sx_M) (τ : sx_L) (Q : sx_M → sx_L → Prop) : Prop := vp_in 7 643 ∧ (∃ f10, wp_Mo_allCome_b10 Q f10 (σ 68 0 0 (7 : Int32).toNatClampNeg) 0 σ τ)
abbrev rm_Mo_allCome : Room := { frames := 6, cells := 0, slots := 0, locals := 139 }
set_option maxRecDepth 100000 in
set_option maxHeartbeats 4000000 in
theorem g_Mo_allCome_b197 {l : Launch} {K : sx_K} {X : sx_T}  {k49 : Int32 → Int32 → sx_M → sx_L → Prop} {Q : sx_M → sx_L → Prop} (hX : sx_C X K prog_13_method_53_code 7 "SensorTreeModel" none rm_Mo_allCome l) (hK : kx_F K) (hE : sx_E X K (sx_Qv K Q))  (hk49 : ∀ (v1 : Int32) (v2 : Int32) (σ : sx_M) (τ : sx_L) , k49 v1 v2 σ τ → sx_G X K 7 49 [(0, .ref (K.2.2.1 50 0 0)), (1, .int v1), (2, .int v2)] [] (sx_H K σ τ)) (v1 : Int32) (v2 : Int32) (σ : sx_M) (τ : sx_L)  (h : wp_Mo_allCome_b197 k49 Q  v1 v2 σ τ) : sx_G X K 7 197 [(0, .ref (K.2.2.1 50 0 0)), (1, .int v1), (2, .int v2)] [] (sx_H K σ τ) := by
  unfold wp_Mo_allCome_b197 at h
  refine sx_iinc (pc2 := 200) hX 2 _ [(0, .ref (K.2.2.1 50 0 0)), (1, .int v1), (2, .int (v2 + 1))] [1, 2, 0] d_Mo_allCome_197 rfl (v2 + 1) rfl (by decide) rfl rfl rfl ?_
  refine sx_goto (tgt := 49) hX d_Mo_allCome_200 (by decide) ?_
  exact hk49 v1 (v2 + 1) _ _ h
set_option maxRecDepth 100000 in
set_option maxHeartbeats 4000000 in
theorem g_Mo_allCome_b142 {l : Launch} {K : sx_K} {X : sx_T}  {k49 : Int32 → Int32 → sx_M → sx_L → Prop} {k92 : Int32 → Int32 → Int32 → Int32 → Int32 → Int32 → sx_M → sx_L → Prop} {Q : sx_M → sx_L → Prop} (hX : sx_C X K prog_13_method_53_code 7 "SensorTreeModel" none rm_Mo_allCome l) (hK : kx_F K) (hE : sx_E X K (sx_Qv K Q))  (hk49 : ∀ (v1 : Int32) (v2 : Int32) (σ : sx_M) (τ : sx_L) , k49 v1 v2 σ τ → sx_G X K 7 49 [(0, .ref (K.2.2.1 50 0 0)), (1, .int v1), (2, .int v2)] [] (sx_H K σ τ)) (hk92 : ∀ (v1 : Int32) (v2 : Int32) (v3 : Int32) (v4 : Int32) (v5 : Int32) (v6 : Int32) (σ : sx_M) (τ : sx_L) , k92 v1 v2 v3 v4 v5 v6 σ τ → sx_G X K 7 92 [(0, .ref (K.2.2.1 50 0 0)), (1, .int v1), (2, .int v2), (3, .int v3), (4, .int v4), (5, .int v5), (6, .int v6)] [] (sx_H K σ τ)) (v1 : Int32) (v2 : Int32) (v3 : Int32) (v4 : Int32) (v5 : Int32) (v6 : Int32) (σ : sx_M) (τ : sx_L)  (h : wp_Mo_allCome_b142 k49 k92 Q  v1 v2 v3 v4 v5 v6 σ τ) : sx_G X K 7 142 [(0, .ref (K.2.2.1 50 0 0)), (1, .int v1), (2, .int v2), (3, .int v3), (4, .int v4), (5, .int v5), (6, .int v6)] [] (sx_H K σ τ) := by
  unfold wp_Mo_allCome_b142 at h
  refine sx_iinc (pc2 := 145) hX 6 _ [(0, .ref (K.2.2.1 50 0 0)), (1, .int v1), (2, .int v2), (3, .int v3), (4, .int v4), (5, .int v5), (6, .int (v6 + 1))] [1, 2, 3, 4, 5, 6, 0] d_Mo_allCome_142 rfl (v6 + 1) rfl (by decide) rfl rfl rfl ?_
  refine sx_goto (tgt := 92) hX d_Mo_allCome_145 (by decide) ?_
  exact hk92 v1 v2 v3 v4 v5 (v6 + 1) _ _ h
set_option maxRecDepth 100000 in
set_option maxHeartbeats 4000000 in
theorem g_Mo_allCome_b92 {l : Launch} {K : sx_K} {X : sx_T}  {k49 : Int32 → Int32 → sx_M → sx_L → Prop} {Q : sx_M → sx_L → Prop} (hX : sx_C X K prog_13_method_53_code 7 "SensorTreeModel" none rm_Mo_allCome l) (hK : kx_F K) (hE : sx_E X K (sx_Qv K Q))  (hk49 : ∀ (v1 : Int32) (v2 : Int32) (σ : sx_M) (τ : sx_L) , k49 v1 v2 σ τ → sx_G X K 7 49 [(0, .ref (K.2.2.1 50 0 0)), (1, .int v1), (2, .int v2)] [] (sx_H K σ τ)) : ∀ (f : Nat) (v1 : Int32) (v2 : Int32) (v3 : Int32) (v4 : Int32) (v5 : Int32) (v6 : Int32) (σ : sx_M) (τ : sx_L) , wp_Mo_allCome_b92 k49 Q f v1 v2 v3 v4 v5 v6 σ τ → sx_G X K 7 92 [(0, .ref (K.2.2.1 50 0 0)), (1, .int v1), (2, .int v2), (3, .int v3), (4, .int v4), (5, .int v5), (6, .int v6)] [] (sx_H K σ τ) := by
  intro f
  induction f with
  | zero => intro v1 v2 v3 v4 v5 v6 σ τ h; exact (show False from h).elim
  | succ f ih =>
    intro v1 v2 v3 v4 v5 v6 σ τ h
    rw [wp_Mo_allCome_b92] at h
    refine sx_iload (pc2 := 94) hX 6 d_Mo_allCome_92 rfl rfl ?_
    refine sx_aload_n (pc2 := 95) hX 0 d_Mo_allCome_94 rfl rfl rfl ?_
    refine fg_Mo_40 (pc2 := 98) hX (kr_50 hK) d_Mo_allCome_95 rfl ?_
    refine sx_aload_n (pc2 := 99) hX 0 d_Mo_allCome_98 rfl rfl rfl ?_
    refine fg_Mo_170 (pc2 := 102) hX (kr_50 hK) d_Mo_allCome_99 rfl ?_
    obtain ⟨hc1, h⟩ := h
    refine sx_iald (pc2 := 103) hX (kr_58 hK) rfl hc1 d_Mo_allCome_102 rfl ?_
    refine sx_icmp_ge (tgt := 148) (pc2 := 106) hX d_Mo_allCome_103 (by decide) rfl (fun hc2 => ?_) (fun hc2 => ?_)
    · replace h := sx_t h hc2
      refine sx_goto (tgt := 197) hX d_Mo_allCome_148 (by decide) ?_
      refine sx_sub [(0, .ref (K.2.2.1 50 0 0)), (1, .int v1), (2, .int v2)] [0, 1, 2] rfl ?_
      exact g_Mo_allCome_b197 hX hK hE  hk49 v1 v2 _ _ h
    · replace h := sx_f h hc2
      refine sx_aload_n (pc2 := 107) hX 0 d_Mo_allCome_106 rfl rfl rfl ?_
      refine sx_iload (pc2 := 109) hX 5 d_Mo_allCome_107 rfl rfl ?_
      refine sx_iload (pc2 := 111) hX 6 d_Mo_allCome_109 rfl rfl ?_
      refine cl_Mo_258 (pc2 := 114) hX hK h  ⟨Nat.le_of_ble_eq_true rfl, Nat.le_of_ble_eq_true rfl⟩ (Nat.le_of_ble_eq_true rfl) d_Mo_allCome_111 rfl (fun r3 σ3 τ3 h => ?_)
      refine sx_if_eq (tgt := 142) (pc2 := 117) hX d_Mo_allCome_114 (by decide) rfl (fun hc4 => ?_) (fun hc4 => ?_)
      · replace h := sx_t h hc4
        exact g_Mo_allCome_b142 hX hK hE  hk49 ih v1 v2 v3 v4 v5 v6 _ _ h
      · replace h := sx_f h hc4
        refine sx_aload_n (pc2 := 118) hX 0 d_Mo_allCome_117 rfl rfl rfl ?_
        refine sx_iload (pc2 := 120) hX 5 d_Mo_allCome_118 rfl rfl ?_
        refine sx_iload (pc2 := 122) hX 6 d_Mo_allCome_120 rfl rfl ?_
        refine cl_Mo_263 (pc2 := 125) hX hK h  ⟨Nat.le_of_ble_eq_true rfl, Nat.le_of_ble_eq_true rfl⟩ (Nat.le_of_ble_eq_true rfl) d_Mo_allCome_122 rfl (fun r5 σ5 τ5 h => ?_)
        refine sx_if_ne (tgt := 142) (pc2 := 128) hX d_Mo_allCome_125 (by decide) rfl (fun hc6 => ?_) (fun hc6 => ?_)
        · replace h := sx_f h hc6
          exact g_Mo_allCome_b142 hX hK hE  hk49 ih v1 v2 v3 v4 v5 v6 _ _ h
        · replace h := sx_t h hc6
          refine sx_aload_n (pc2 := 129) hX 0 d_Mo_allCome_128 rfl rfl rfl ?_
          refine sx_iload (pc2 := 131) hX 6 d_Mo_allCome_129 rfl rfl ?_
          refine sx_iload (pc2 := 133) hX 5 d_Mo_allCome_131 rfl rfl ?_
          refine sx_iload_n (pc2 := 134) hX 3 d_Mo_allCome_133 rfl rfl rfl ?_
          refine sx_bipush (v := 16) (pc2 := 136) hX d_Mo_allCome_134 (by decide) rfl ?_
          refine sx_ishr (pc2 := 137) hX d_Mo_allCome_136 rfl ?_
          refine sx_iload (pc2 := 139) hX 4 d_Mo_allCome_137 rfl rfl ?_
          refine cl_Mo_266 (pc2 := 142) hX hK h  ⟨Nat.le_of_ble_eq_true rfl, Nat.le_of_ble_eq_true rfl⟩ (Nat.le_of_ble_eq_true rfl) d_Mo_allCome_139 rfl (fun σ7 τ7 h => ?_)
          exact g_Mo_allCome_b142 hX hK hE  hk49 ih v1 v2 v3 v4 v5 v6 _ _ h
set_option maxRecDepth 100000 in
set_option maxHeartbeats 4000000 in
theorem g_Mo_allCome_b49 {l : Launch} {K : sx_K} {X : sx_T}   {Q : sx_M → sx_L → Prop} (hX : sx_C X K prog_13_method_53_code 7 "SensorTreeModel" none rm_Mo_allCome l) (hK : kx_F K) (hE : sx_E X K (sx_Qv K Q))  : ∀ (f : Nat) (v1 : Int32) (v2 : Int32) (σ : sx_M) (τ : sx_L) , wp_Mo_allCome_b49 Q f v1 v2 σ τ → sx_G X K 7 49 [(0, .ref (K.2.2.1 50 0 0)), (1, .int v1), (2, .int v2)] [] (sx_H K σ τ) := by
  intro f
  induction f with
  | zero => intro v1 v2 σ τ h; exact (show False from h).elim
  | succ f ih =>
    intro v1 v2 σ τ h
    rw [wp_Mo_allCome_b49] at h
    refine sx_iload_n (pc2 := 50) hX 2 d_Mo_allCome_49 rfl rfl rfl ?_
    refine sx_iload_n (pc2 := 51) hX 1 d_Mo_allCome_50 rfl rfl rfl ?_
    refine sx_icmp_ge (tgt := 203) (pc2 := 54) hX d_Mo_allCome_51 (by decide) rfl (fun hc8 => ?_) (fun hc8 => ?_)
    · replace h := sx_t h hc8
      exact sx_vret hX hE h d_Mo_allCome_203
    · replace h := sx_f h hc8
      refine sx_aload_n (pc2 := 55) hX 0 d_Mo_allCome_54 rfl rfl rfl ?_
      refine fg_Mo_74 (pc2 := 58) hX (kr_50 hK) d_Mo_allCome_55 rfl ?_
      refine sx_iconst (v := 2) (pc2 := 59) hX d_Mo_allCome_58 (by decide) rfl ?_
      refine sx_iload_n (pc2 := 60) hX 2 d_Mo_allCome_59 rfl rfl rfl ?_
      refine sx_imul (pc2 := 61) hX d_Mo_allCome_60 rfl ?_
      obtain ⟨hc9, h⟩ := h
      refine sx_iald (pc2 := 62) hX (kr_69 hK) rfl hc9 d_Mo_allCome_61 rfl ?_
      refine sx_istore_n (pc2 := 63) hX _ [(0, .ref (K.2.2.1 50 0 0)), (1, .int v1), (2, .int v2), (3, .int (σ 69 0 0 (2 * v2).toNatClampNeg))] [1, 2, 3, 0] d_Mo_allCome_62 rfl (by decide) rfl rfl rfl ?_
      refine sx_aload_n (pc2 := 64) hX 0 d_Mo_allCome_63 rfl rfl rfl ?_
      refine fg_Mo_74 (pc2 := 67) hX (kr_50 hK) d_Mo_allCome_64 rfl ?_
      refine sx_iconst (v := 2) (pc2 := 68) hX d_Mo_allCome_67 (by decide) rfl ?_
      refine sx_iload_n (pc2 := 69) hX 2 d_Mo_allCome_68 rfl rfl rfl ?_
      refine sx_imul (pc2 := 70) hX d_Mo_allCome_69 rfl ?_
      refine sx_iconst (v := 1) (pc2 := 71) hX d_Mo_allCome_70 (by decide) rfl ?_
      refine sx_iadd (pc2 := 72) hX d_Mo_allCome_71 rfl ?_
      obtain ⟨hc10, h⟩ := h
      refine sx_iald (pc2 := 73) hX (kr_69 hK) rfl hc10 d_Mo_allCome_72 rfl ?_
      refine sx_istore (pc2 := 75) hX _ [(0, .ref (K.2.2.1 50 0 0)), (1, .int v1), (2, .int v2), (3, .int (σ 69 0 0 (2 * v2).toNatClampNeg)), (4, .int (σ 69 0 0 ((2 * v2) + 1).toNatClampNeg))] [1, 2, 3, 4, 0] d_Mo_allCome_73 (by decide) rfl rfl rfl ?_
      refine sx_iload_n (pc2 := 76) hX 3 d_Mo_allCome_75 rfl rfl rfl ?_
      refine sx_iconst (v := 2) (pc2 := 77) hX d_Mo_allCome_76 (by decide) rfl ?_
      refine sx_ishr (pc2 := 78) hX d_Mo_allCome_77 rfl ?_
      refine sx_bipush (v := 7) (pc2 := 80) hX d_Mo_allCome_78 (by decide) rfl ?_
      refine sx_iand (pc2 := 81) hX d_Mo_allCome_80 rfl ?_
      refine sx_istore (pc2 := 83) hX _ [(0, .ref (K.2.2.1 50 0 0)), (1, .int v1), (2, .int v2), (3, .int (σ 69 0 0 (2 * v2).toNatClampNeg)), (4, .int (σ 69 0 0 ((2 * v2) + 1).toNatClampNeg)), (5, .int (((σ 69 0 0 (2 * v2).toNatClampNeg) >>> (2 &&& 31)) &&& 7))] [1, 2, 3, 4, 5, 0] d_Mo_allCome_81 (by decide) rfl rfl rfl ?_
      refine sx_iload_n (pc2 := 84) hX 3 d_Mo_allCome_83 rfl rfl rfl ?_
      refine sx_iconst (v := 3) (pc2 := 85) hX d_Mo_allCome_84 (by decide) rfl ?_
      refine sx_iand (pc2 := 86) hX d_Mo_allCome_85 rfl ?_
      refine sx_if_ne (tgt := 151) (pc2 := 89) hX d_Mo_allCome_86 (by decide) rfl (fun hc11 => ?_) (fun hc11 => ?_)
      · replace h := sx_f h hc11
        refine sx_iload_n (pc2 := 152) hX 3 d_Mo_allCome_151 rfl rfl rfl ?_
        refine sx_iconst (v := 5) (pc2 := 153) hX d_Mo_allCome_152 (by decide) rfl ?_
        refine sx_ishr (pc2 := 154) hX d_Mo_allCome_153 rfl ?_
        refine sx_bipush (v := 7) (pc2 := 156) hX d_Mo_allCome_154 (by decide) rfl ?_
        refine sx_iand (pc2 := 157) hX d_Mo_allCome_156 rfl ?_
        refine sx_istore (pc2 := 159) hX _ [(0, .ref (K.2.2.1 50 0 0)), (1, .int v1), (2, .int v2), (3, .int (σ 69 0 0 (2 * v2).toNatClampNeg)), (4, .int (σ 69 0 0 ((2 * v2) + 1).toNatClampNeg)), (5, .int (((σ 69 0 0 (2 * v2).toNatClampNeg) >>> (2 &&& 31)) &&& 7)), (6, .int (((σ 69 0 0 (2 * v2).toNatClampNeg) >>> (5 &&& 31)) &&& 7))] [1, 2, 3, 4, 5, 6, 0] d_Mo_allCome_157 (by decide) rfl rfl rfl ?_
        refine sx_aload_n (pc2 := 160) hX 0 d_Mo_allCome_159 rfl rfl rfl ?_
        refine sx_iload (pc2 := 162) hX 5 d_Mo_allCome_160 rfl rfl ?_
        refine sx_iload (pc2 := 164) hX 6 d_Mo_allCome_162 rfl rfl ?_
        refine cl_Mo_263 (pc2 := 167) hX hK h  ⟨Nat.le_of_ble_eq_true rfl, Nat.le_of_ble_eq_true rfl⟩ (Nat.le_of_ble_eq_true rfl) d_Mo_allCome_164 rfl (fun r12 σ12 τ12 h => ?_)
        refine sx_if_ne (tgt := 197) (pc2 := 170) hX d_Mo_allCome_167 (by decide) rfl (fun hc13 => ?_) (fun hc13 => ?_)
        · replace h := sx_f h hc13
          refine sx_sub [(0, .ref (K.2.2.1 50 0 0)), (1, .int v1), (2, .int v2)] [0, 1, 2] rfl ?_
          exact g_Mo_allCome_b197 hX hK hE  ih v1 v2 _ _ h
        · replace h := sx_t h hc13
          refine sx_aload_n (pc2 := 171) hX 0 d_Mo_allCome_170 rfl rfl rfl ?_
          refine sx_iload (pc2 := 173) hX 6 d_Mo_allCome_171 rfl rfl ?_
          refine sx_iload (pc2 := 175) hX 5 d_Mo_allCome_173 rfl rfl ?_
          refine sx_iload_n (pc2 := 176) hX 3 d_Mo_allCome_175 rfl rfl rfl ?_
          refine sx_iconst (v := 3) (pc2 := 177) hX d_Mo_allCome_176 (by decide) rfl ?_
          refine sx_iand (pc2 := 178) hX d_Mo_allCome_177 rfl ?_
          refine sx_iload_n (pc2 := 179) hX 3 d_Mo_allCome_178 rfl rfl rfl ?_
          refine sx_bipush (v := 8) (pc2 := 181) hX d_Mo_allCome_179 (by decide) rfl ?_
          refine sx_ishr (pc2 := 182) hX d_Mo_allCome_181 rfl ?_
          refine sx_bipush (v := 7) (pc2 := 184) hX d_Mo_allCome_182 (by decide) rfl ?_
          refine sx_iand (pc2 := 185) hX d_Mo_allCome_184 rfl ?_
          refine sx_iload_n (pc2 := 186) hX 3 d_Mo_allCome_185 rfl rfl rfl ?_
          refine sx_bipush (v := 11) (pc2 := 188) hX d_Mo_allCome_186 (by decide) rfl ?_
          refine sx_ishr (pc2 := 189) hX d_Mo_allCome_188 rfl ?_
          refine sx_bipush (v := 15) (pc2 := 191) hX d_Mo_allCome_189 (by decide) rfl ?_
          refine sx_iand (pc2 := 192) hX d_Mo_allCome_191 rfl ?_
          refine sx_iload (pc2 := 194) hX 4 d_Mo_allCome_192 rfl rfl ?_
          refine cl_Mo_270 (pc2 := 197) hX hK h  ⟨Nat.le_of_ble_eq_true rfl, Nat.le_of_ble_eq_true rfl⟩ (Nat.le_of_ble_eq_true rfl) d_Mo_allCome_194 rfl (fun σ14 τ14 h => ?_)
          refine sx_sub [(0, .ref (K.2.2.1 50 0 0)), (1, .int v1), (2, .int v2)] [0, 1, 2] rfl ?_
          exact g_Mo_allCome_b197 hX hK hE  ih v1 v2 _ _ h
      · replace h := sx_t h hc11
        refine sx_iconst (v := 0) (pc2 := 90) hX d_Mo_allCome_89 (by decide) rfl ?_
        refine sx_istore (pc2 := 92) hX _ [(0, .ref (K.2.2.1 50 0 0)), (1, .int v1), (2, .int v2), (3, .int (σ 69 0 0 (2 * v2).toNatClampNeg)), (4, .int (σ 69 0 0 ((2 * v2) + 1).toNatClampNeg)), (5, .int (((σ 69 0 0 (2 * v2).toNatClampNeg) >>> (2 &&& 31)) &&& 7)), (6, .int 0)] [1, 2, 3, 4, 5, 6, 0] d_Mo_allCome_90 (by decide) rfl rfl rfl ?_
        obtain ⟨f92, h⟩ := h
        exact g_Mo_allCome_b92 hX hK hE  ih f92 v1 v2 (σ 69 0 0 (2 * v2).toNatClampNeg) (σ 69 0 0 ((2 * v2) + 1).toNatClampNeg) (((σ 69 0 0 (2 * v2).toNatClampNeg) >>> (2 &&& 31)) &&& 7) 0 _ _ h
set_option maxRecDepth 100000 in
set_option maxHeartbeats 4000000 in
theorem g_Mo_allCome_b10 {l : Launch} {K : sx_K} {X : sx_T}   {Q : sx_M → sx_L → Prop} (hX : sx_C X K prog_13_method_53_code 7 "SensorTreeModel" none rm_Mo_allCome l) (hK : kx_F K) (hE : sx_E X K (sx_Qv K Q))  : ∀ (f : Nat) (v1 : Int32) (v2 : Int32) (σ : sx_M) (τ : sx_L) , wp_Mo_allCome_b10 Q f v1 v2 σ τ → sx_G X K 7 10 [(0, .ref (K.2.2.1 50 0 0)), (1, .int v1), (2, .int v2)] [] (sx_H K σ τ) := by
  intro f
  induction f with
  | zero => intro v1 v2 σ τ h; exact (show False from h).elim
  | succ f ih =>
    intro v1 v2 σ τ h
    rw [wp_Mo_allCome_b10] at h
    refine sx_iload_n (pc2 := 11) hX 2 d_Mo_allCome_10 rfl rfl rfl ?_
    refine sx_iconst (v := 2) (pc2 := 12) hX d_Mo_allCome_11 (by decide) rfl ?_
    refine sx_iload_n (pc2 := 13) hX 1 d_Mo_allCome_12 rfl rfl rfl ?_
    refine sx_imul (pc2 := 14) hX d_Mo_allCome_13 rfl ?_
    refine sx_icmp_ge (tgt := 39) (pc2 := 17) hX d_Mo_allCome_14 (by decide) rfl (fun hc15 => ?_) (fun hc15 => ?_)
    · replace h := sx_t h hc15
      refine sx_aload_n (pc2 := 40) hX 0 d_Mo_allCome_39 rfl rfl rfl ?_
      refine fg_Mo_71 (pc2 := 43) hX (kr_50 hK) d_Mo_allCome_40 rfl ?_
      refine sx_bipush (v := 7) (pc2 := 45) hX d_Mo_allCome_43 (by decide) rfl ?_
      refine sx_iconst (v := 0) (pc2 := 46) hX d_Mo_allCome_45 (by decide) rfl ?_
      obtain ⟨hc16, h⟩ := h
      refine sx_iast (pc2 := 47) hX (kr_68 hK) (fun _ => rfl) hc16 d_Mo_allCome_46 rfl ?_
      refine sx_nm (fun σ17 e17 => ?_)
      replace h := h σ17 e17
      refine sx_iconst (v := 0) (pc2 := 48) hX d_Mo_allCome_47 (by decide) rfl ?_
      refine sx_istore_n (pc2 := 49) hX _ [(0, .ref (K.2.2.1 50 0 0)), (1, .int v1), (2, .int 0)] [1, 2, 0] d_Mo_allCome_48 rfl (by decide) rfl rfl rfl ?_
      obtain ⟨f49, h⟩ := h
      exact g_Mo_allCome_b49 hX hK hE   f49 v1 0 _ _ h
    · replace h := sx_f h hc15
      refine sx_aload_n (pc2 := 18) hX 0 d_Mo_allCome_17 rfl rfl rfl ?_
      refine fg_Mo_74 (pc2 := 21) hX (kr_50 hK) d_Mo_allCome_18 rfl ?_
      refine sx_iload_n (pc2 := 22) hX 2 d_Mo_allCome_21 rfl rfl rfl ?_
      refine sx_aload_n (pc2 := 23) hX 0 d_Mo_allCome_22 rfl rfl rfl ?_
      refine fg_Mo_71 (pc2 := 26) hX (kr_50 hK) d_Mo_allCome_23 rfl ?_
      refine sx_sipush (v := 243) (pc2 := 29) hX d_Mo_allCome_26 (by decide) rfl ?_
      refine sx_iload_n (pc2 := 30) hX 2 d_Mo_allCome_29 rfl rfl rfl ?_
      refine sx_iadd (pc2 := 31) hX d_Mo_allCome_30 rfl ?_
      obtain ⟨hc18, h⟩ := h
      refine sx_iald (pc2 := 32) hX (kr_68 hK) rfl hc18 d_Mo_allCome_31 rfl ?_
      obtain ⟨hc19, h⟩ := h
      refine sx_iast (pc2 := 33) hX (kr_69 hK) (fun _ => rfl) hc19 d_Mo_allCome_32 rfl ?_
      refine sx_nm (fun σ20 e20 => ?_)
      replace h := h σ20 e20
      refine sx_iinc (pc2 := 36) hX 2 _ [(0, .ref (K.2.2.1 50 0 0)), (1, .int v1), (2, .int (v2 + 1))] [1, 2, 0] d_Mo_allCome_33 rfl (v2 + 1) rfl (by decide) rfl rfl rfl ?_
      refine sx_goto (tgt := 10) hX d_Mo_allCome_36 (by decide) ?_
      exact ih v1 (v2 + 1) _ _ h
set_option maxRecDepth 100000 in
set_option maxHeartbeats 4000000 in
theorem c_Mo_allCome {l : Launch} {K : sx_K} (hK : kx_F K)  (σ : sx_M) (τ : sx_L) (Q : sx_M → sx_L → Prop)  (h : wp_Mo_allCome σ τ Q) : Met l y_Mo_allCome (sx_wd y_Mo_allCome prog_13_method_53_code 7 none) rm_Mo_allCome (sx_Pc K [.ref (K.2.2.1 50 0 0)] σ τ) (sx_Qv K Q) 0 0 (sx_A K) := by
  refine sx_met (by decide) (Nat.le_of_ble_eq_true rfl) (fun X hX hE => ?_)
  replace hX : sx_C X K prog_13_method_53_code 7 "SensorTreeModel" none rm_Mo_allCome l := hX
  show sx_G X K 7 0 [(0, .ref (K.2.2.1 50 0 0))] [] (sx_H K σ τ)
  unfold wp_Mo_allCome at h
  refine sx_aload_n (pc2 := 1) hX 0 d_Mo_allCome_0 rfl rfl rfl ?_
  refine fg_Mo_71 (pc2 := 4) hX (kr_50 hK) d_Mo_allCome_1 rfl ?_
  refine sx_bipush (v := 7) (pc2 := 6) hX d_Mo_allCome_4 (by decide) rfl ?_
  obtain ⟨hc21, h⟩ := h
  refine sx_iald (pc2 := 7) hX (kr_68 hK) rfl hc21 d_Mo_allCome_6 rfl ?_
  refine sx_istore_n (pc2 := 8) hX _ [(0, .ref (K.2.2.1 50 0 0)), (1, .int (σ 68 0 0 (7 : Int32).toNatClampNeg))] [1, 0] d_Mo_allCome_7 rfl (by decide) rfl rfl rfl ?_
  refine sx_iconst (v := 0) (pc2 := 9) hX d_Mo_allCome_8 (by decide) rfl ?_
  refine sx_istore_n (pc2 := 10) hX _ [(0, .ref (K.2.2.1 50 0 0)), (1, .int (σ 68 0 0 (7 : Int32).toNatClampNeg)), (2, .int 0)] [1, 2, 0] d_Mo_allCome_9 rfl (by decide) rfl rfl rfl ?_
  obtain ⟨f10, h⟩ := h
  exact g_Mo_allCome_b10 hX hK hE   f10 (σ 68 0 0 (7 : Int32).toNatClampNeg) 0 _ _ h
theorem cl_Mo_296 {X : sx_T} {K : sx_K} {cc : ByteArray} {nL : Nat} {ret : Option FieldType} {rm : Room} {l : Launch} {pc pc2 : Nat} {lv : List (Nat × Value)} {st : List Value} {σ : sx_M} {τ : sx_L}  {Q : sx_M → sx_L → Prop} (hX : sx_C X K cc nL "SensorTreeModel" ret rm l) (hK : kx_F K) (h : wp_Mo_allCome  σ τ Q)  (hR : rm_Mo_allCome.frames + 1 ≤ rm.frames ∧ 8 + (7 + 11) + rm_Mo_allCome.locals ≤ rm.locals) (hst : (st.map fun v => v.category).sum ≤ 8) (hd : decode cc pc = .ok (.invokevirtual 296, 3)) (hpc : pc + 3 = pc2) (kk : ∀ (σ2 : sx_M) (τ2 : sx_L), Q σ2 τ2 → sx_G X K nL pc2 lv (st) (sx_H K σ2 τ2)) : sx_G X K nL pc lv (.ref (K.2.2.1 50 0 0) :: st) (sx_H K σ τ) :=
  sx_callVv (Q := Q) (As := []) hX (c_Mo_allCome hK  σ τ Q  h) (kr_50 hK) rfl rfl lk_514 ls_66 hy_Mo_allCome lk_512 lk_364 lk_513 ⟨rfl, rfl⟩ hR hst rfl hd hpc kk
def y_Mo_allChoose : MethodName := ⟨"SensorTreeModel", "allChoose", "()V"⟩
theorem hy_Mo_allChoose : y_Mo_allChoose.cls ≠ "java/lang/invoke/MethodHandle" ∧ y_Mo_allChoose.cls ≠ "java/lang/invoke/VarHandle" ∧ (parseMethodDescriptor y_Mo_allChoose.desc).map (fun d => d.parameters.length) = some 0 := by decide +kernel
theorem d_Mo_allChoose_0 : decode prog_13_method_60_code 0 = .ok (.iconst 1, 1) := by decide +kernel
theorem d_Mo_allChoose_1 : decode prog_13_method_60_code 1 = .ok (.istore_n 1, 1) := by decide +kernel
theorem d_Mo_allChoose_2 : decode prog_13_method_60_code 2 = .ok (.iload_n 1, 1) := by decide +kernel
theorem d_Mo_allChoose_3 : decode prog_13_method_60_code 3 = .ok (.aload_n 0, 1) := by decide +kernel
theorem d_Mo_allChoose_4 : decode prog_13_method_60_code 4 = .ok (.getfield 40, 3) := by decide +kernel
theorem d_Mo_allChoose_7 : decode prog_13_method_60_code 7 = .ok (.aload_n 0, 1) := by decide +kernel
theorem d_Mo_allChoose_8 : decode prog_13_method_60_code 8 = .ok (.getfield 170, 3) := by decide +kernel
theorem d_Mo_allChoose_11 : decode prog_13_method_60_code 11 = .ok (.iaload, 1) := by decide +kernel
theorem d_Mo_allChoose_12 : decode prog_13_method_60_code 12 = .ok (.if_icmp .ge 14, 3) := by decide +kernel
theorem d_Mo_allChoose_15 : decode prog_13_method_60_code 15 = .ok (.aload_n 0, 1) := by decide +kernel
theorem d_Mo_allChoose_16 : decode prog_13_method_60_code 16 = .ok (.iload_n 1, 1) := by decide +kernel
theorem d_Mo_allChoose_17 : decode prog_13_method_60_code 17 = .ok (.invokevirtual 277, 3) := by decide +kernel
theorem d_Mo_allChoose_20 : decode prog_13_method_60_code 20 = .ok (.iinc 1 1, 3) := by decide +kernel
theorem d_Mo_allChoose_23 : decode prog_13_method_60_code 23 = .ok (.goto (-21), 3) := by decide +kernel
theorem d_Mo_allChoose_26 : decode prog_13_method_60_code 26 = .ok (.return_, 1) := by decide +kernel
def wp_Mo_allChoose_b2   (Q : sx_M → sx_L → Prop) : Nat → Int32 → sx_M → sx_L → Prop
  | 0, _, _, _ => False
  | f + 1, v1, σ, τ => vp_in (σ 50 0 0 17) 2 ∧ (if σ 58 0 0 (σ 50 0 0 17).toNatClampNeg ≤ v1 then (Q σ τ) else (wp_Mo_chooses v1 σ τ (fun σ3 τ3 => wp_Mo_allChoose_b2 Q f (v1 + 1) σ3 τ3)))
def wp_Mo_allChoose  (σ : sx_M) (τ : sx_L) (Q : sx_M → sx_L → Prop) : Prop := ∃ f2, wp_Mo_allChoose_b2 Q f2 1 σ τ
abbrev rm_Mo_allChoose : Room := { frames := 5, cells := 0, slots := 0, locals := 113 }
set_option maxRecDepth 100000 in
set_option maxHeartbeats 4000000 in
theorem g_Mo_allChoose_b2 {l : Launch} {K : sx_K} {X : sx_T}   {Q : sx_M → sx_L → Prop} (hX : sx_C X K prog_13_method_60_code 2 "SensorTreeModel" none rm_Mo_allChoose l) (hK : kx_F K) (hE : sx_E X K (sx_Qv K Q))  : ∀ (f : Nat) (v1 : Int32) (σ : sx_M) (τ : sx_L) , wp_Mo_allChoose_b2 Q f v1 σ τ → sx_G X K 2 2 [(0, .ref (K.2.2.1 50 0 0)), (1, .int v1)] [] (sx_H K σ τ) := by
  intro f
  induction f with
  | zero => intro v1 σ τ h; exact (show False from h).elim
  | succ f ih =>
    intro v1 σ τ h
    rw [wp_Mo_allChoose_b2] at h
    refine sx_iload_n (pc2 := 3) hX 1 d_Mo_allChoose_2 rfl rfl rfl ?_
    refine sx_aload_n (pc2 := 4) hX 0 d_Mo_allChoose_3 rfl rfl rfl ?_
    refine fg_Mo_40 (pc2 := 7) hX (kr_50 hK) d_Mo_allChoose_4 rfl ?_
    refine sx_aload_n (pc2 := 8) hX 0 d_Mo_allChoose_7 rfl rfl rfl ?_
    refine fg_Mo_170 (pc2 := 11) hX (kr_50 hK) d_Mo_allChoose_8 rfl ?_
    obtain ⟨hc1, h⟩ := h
    refine sx_iald (pc2 := 12) hX (kr_58 hK) rfl hc1 d_Mo_allChoose_11 rfl ?_
    refine sx_icmp_ge (tgt := 26) (pc2 := 15) hX d_Mo_allChoose_12 (by decide) rfl (fun hc2 => ?_) (fun hc2 => ?_)
    · replace h := sx_t h hc2
      exact sx_vret hX hE h d_Mo_allChoose_26
    · replace h := sx_f h hc2
      refine sx_aload_n (pc2 := 16) hX 0 d_Mo_allChoose_15 rfl rfl rfl ?_
      refine sx_iload_n (pc2 := 17) hX 1 d_Mo_allChoose_16 rfl rfl rfl ?_
      refine cl_Mo_277 (pc2 := 20) hX hK h  ⟨Nat.le_of_ble_eq_true rfl, Nat.le_of_ble_eq_true rfl⟩ (Nat.le_of_ble_eq_true rfl) d_Mo_allChoose_17 rfl (fun σ3 τ3 h => ?_)
      refine sx_iinc (pc2 := 23) hX 1 _ [(0, .ref (K.2.2.1 50 0 0)), (1, .int (v1 + 1))] [1, 0] d_Mo_allChoose_20 rfl (v1 + 1) rfl (by decide) rfl rfl rfl ?_
      refine sx_goto (tgt := 2) hX d_Mo_allChoose_23 (by decide) ?_
      exact ih (v1 + 1) _ _ h
set_option maxRecDepth 100000 in
set_option maxHeartbeats 4000000 in
theorem c_Mo_allChoose {l : Launch} {K : sx_K} (hK : kx_F K)  (σ : sx_M) (τ : sx_L) (Q : sx_M → sx_L → Prop)  (h : wp_Mo_allChoose σ τ Q) : Met l y_Mo_allChoose (sx_wd y_Mo_allChoose prog_13_method_60_code 2 none) rm_Mo_allChoose (sx_Pc K [.ref (K.2.2.1 50 0 0)] σ τ) (sx_Qv K Q) 0 0 (sx_A K) := by
  refine sx_met (by decide) (Nat.le_of_ble_eq_true rfl) (fun X hX hE => ?_)
  replace hX : sx_C X K prog_13_method_60_code 2 "SensorTreeModel" none rm_Mo_allChoose l := hX
  show sx_G X K 2 0 [(0, .ref (K.2.2.1 50 0 0))] [] (sx_H K σ τ)
  unfold wp_Mo_allChoose at h
  refine sx_iconst (v := 1) (pc2 := 1) hX d_Mo_allChoose_0 (by decide) rfl ?_
  refine sx_istore_n (pc2 := 2) hX _ [(0, .ref (K.2.2.1 50 0 0)), (1, .int 1)] [1, 0] d_Mo_allChoose_1 rfl (by decide) rfl rfl rfl ?_
  obtain ⟨f2, h⟩ := h
  exact g_Mo_allChoose_b2 hX hK hE   f2 1 _ _ h
theorem cl_Mo_329 {X : sx_T} {K : sx_K} {cc : ByteArray} {nL : Nat} {ret : Option FieldType} {rm : Room} {l : Launch} {pc pc2 : Nat} {lv : List (Nat × Value)} {st : List Value} {σ : sx_M} {τ : sx_L}  {Q : sx_M → sx_L → Prop} (hX : sx_C X K cc nL "SensorTreeModel" ret rm l) (hK : kx_F K) (h : wp_Mo_allChoose  σ τ Q)  (hR : rm_Mo_allChoose.frames + 1 ≤ rm.frames ∧ 8 + (2 + 11) + rm_Mo_allChoose.locals ≤ rm.locals) (hst : (st.map fun v => v.category).sum ≤ 8) (hd : decode cc pc = .ok (.invokevirtual 329, 3)) (hpc : pc + 3 = pc2) (kk : ∀ (σ2 : sx_M) (τ2 : sx_L), Q σ2 τ2 → sx_G X K nL pc2 lv (st) (sx_H K σ2 τ2)) : sx_G X K nL pc lv (.ref (K.2.2.1 50 0 0) :: st) (sx_H K σ τ) :=
  sx_callVv (Q := Q) (As := []) hX (c_Mo_allChoose hK  σ τ Q  h) (kr_50 hK) rfl rfl lk_532 ls_84 hy_Mo_allChoose lk_530 lk_364 lk_531 ⟨rfl, rfl⟩ hR hst rfl hd hpc kk
