def y_Mo_fires : MethodName := ⟨"SensorTreeModel", "fires", "(I)V"⟩
theorem hy_Mo_fires : y_Mo_fires.cls ≠ "java/lang/invoke/MethodHandle" ∧ y_Mo_fires.cls ≠ "java/lang/invoke/VarHandle" ∧ (parseMethodDescriptor y_Mo_fires.desc).map (fun d => d.parameters.length) = some 1 := by decide +kernel
theorem d_Mo_fires_0 : decode prog_13_method_61_code 0 = .ok (.aload_n 0, 1) := by decide +kernel
theorem d_Mo_fires_1 : decode prog_13_method_61_code 1 = .ok (.iload_n 1, 1) := by decide +kernel
theorem d_Mo_fires_2 : decode prog_13_method_61_code 2 = .ok (.iconst 4, 1) := by decide +kernel
theorem d_Mo_fires_3 : decode prog_13_method_61_code 3 = .ok (.invokevirtual 246, 3) := by decide +kernel
theorem d_Mo_fires_6 : decode prog_13_method_61_code 6 = .ok (.istore_n 2, 1) := by decide +kernel
theorem d_Mo_fires_7 : decode prog_13_method_61_code 7 = .ok (.iload_n 2, 1) := by decide +kernel
theorem d_Mo_fires_8 : decode prog_13_method_61_code 8 = .ok (.ifCond .le 22, 3) := by decide +kernel
theorem d_Mo_fires_11 : decode prog_13_method_61_code 11 = .ok (.aload_n 0, 1) := by decide +kernel
theorem d_Mo_fires_12 : decode prog_13_method_61_code 12 = .ok (.iload_n 1, 1) := by decide +kernel
theorem d_Mo_fires_13 : decode prog_13_method_61_code 13 = .ok (.iconst 4, 1) := by decide +kernel
theorem d_Mo_fires_14 : decode prog_13_method_61_code 14 = .ok (.iload_n 2, 1) := by decide +kernel
theorem d_Mo_fires_15 : decode prog_13_method_61_code 15 = .ok (.iconst 1, 1) := by decide +kernel
theorem d_Mo_fires_16 : decode prog_13_method_61_code 16 = .ok (.isub, 1) := by decide +kernel
theorem d_Mo_fires_17 : decode prog_13_method_61_code 17 = .ok (.invokevirtual 229, 3) := by decide +kernel
theorem d_Mo_fires_20 : decode prog_13_method_61_code 20 = .ok (.iload_n 2, 1) := by decide +kernel
theorem d_Mo_fires_21 : decode prog_13_method_61_code 21 = .ok (.iconst 1, 1) := by decide +kernel
theorem d_Mo_fires_22 : decode prog_13_method_61_code 22 = .ok (.if_icmp .ne 8, 3) := by decide +kernel
theorem d_Mo_fires_25 : decode prog_13_method_61_code 25 = .ok (.aload_n 0, 1) := by decide +kernel
theorem d_Mo_fires_26 : decode prog_13_method_61_code 26 = .ok (.iload_n 1, 1) := by decide +kernel
theorem d_Mo_fires_27 : decode prog_13_method_61_code 27 = .ok (.invokevirtual 277, 3) := by decide +kernel
theorem d_Mo_fires_30 : decode prog_13_method_61_code 30 = .ok (.aload_n 0, 1) := by decide +kernel
theorem d_Mo_fires_31 : decode prog_13_method_61_code 31 = .ok (.iload_n 1, 1) := by decide +kernel
theorem d_Mo_fires_32 : decode prog_13_method_61_code 32 = .ok (.bipush 7, 2) := by decide +kernel
theorem d_Mo_fires_34 : decode prog_13_method_61_code 34 = .ok (.invokevirtual 246, 3) := by decide +kernel
theorem d_Mo_fires_37 : decode prog_13_method_61_code 37 = .ok (.iconst 1, 1) := by decide +kernel
theorem d_Mo_fires_38 : decode prog_13_method_61_code 38 = .ok (.iadd, 1) := by decide +kernel
theorem d_Mo_fires_39 : decode prog_13_method_61_code 39 = .ok (.istore_n 3, 1) := by decide +kernel
theorem d_Mo_fires_40 : decode prog_13_method_61_code 40 = .ok (.aload_n 0, 1) := by decide +kernel
theorem d_Mo_fires_41 : decode prog_13_method_61_code 41 = .ok (.iload_n 1, 1) := by decide +kernel
theorem d_Mo_fires_42 : decode prog_13_method_61_code 42 = .ok (.bipush 7, 2) := by decide +kernel
theorem d_Mo_fires_44 : decode prog_13_method_61_code 44 = .ok (.iload_n 3, 1) := by decide +kernel
theorem d_Mo_fires_45 : decode prog_13_method_61_code 45 = .ok (.invokevirtual 229, 3) := by decide +kernel
theorem d_Mo_fires_48 : decode prog_13_method_61_code 48 = .ok (.iload_n 3, 1) := by decide +kernel
theorem d_Mo_fires_49 : decode prog_13_method_61_code 49 = .ok (.aload_n 0, 1) := by decide +kernel
theorem d_Mo_fires_50 : decode prog_13_method_61_code 50 = .ok (.iload_n 1, 1) := by decide +kernel
theorem d_Mo_fires_51 : decode prog_13_method_61_code 51 = .ok (.bipush 9, 2) := by decide +kernel
theorem d_Mo_fires_53 : decode prog_13_method_61_code 53 = .ok (.invokevirtual 246, 3) := by decide +kernel
theorem d_Mo_fires_56 : decode prog_13_method_61_code 56 = .ok (.if_icmp .ne 53, 3) := by decide +kernel
theorem d_Mo_fires_59 : decode prog_13_method_61_code 59 = .ok (.aload_n 0, 1) := by decide +kernel
theorem d_Mo_fires_60 : decode prog_13_method_61_code 60 = .ok (.iload_n 1, 1) := by decide +kernel
theorem d_Mo_fires_61 : decode prog_13_method_61_code 61 = .ok (.bipush 8, 2) := by decide +kernel
theorem d_Mo_fires_63 : decode prog_13_method_61_code 63 = .ok (.invokevirtual 246, 3) := by decide +kernel
theorem d_Mo_fires_66 : decode prog_13_method_61_code 66 = .ok (.aload_n 0, 1) := by decide +kernel
theorem d_Mo_fires_67 : decode prog_13_method_61_code 67 = .ok (.iconst 2, 1) := by decide +kernel
theorem d_Mo_fires_68 : decode prog_13_method_61_code 68 = .ok (.invokevirtual 233, 3) := by decide +kernel
theorem d_Mo_fires_71 : decode prog_13_method_61_code 71 = .ok (.if_icmp .ge 27, 3) := by decide +kernel
theorem d_Mo_fires_74 : decode prog_13_method_61_code 74 = .ok (.aload_n 0, 1) := by decide +kernel
theorem d_Mo_fires_75 : decode prog_13_method_61_code 75 = .ok (.iconst 0, 1) := by decide +kernel
theorem d_Mo_fires_76 : decode prog_13_method_61_code 76 = .ok (.iload_n 1, 1) := by decide +kernel
theorem d_Mo_fires_77 : decode prog_13_method_61_code 77 = .ok (.iconst 0, 1) := by decide +kernel
theorem d_Mo_fires_78 : decode prog_13_method_61_code 78 = .ok (.iconst 0, 1) := by decide +kernel
theorem d_Mo_fires_79 : decode prog_13_method_61_code 79 = .ok (.iconst 0, 1) := by decide +kernel
theorem d_Mo_fires_80 : decode prog_13_method_61_code 80 = .ok (.aload_n 0, 1) := by decide +kernel
theorem d_Mo_fires_81 : decode prog_13_method_61_code 81 = .ok (.iload_n 1, 1) := by decide +kernel
theorem d_Mo_fires_82 : decode prog_13_method_61_code 82 = .ok (.iconst 0, 1) := by decide +kernel
theorem d_Mo_fires_83 : decode prog_13_method_61_code 83 = .ok (.invokevirtual 246, 3) := by decide +kernel
theorem d_Mo_fires_86 : decode prog_13_method_61_code 86 = .ok (.aload_n 0, 1) := by decide +kernel
theorem d_Mo_fires_87 : decode prog_13_method_61_code 87 = .ok (.iload_n 1, 1) := by decide +kernel
theorem d_Mo_fires_88 : decode prog_13_method_61_code 88 = .ok (.iconst 1, 1) := by decide +kernel
theorem d_Mo_fires_89 : decode prog_13_method_61_code 89 = .ok (.invokevirtual 246, 3) := by decide +kernel
theorem d_Mo_fires_92 : decode prog_13_method_61_code 92 = .ok (.invokevirtual 280, 3) := by decide +kernel
theorem d_Mo_fires_95 : decode prog_13_method_61_code 95 = .ok (.goto 14, 3) := by decide +kernel
theorem d_Mo_fires_98 : decode prog_13_method_61_code 98 = .ok (.aload_n 0, 1) := by decide +kernel
theorem d_Mo_fires_99 : decode prog_13_method_61_code 99 = .ok (.getfield 71, 3) := by decide +kernel
theorem d_Mo_fires_102 : decode prog_13_method_61_code 102 = .ok (.bipush 6, 2) := by decide +kernel
theorem d_Mo_fires_104 : decode prog_13_method_61_code 104 = .ok (.dup2, 1) := by decide +kernel
theorem d_Mo_fires_105 : decode prog_13_method_61_code 105 = .ok (.iaload, 1) := by decide +kernel
theorem d_Mo_fires_106 : decode prog_13_method_61_code 106 = .ok (.iconst 1, 1) := by decide +kernel
theorem d_Mo_fires_107 : decode prog_13_method_61_code 107 = .ok (.iadd, 1) := by decide +kernel
theorem d_Mo_fires_108 : decode prog_13_method_61_code 108 = .ok (.iastore, 1) := by decide +kernel
theorem d_Mo_fires_109 : decode prog_13_method_61_code 109 = .ok (.aload_n 0, 1) := by decide +kernel
theorem d_Mo_fires_110 : decode prog_13_method_61_code 110 = .ok (.iload_n 1, 1) := by decide +kernel
theorem d_Mo_fires_111 : decode prog_13_method_61_code 111 = .ok (.bipush 6, 2) := by decide +kernel
theorem d_Mo_fires_113 : decode prog_13_method_61_code 113 = .ok (.invokevirtual 246, 3) := by decide +kernel
theorem d_Mo_fires_116 : decode prog_13_method_61_code 116 = .ok (.istore 4, 2) := by decide +kernel
theorem d_Mo_fires_118 : decode prog_13_method_61_code 118 = .ok (.iload_n 3, 1) := by decide +kernel
theorem d_Mo_fires_119 : decode prog_13_method_61_code 119 = .ok (.iload 4, 2) := by decide +kernel
theorem d_Mo_fires_121 : decode prog_13_method_61_code 121 = .ok (.if_icmp .ne 33, 3) := by decide +kernel
theorem d_Mo_fires_124 : decode prog_13_method_61_code 124 = .ok (.aload_n 0, 1) := by decide +kernel
theorem d_Mo_fires_125 : decode prog_13_method_61_code 125 = .ok (.iload_n 1, 1) := by decide +kernel
theorem d_Mo_fires_126 : decode prog_13_method_61_code 126 = .ok (.iload 4, 2) := by decide +kernel
theorem d_Mo_fires_128 : decode prog_13_method_61_code 128 = .ok (.aload_n 0, 1) := by decide +kernel
theorem d_Mo_fires_129 : decode prog_13_method_61_code 129 = .ok (.iconst 0, 1) := by decide +kernel
theorem d_Mo_fires_130 : decode prog_13_method_61_code 130 = .ok (.invokevirtual 233, 3) := by decide +kernel
theorem d_Mo_fires_133 : decode prog_13_method_61_code 133 = .ok (.aload_n 0, 1) := by decide +kernel
theorem d_Mo_fires_134 : decode prog_13_method_61_code 134 = .ok (.iconst 1, 1) := by decide +kernel
theorem d_Mo_fires_135 : decode prog_13_method_61_code 135 = .ok (.invokevirtual 233, 3) := by decide +kernel
theorem d_Mo_fires_138 : decode prog_13_method_61_code 138 = .ok (.ishl, 1) := by decide +kernel
theorem d_Mo_fires_139 : decode prog_13_method_61_code 139 = .ok (.if_icmp .ge 10, 3) := by decide +kernel
theorem d_Mo_fires_142 : decode prog_13_method_61_code 142 = .ok (.iconst 2, 1) := by decide +kernel
theorem d_Mo_fires_143 : decode prog_13_method_61_code 143 = .ok (.iload 4, 2) := by decide +kernel
theorem d_Mo_fires_145 : decode prog_13_method_61_code 145 = .ok (.imul, 1) := by decide +kernel
theorem d_Mo_fires_146 : decode prog_13_method_61_code 146 = .ok (.goto 5, 3) := by decide +kernel
theorem d_Mo_fires_149 : decode prog_13_method_61_code 149 = .ok (.iload 4, 2) := by decide +kernel
theorem d_Mo_fires_151 : decode prog_13_method_61_code 151 = .ok (.invokevirtual 236, 3) := by decide +kernel
theorem d_Mo_fires_154 : decode prog_13_method_61_code 154 = .ok (.return_, 1) := by decide +kernel
def wp_Mo_fires_b154   (Q : sx_M → sx_L → Prop)  (σ : sx_M) (τ : sx_L) : Prop := Q σ τ
def wp_Mo_fires_b151   (Q : sx_M → sx_L → Prop) (w1 : Int32) (w2 : Int32) (σ : sx_M) (τ : sx_L) : Prop := wp_Mo_starts w1 w2 σ τ (fun σ1 τ1 => wp_Mo_fires_b154 Q σ1 τ1)
def wp_Mo_fires_b109   (Q : sx_M → sx_L → Prop) (v1 : Int32) (v3 : Int32) (σ : sx_M) (τ : sx_L) : Prop := wp_Mo_of v1 (6 : Int32) σ τ (fun r2 σ2 τ2 => if v3 = r2 then (wp_Mo_setting (0 : Int32) σ2 τ2 (fun r4 σ4 τ4 => wp_Mo_setting (1 : Int32) σ4 τ4 (fun r5 σ5 τ5 => if r4 <<< (r5 &&& 31) ≤ r2 then (wp_Mo_fires_b151 Q v1 r2 σ5 τ5) else (wp_Mo_fires_b151 Q v1 (2 * r2) σ5 τ5)))) else (wp_Mo_fires_b154 Q σ2 τ2))
def wp_Mo_fires_b30   (Q : sx_M → sx_L → Prop) (v1 : Int32) (σ : sx_M) (τ : sx_L) : Prop := wp_Mo_of v1 (7 : Int32) σ τ (fun r7 σ7 τ7 => wp_Mo_keeps v1 (7 : Int32) (r7 + 1) σ7 τ7 (fun σ8 τ8 => wp_Mo_of v1 (9 : Int32) σ8 τ8 (fun r9 σ9 τ9 => if r7 + 1 = r9 then (wp_Mo_of v1 (8 : Int32) σ9 τ9 (fun r11 σ11 τ11 => wp_Mo_setting (2 : Int32) σ11 τ11 (fun r12 σ12 τ12 => if r12 ≤ r11 then (vp_in 6 643 ∧ (vp_in 6 643 ∧ (∀ σ16 : sx_M, σ16 = sx_u σ12 68 0 0 (6 : Int32).toNatClampNeg ((σ12 68 0 0 (6 : Int32).toNatClampNeg) + 1) → (wp_Mo_fires_b109 Q v1 (r7 + 1) σ16 τ12)))) else (wp_Mo_of v1 (0 : Int32) σ12 τ12 (fun r17 σ17 τ17 => wp_Mo_of v1 (1 : Int32) σ17 τ17 (fun r18 σ18 τ18 => wp_Mo_puts (0 : Int32) v1 (0 : Int32) (0 : Int32) (0 : Int32) r17 r18 σ18 τ18 (fun σ19 τ19 => wp_Mo_fires_b109 Q v1 (r7 + 1) σ19 τ19))))))) else (wp_Mo_fires_b109 Q v1 (r7 + 1) σ9 τ9))))
def wp_Mo_fires (x1 : Int32) (σ : sx_M) (τ : sx_L) (Q : sx_M → sx_L → Prop) : Prop := wp_Mo_of x1 (4 : Int32) σ τ (fun r20 σ20 τ20 => if r20 ≤ 0 then (wp_Mo_fires_b30 Q x1 σ20 τ20) else (wp_Mo_keeps x1 (4 : Int32) (r20 - 1) σ20 τ20 (fun σ22 τ22 => if r20 = 1 then (wp_Mo_chooses x1 σ22 τ22 (fun σ24 τ24 => wp_Mo_fires_b30 Q x1 σ24 τ24)) else (wp_Mo_fires_b30 Q x1 σ22 τ22))))
abbrev rm_Mo_fires : Room := { frames := 5, cells := 0, slots := 0, locals := 113 }
set_option maxRecDepth 100000 in
set_option maxHeartbeats 4000000 in
theorem g_Mo_fires_b154 {l : Launch} {K : sx_K} {X : sx_T}   {Q : sx_M → sx_L → Prop} (hX : sx_C X K prog_13_method_61_code 5 "SensorTreeModel" none rm_Mo_fires l) (hK : kx_F K) (hE : sx_E X K (sx_Qv K Q))   (σ : sx_M) (τ : sx_L)  (h : wp_Mo_fires_b154 Q  σ τ) : sx_G X K 5 154 [] [] (sx_H K σ τ) := by
  unfold wp_Mo_fires_b154 at h
  exact sx_vret hX hE h d_Mo_fires_154
set_option maxRecDepth 100000 in
set_option maxHeartbeats 4000000 in
theorem g_Mo_fires_b151 {l : Launch} {K : sx_K} {X : sx_T}   {Q : sx_M → sx_L → Prop} (hX : sx_C X K prog_13_method_61_code 5 "SensorTreeModel" none rm_Mo_fires l) (hK : kx_F K) (hE : sx_E X K (sx_Qv K Q))  (w1 : Int32) (w2 : Int32) (σ : sx_M) (τ : sx_L)  (h : wp_Mo_fires_b151 Q  w1 w2 σ τ) : sx_G X K 5 151 [] [.int w2, .int w1, .ref (K.2.2.1 50 0 0)] (sx_H K σ τ) := by
  unfold wp_Mo_fires_b151 at h
  refine cl_Mo_236 (pc2 := 154) hX hK h  ⟨Nat.le_of_ble_eq_true rfl, Nat.le_of_ble_eq_true rfl⟩ (Nat.le_of_ble_eq_true rfl) d_Mo_fires_151 rfl (fun σ1 τ1 h => ?_)
  exact g_Mo_fires_b154 hX hK hE   _ _ h
set_option maxRecDepth 100000 in
set_option maxHeartbeats 4000000 in
theorem g_Mo_fires_b109 {l : Launch} {K : sx_K} {X : sx_T}   {Q : sx_M → sx_L → Prop} (hX : sx_C X K prog_13_method_61_code 5 "SensorTreeModel" none rm_Mo_fires l) (hK : kx_F K) (hE : sx_E X K (sx_Qv K Q))  (v1 : Int32) (v3 : Int32) (σ : sx_M) (τ : sx_L)  (h : wp_Mo_fires_b109 Q  v1 v3 σ τ) : sx_G X K 5 109 [(0, .ref (K.2.2.1 50 0 0)), (1, .int v1), (3, .int v3)] [] (sx_H K σ τ) := by
  unfold wp_Mo_fires_b109 at h
  refine sx_aload_n (pc2 := 110) hX 0 d_Mo_fires_109 rfl rfl rfl ?_
  refine sx_iload_n (pc2 := 111) hX 1 d_Mo_fires_110 rfl rfl rfl ?_
  refine sx_bipush (v := 6) (pc2 := 113) hX d_Mo_fires_111 (by decide) rfl ?_
  refine cl_Mo_246 (pc2 := 116) hX hK h  ⟨Nat.le_of_ble_eq_true rfl, Nat.le_of_ble_eq_true rfl⟩ (Nat.le_of_ble_eq_true rfl) d_Mo_fires_113 rfl (fun r2 σ2 τ2 h => ?_)
  refine sx_istore (pc2 := 118) hX _ [(0, .ref (K.2.2.1 50 0 0)), (1, .int v1), (3, .int v3), (4, .int r2)] [1, 2, 3, 0] d_Mo_fires_116 (by decide) rfl rfl rfl ?_
  refine sx_iload_n (pc2 := 119) hX 2 d_Mo_fires_118 rfl rfl rfl ?_
  refine sx_iload (pc2 := 121) hX 3 d_Mo_fires_119 rfl rfl ?_
  refine sx_icmp_ne (tgt := 154) (pc2 := 124) hX d_Mo_fires_121 (by decide) rfl (fun hc3 => ?_) (fun hc3 => ?_)
  · replace h := sx_f h hc3
    refine sx_sub [] [] rfl ?_
    exact g_Mo_fires_b154 hX hK hE   _ _ h
  · replace h := sx_t h hc3
    refine sx_aload_n (pc2 := 125) hX 0 d_Mo_fires_124 rfl rfl rfl ?_
    refine sx_iload_n (pc2 := 126) hX 1 d_Mo_fires_125 rfl rfl rfl ?_
    refine sx_iload (pc2 := 128) hX 3 d_Mo_fires_126 rfl rfl ?_
    refine sx_aload_n (pc2 := 129) hX 0 d_Mo_fires_128 rfl rfl rfl ?_
    refine sx_iconst (v := 0) (pc2 := 130) hX d_Mo_fires_129 (by decide) rfl ?_
    refine cl_Mo_233 (pc2 := 133) hX hK h  ⟨Nat.le_of_ble_eq_true rfl, Nat.le_of_ble_eq_true rfl⟩ (Nat.le_of_ble_eq_true rfl) d_Mo_fires_130 rfl (fun r4 σ4 τ4 h => ?_)
    refine sx_aload_n (pc2 := 134) hX 0 d_Mo_fires_133 rfl rfl rfl ?_
    refine sx_iconst (v := 1) (pc2 := 135) hX d_Mo_fires_134 (by decide) rfl ?_
    refine cl_Mo_233 (pc2 := 138) hX hK h  ⟨Nat.le_of_ble_eq_true rfl, Nat.le_of_ble_eq_true rfl⟩ (Nat.le_of_ble_eq_true rfl) d_Mo_fires_135 rfl (fun r5 σ5 τ5 h => ?_)
    refine sx_ishl (pc2 := 139) hX d_Mo_fires_138 rfl ?_
    refine sx_icmp_ge (tgt := 149) (pc2 := 142) hX d_Mo_fires_139 (by decide) rfl (fun hc6 => ?_) (fun hc6 => ?_)
    · replace h := sx_t h hc6
      refine sx_iload (pc2 := 151) hX 3 d_Mo_fires_149 rfl rfl ?_
      refine sx_sub [] [] rfl ?_
      exact g_Mo_fires_b151 hX hK hE   v1 r2 _ _ h
    · replace h := sx_f h hc6
      refine sx_iconst (v := 2) (pc2 := 143) hX d_Mo_fires_142 (by decide) rfl ?_
      refine sx_iload (pc2 := 145) hX 3 d_Mo_fires_143 rfl rfl ?_
      refine sx_imul (pc2 := 146) hX d_Mo_fires_145 rfl ?_
      refine sx_goto (tgt := 151) hX d_Mo_fires_146 (by decide) ?_
      refine sx_sub [] [] rfl ?_
      exact g_Mo_fires_b151 hX hK hE   v1 (2 * r2) _ _ h
set_option maxRecDepth 100000 in
set_option maxHeartbeats 4000000 in
theorem g_Mo_fires_b30 {l : Launch} {K : sx_K} {X : sx_T}   {Q : sx_M → sx_L → Prop} (hX : sx_C X K prog_13_method_61_code 5 "SensorTreeModel" none rm_Mo_fires l) (hK : kx_F K) (hE : sx_E X K (sx_Qv K Q))  (v1 : Int32) (σ : sx_M) (τ : sx_L)  (h : wp_Mo_fires_b30 Q  v1 σ τ) : sx_G X K 5 30 [(0, .ref (K.2.2.1 50 0 0)), (1, .int v1)] [] (sx_H K σ τ) := by
  unfold wp_Mo_fires_b30 at h
  refine sx_aload_n (pc2 := 31) hX 0 d_Mo_fires_30 rfl rfl rfl ?_
  refine sx_iload_n (pc2 := 32) hX 1 d_Mo_fires_31 rfl rfl rfl ?_
  refine sx_bipush (v := 7) (pc2 := 34) hX d_Mo_fires_32 (by decide) rfl ?_
  refine cl_Mo_246 (pc2 := 37) hX hK h  ⟨Nat.le_of_ble_eq_true rfl, Nat.le_of_ble_eq_true rfl⟩ (Nat.le_of_ble_eq_true rfl) d_Mo_fires_34 rfl (fun r7 σ7 τ7 h => ?_)
  refine sx_iconst (v := 1) (pc2 := 38) hX d_Mo_fires_37 (by decide) rfl ?_
  refine sx_iadd (pc2 := 39) hX d_Mo_fires_38 rfl ?_
  refine sx_istore_n (pc2 := 40) hX _ [(0, .ref (K.2.2.1 50 0 0)), (1, .int v1), (3, .int (r7 + 1))] [1, 2, 0] d_Mo_fires_39 rfl (by decide) rfl rfl rfl ?_
  refine sx_aload_n (pc2 := 41) hX 0 d_Mo_fires_40 rfl rfl rfl ?_
  refine sx_iload_n (pc2 := 42) hX 1 d_Mo_fires_41 rfl rfl rfl ?_
  refine sx_bipush (v := 7) (pc2 := 44) hX d_Mo_fires_42 (by decide) rfl ?_
  refine sx_iload_n (pc2 := 45) hX 2 d_Mo_fires_44 rfl rfl rfl ?_
  refine cl_Mo_229 (pc2 := 48) hX hK h  ⟨Nat.le_of_ble_eq_true rfl, Nat.le_of_ble_eq_true rfl⟩ (Nat.le_of_ble_eq_true rfl) d_Mo_fires_45 rfl (fun σ8 τ8 h => ?_)
  refine sx_iload_n (pc2 := 49) hX 2 d_Mo_fires_48 rfl rfl rfl ?_
  refine sx_aload_n (pc2 := 50) hX 0 d_Mo_fires_49 rfl rfl rfl ?_
  refine sx_iload_n (pc2 := 51) hX 1 d_Mo_fires_50 rfl rfl rfl ?_
  refine sx_bipush (v := 9) (pc2 := 53) hX d_Mo_fires_51 (by decide) rfl ?_
  refine cl_Mo_246 (pc2 := 56) hX hK h  ⟨Nat.le_of_ble_eq_true rfl, Nat.le_of_ble_eq_true rfl⟩ (Nat.le_of_ble_eq_true rfl) d_Mo_fires_53 rfl (fun r9 σ9 τ9 h => ?_)
  refine sx_icmp_ne (tgt := 109) (pc2 := 59) hX d_Mo_fires_56 (by decide) rfl (fun hc10 => ?_) (fun hc10 => ?_)
  · replace h := sx_f h hc10
    exact g_Mo_fires_b109 hX hK hE   v1 (r7 + 1) _ _ h
  · replace h := sx_t h hc10
    refine sx_aload_n (pc2 := 60) hX 0 d_Mo_fires_59 rfl rfl rfl ?_
    refine sx_iload_n (pc2 := 61) hX 1 d_Mo_fires_60 rfl rfl rfl ?_
    refine sx_bipush (v := 8) (pc2 := 63) hX d_Mo_fires_61 (by decide) rfl ?_
    refine cl_Mo_246 (pc2 := 66) hX hK h  ⟨Nat.le_of_ble_eq_true rfl, Nat.le_of_ble_eq_true rfl⟩ (Nat.le_of_ble_eq_true rfl) d_Mo_fires_63 rfl (fun r11 σ11 τ11 h => ?_)
    refine sx_aload_n (pc2 := 67) hX 0 d_Mo_fires_66 rfl rfl rfl ?_
    refine sx_iconst (v := 2) (pc2 := 68) hX d_Mo_fires_67 (by decide) rfl ?_
    refine cl_Mo_233 (pc2 := 71) hX hK h  ⟨Nat.le_of_ble_eq_true rfl, Nat.le_of_ble_eq_true rfl⟩ (Nat.le_of_ble_eq_true rfl) d_Mo_fires_68 rfl (fun r12 σ12 τ12 h => ?_)
    refine sx_icmp_ge (tgt := 98) (pc2 := 74) hX d_Mo_fires_71 (by decide) rfl (fun hc13 => ?_) (fun hc13 => ?_)
    · replace h := sx_t h hc13
      refine sx_aload_n (pc2 := 99) hX 0 d_Mo_fires_98 rfl rfl rfl ?_
      refine fg_Mo_71 (pc2 := 102) hX (kr_50 hK) d_Mo_fires_99 rfl ?_
      refine sx_bipush (v := 6) (pc2 := 104) hX d_Mo_fires_102 (by decide) rfl ?_
      refine sx_dup2 (pc2 := 105) hX d_Mo_fires_104 rfl rfl rfl ?_
      obtain ⟨hc14, h⟩ := h
      refine sx_iald (pc2 := 106) hX (kr_68 hK) rfl hc14 d_Mo_fires_105 rfl ?_
      refine sx_iconst (v := 1) (pc2 := 107) hX d_Mo_fires_106 (by decide) rfl ?_
      refine sx_iadd (pc2 := 108) hX d_Mo_fires_107 rfl ?_
      obtain ⟨hc15, h⟩ := h
      refine sx_iast (pc2 := 109) hX (kr_68 hK) (fun _ => rfl) hc15 d_Mo_fires_108 rfl ?_
      refine sx_nm (fun σ16 e16 => ?_)
      replace h := h σ16 e16
      exact g_Mo_fires_b109 hX hK hE   v1 (r7 + 1) _ _ h
    · replace h := sx_f h hc13
      refine sx_aload_n (pc2 := 75) hX 0 d_Mo_fires_74 rfl rfl rfl ?_
      refine sx_iconst (v := 0) (pc2 := 76) hX d_Mo_fires_75 (by decide) rfl ?_
      refine sx_iload_n (pc2 := 77) hX 1 d_Mo_fires_76 rfl rfl rfl ?_
      refine sx_iconst (v := 0) (pc2 := 78) hX d_Mo_fires_77 (by decide) rfl ?_
      refine sx_iconst (v := 0) (pc2 := 79) hX d_Mo_fires_78 (by decide) rfl ?_
      refine sx_iconst (v := 0) (pc2 := 80) hX d_Mo_fires_79 (by decide) rfl ?_
      refine sx_aload_n (pc2 := 81) hX 0 d_Mo_fires_80 rfl rfl rfl ?_
      refine sx_iload_n (pc2 := 82) hX 1 d_Mo_fires_81 rfl rfl rfl ?_
      refine sx_iconst (v := 0) (pc2 := 83) hX d_Mo_fires_82 (by decide) rfl ?_
      refine cl_Mo_246 (pc2 := 86) hX hK h  ⟨Nat.le_of_ble_eq_true rfl, Nat.le_of_ble_eq_true rfl⟩ (Nat.le_of_ble_eq_true rfl) d_Mo_fires_83 rfl (fun r17 σ17 τ17 h => ?_)
      refine sx_aload_n (pc2 := 87) hX 0 d_Mo_fires_86 rfl rfl rfl ?_
      refine sx_iload_n (pc2 := 88) hX 1 d_Mo_fires_87 rfl rfl rfl ?_
      refine sx_iconst (v := 1) (pc2 := 89) hX d_Mo_fires_88 (by decide) rfl ?_
      refine cl_Mo_246 (pc2 := 92) hX hK h  ⟨Nat.le_of_ble_eq_true rfl, Nat.le_of_ble_eq_true rfl⟩ (Nat.le_of_ble_eq_true rfl) d_Mo_fires_89 rfl (fun r18 σ18 τ18 h => ?_)
      refine cl_Mo_280 (pc2 := 95) hX hK h  ⟨Nat.le_of_ble_eq_true rfl, Nat.le_of_ble_eq_true rfl⟩ (Nat.le_of_ble_eq_true rfl) d_Mo_fires_92 rfl (fun σ19 τ19 h => ?_)
      refine sx_goto (tgt := 109) hX d_Mo_fires_95 (by decide) ?_
      exact g_Mo_fires_b109 hX hK hE   v1 (r7 + 1) _ _ h
set_option maxRecDepth 100000 in
set_option maxHeartbeats 4000000 in
theorem c_Mo_fires {l : Launch} {K : sx_K} (hK : kx_F K) (x1 : Int32) (σ : sx_M) (τ : sx_L) (Q : sx_M → sx_L → Prop)  (h : wp_Mo_fires x1 σ τ Q) : Met l y_Mo_fires (sx_wd y_Mo_fires prog_13_method_61_code 5 none) rm_Mo_fires (sx_Pc K [.ref (K.2.2.1 50 0 0), .int x1] σ τ) (sx_Qv K Q) 0 0 (sx_A K) := by
  refine sx_met (by decide) (Nat.le_of_ble_eq_true rfl) (fun X hX hE => ?_)
  replace hX : sx_C X K prog_13_method_61_code 5 "SensorTreeModel" none rm_Mo_fires l := hX
  show sx_G X K 5 0 [(0, .ref (K.2.2.1 50 0 0)), (1, .int x1)] [] (sx_H K σ τ)
  unfold wp_Mo_fires at h
  refine sx_aload_n (pc2 := 1) hX 0 d_Mo_fires_0 rfl rfl rfl ?_
  refine sx_iload_n (pc2 := 2) hX 1 d_Mo_fires_1 rfl rfl rfl ?_
  refine sx_iconst (v := 4) (pc2 := 3) hX d_Mo_fires_2 (by decide) rfl ?_
  refine cl_Mo_246 (pc2 := 6) hX hK h  ⟨Nat.le_of_ble_eq_true rfl, Nat.le_of_ble_eq_true rfl⟩ (Nat.le_of_ble_eq_true rfl) d_Mo_fires_3 rfl (fun r20 σ20 τ20 h => ?_)
  refine sx_istore_n (pc2 := 7) hX _ [(0, .ref (K.2.2.1 50 0 0)), (1, .int x1), (2, .int r20)] [1, 2, 0] d_Mo_fires_6 rfl (by decide) rfl rfl rfl ?_
  refine sx_iload_n (pc2 := 8) hX 2 d_Mo_fires_7 rfl rfl rfl ?_
  refine sx_if_le (tgt := 30) (pc2 := 11) hX d_Mo_fires_8 (by decide) rfl (fun hc21 => ?_) (fun hc21 => ?_)
  · replace h := sx_t h hc21
    refine sx_sub [(0, .ref (K.2.2.1 50 0 0)), (1, .int x1)] [0, 1] rfl ?_
    exact g_Mo_fires_b30 hX hK hE   x1 _ _ h
  · replace h := sx_f h hc21
    refine sx_aload_n (pc2 := 12) hX 0 d_Mo_fires_11 rfl rfl rfl ?_
    refine sx_iload_n (pc2 := 13) hX 1 d_Mo_fires_12 rfl rfl rfl ?_
    refine sx_iconst (v := 4) (pc2 := 14) hX d_Mo_fires_13 (by decide) rfl ?_
    refine sx_iload_n (pc2 := 15) hX 2 d_Mo_fires_14 rfl rfl rfl ?_
    refine sx_iconst (v := 1) (pc2 := 16) hX d_Mo_fires_15 (by decide) rfl ?_
    refine sx_isub (pc2 := 17) hX d_Mo_fires_16 rfl ?_
    refine cl_Mo_229 (pc2 := 20) hX hK h  ⟨Nat.le_of_ble_eq_true rfl, Nat.le_of_ble_eq_true rfl⟩ (Nat.le_of_ble_eq_true rfl) d_Mo_fires_17 rfl (fun σ22 τ22 h => ?_)
    refine sx_iload_n (pc2 := 21) hX 2 d_Mo_fires_20 rfl rfl rfl ?_
    refine sx_iconst (v := 1) (pc2 := 22) hX d_Mo_fires_21 (by decide) rfl ?_
    refine sx_icmp_ne (tgt := 30) (pc2 := 25) hX d_Mo_fires_22 (by decide) rfl (fun hc23 => ?_) (fun hc23 => ?_)
    · replace h := sx_f h hc23
      refine sx_sub [(0, .ref (K.2.2.1 50 0 0)), (1, .int x1)] [0, 1] rfl ?_
      exact g_Mo_fires_b30 hX hK hE   x1 _ _ h
    · replace h := sx_t h hc23
      refine sx_aload_n (pc2 := 26) hX 0 d_Mo_fires_25 rfl rfl rfl ?_
      refine sx_iload_n (pc2 := 27) hX 1 d_Mo_fires_26 rfl rfl rfl ?_
      refine cl_Mo_277 (pc2 := 30) hX hK h  ⟨Nat.le_of_ble_eq_true rfl, Nat.le_of_ble_eq_true rfl⟩ (Nat.le_of_ble_eq_true rfl) d_Mo_fires_27 rfl (fun σ24 τ24 h => ?_)
      refine sx_sub [(0, .ref (K.2.2.1 50 0 0)), (1, .int x1)] [0, 1] rfl ?_
      exact g_Mo_fires_b30 hX hK hE   x1 _ _ h
theorem cl_Mo_299 {X : sx_T} {K : sx_K} {cc : ByteArray} {nL : Nat} {ret : Option FieldType} {rm : Room} {l : Launch} {pc pc2 : Nat} {lv : List (Nat × Value)} {st : List Value} {σ : sx_M} {τ : sx_L} {x1 : Int32} {Q : sx_M → sx_L → Prop} (hX : sx_C X K cc nL "SensorTreeModel" ret rm l) (hK : kx_F K) (h : wp_Mo_fires x1 σ τ Q)  (hR : rm_Mo_fires.frames + 1 ≤ rm.frames ∧ 8 + (5 + 11) + rm_Mo_fires.locals ≤ rm.locals) (hst : (st.map fun v => v.category).sum ≤ 8) (hd : decode cc pc = .ok (.invokevirtual 299, 3)) (hpc : pc + 3 = pc2) (kk : ∀ (σ2 : sx_M) (τ2 : sx_L), Q σ2 τ2 → sx_G X K nL pc2 lv (st) (sx_H K σ2 τ2)) : sx_G X K nL pc lv (.int x1 :: .ref (K.2.2.1 50 0 0) :: st) (sx_H K σ τ) :=
  sx_callVv (Q := Q) (As := [.int x1]) hX (c_Mo_fires hK x1 σ τ Q  h) (kr_50 hK) rfl rfl lk_511 ls_82 hy_Mo_fires lk_509 lk_364 lk_510 ⟨rfl, rfl⟩ hR hst rfl hd hpc kk
def y_Mo_tickGoes : MethodName := ⟨"SensorTreeModel", "tickGoes", "()V"⟩
theorem hy_Mo_tickGoes : y_Mo_tickGoes.cls ≠ "java/lang/invoke/MethodHandle" ∧ y_Mo_tickGoes.cls ≠ "java/lang/invoke/VarHandle" ∧ (parseMethodDescriptor y_Mo_tickGoes.desc).map (fun d => d.parameters.length) = some 0 := by decide +kernel
theorem d_Mo_tickGoes_0 : decode prog_13_method_62_code 0 = .ok (.aload_n 0, 1) := by decide +kernel
theorem d_Mo_tickGoes_1 : decode prog_13_method_62_code 1 = .ok (.invokevirtual 296, 3) := by decide +kernel
theorem d_Mo_tickGoes_4 : decode prog_13_method_62_code 4 = .ok (.iconst 0, 1) := by decide +kernel
theorem d_Mo_tickGoes_5 : decode prog_13_method_62_code 5 = .ok (.istore_n 1, 1) := by decide +kernel
theorem d_Mo_tickGoes_6 : decode prog_13_method_62_code 6 = .ok (.iload_n 1, 1) := by decide +kernel
theorem d_Mo_tickGoes_7 : decode prog_13_method_62_code 7 = .ok (.aload_n 0, 1) := by decide +kernel
theorem d_Mo_tickGoes_8 : decode prog_13_method_62_code 8 = .ok (.getfield 40, 3) := by decide +kernel
theorem d_Mo_tickGoes_11 : decode prog_13_method_62_code 11 = .ok (.aload_n 0, 1) := by decide +kernel
theorem d_Mo_tickGoes_12 : decode prog_13_method_62_code 12 = .ok (.getfield 170, 3) := by decide +kernel
theorem d_Mo_tickGoes_15 : decode prog_13_method_62_code 15 = .ok (.iaload, 1) := by decide +kernel
theorem d_Mo_tickGoes_16 : decode prog_13_method_62_code 16 = .ok (.if_icmp .ge 22, 3) := by decide +kernel
theorem d_Mo_tickGoes_19 : decode prog_13_method_62_code 19 = .ok (.aload_n 0, 1) := by decide +kernel
theorem d_Mo_tickGoes_20 : decode prog_13_method_62_code 20 = .ok (.iload_n 1, 1) := by decide +kernel
theorem d_Mo_tickGoes_21 : decode prog_13_method_62_code 21 = .ok (.invokevirtual 252, 3) := by decide +kernel
theorem d_Mo_tickGoes_24 : decode prog_13_method_62_code 24 = .ok (.ifCond .eq 8, 3) := by decide +kernel
theorem d_Mo_tickGoes_27 : decode prog_13_method_62_code 27 = .ok (.aload_n 0, 1) := by decide +kernel
theorem d_Mo_tickGoes_28 : decode prog_13_method_62_code 28 = .ok (.iload_n 1, 1) := by decide +kernel
theorem d_Mo_tickGoes_29 : decode prog_13_method_62_code 29 = .ok (.invokevirtual 299, 3) := by decide +kernel
theorem d_Mo_tickGoes_32 : decode prog_13_method_62_code 32 = .ok (.iinc 1 1, 3) := by decide +kernel
theorem d_Mo_tickGoes_35 : decode prog_13_method_62_code 35 = .ok (.goto (-29), 3) := by decide +kernel
theorem d_Mo_tickGoes_38 : decode prog_13_method_62_code 38 = .ok (.aload_n 0, 1) := by decide +kernel
theorem d_Mo_tickGoes_39 : decode prog_13_method_62_code 39 = .ok (.bipush 6, 2) := by decide +kernel
theorem d_Mo_tickGoes_41 : decode prog_13_method_62_code 41 = .ok (.invokevirtual 233, 3) := by decide +kernel
theorem d_Mo_tickGoes_44 : decode prog_13_method_62_code 44 = .ok (.istore_n 1, 1) := by decide +kernel
theorem d_Mo_tickGoes_45 : decode prog_13_method_62_code 45 = .ok (.iconst 1, 1) := by decide +kernel
theorem d_Mo_tickGoes_46 : decode prog_13_method_62_code 46 = .ok (.istore_n 2, 1) := by decide +kernel
theorem d_Mo_tickGoes_47 : decode prog_13_method_62_code 47 = .ok (.iload_n 2, 1) := by decide +kernel
theorem d_Mo_tickGoes_48 : decode prog_13_method_62_code 48 = .ok (.aload_n 0, 1) := by decide +kernel
theorem d_Mo_tickGoes_49 : decode prog_13_method_62_code 49 = .ok (.getfield 40, 3) := by decide +kernel
theorem d_Mo_tickGoes_52 : decode prog_13_method_62_code 52 = .ok (.aload_n 0, 1) := by decide +kernel
theorem d_Mo_tickGoes_53 : decode prog_13_method_62_code 53 = .ok (.getfield 170, 3) := by decide +kernel
theorem d_Mo_tickGoes_56 : decode prog_13_method_62_code 56 = .ok (.iaload, 1) := by decide +kernel
theorem d_Mo_tickGoes_57 : decode prog_13_method_62_code 57 = .ok (.if_icmp .ge 45, 3) := by decide +kernel
theorem d_Mo_tickGoes_60 : decode prog_13_method_62_code 60 = .ok (.aload_n 0, 1) := by decide +kernel
theorem d_Mo_tickGoes_61 : decode prog_13_method_62_code 61 = .ok (.iload_n 2, 1) := by decide +kernel
theorem d_Mo_tickGoes_62 : decode prog_13_method_62_code 62 = .ok (.invokevirtual 252, 3) := by decide +kernel
theorem d_Mo_tickGoes_65 : decode prog_13_method_62_code 65 = .ok (.ifCond .eq 31, 3) := by decide +kernel
theorem d_Mo_tickGoes_68 : decode prog_13_method_62_code 68 = .ok (.aload_n 0, 1) := by decide +kernel
theorem d_Mo_tickGoes_69 : decode prog_13_method_62_code 69 = .ok (.iload_n 2, 1) := by decide +kernel
theorem d_Mo_tickGoes_70 : decode prog_13_method_62_code 70 = .ok (.iconst 2, 1) := by decide +kernel
theorem d_Mo_tickGoes_71 : decode prog_13_method_62_code 71 = .ok (.invokevirtual 246, 3) := by decide +kernel
theorem d_Mo_tickGoes_74 : decode prog_13_method_62_code 74 = .ok (.ifCond .lt 22, 3) := by decide +kernel
theorem d_Mo_tickGoes_77 : decode prog_13_method_62_code 77 = .ok (.aload_n 0, 1) := by decide +kernel
theorem d_Mo_tickGoes_78 : decode prog_13_method_62_code 78 = .ok (.getfield 71, 3) := by decide +kernel
theorem d_Mo_tickGoes_81 : decode prog_13_method_62_code 81 = .ok (.iconst 0, 1) := by decide +kernel
theorem d_Mo_tickGoes_82 : decode prog_13_method_62_code 82 = .ok (.iaload, 1) := by decide +kernel
theorem d_Mo_tickGoes_83 : decode prog_13_method_62_code 83 = .ok (.iload_n 1, 1) := by decide +kernel
theorem d_Mo_tickGoes_84 : decode prog_13_method_62_code 84 = .ok (.irem, 1) := by decide +kernel
theorem d_Mo_tickGoes_85 : decode prog_13_method_62_code 85 = .ok (.iload_n 2, 1) := by decide +kernel
theorem d_Mo_tickGoes_86 : decode prog_13_method_62_code 86 = .ok (.iload_n 1, 1) := by decide +kernel
theorem d_Mo_tickGoes_87 : decode prog_13_method_62_code 87 = .ok (.irem, 1) := by decide +kernel
theorem d_Mo_tickGoes_88 : decode prog_13_method_62_code 88 = .ok (.if_icmp .ne 8, 3) := by decide +kernel
theorem d_Mo_tickGoes_91 : decode prog_13_method_62_code 91 = .ok (.aload_n 0, 1) := by decide +kernel
theorem d_Mo_tickGoes_92 : decode prog_13_method_62_code 92 = .ok (.iload_n 2, 1) := by decide +kernel
theorem d_Mo_tickGoes_93 : decode prog_13_method_62_code 93 = .ok (.invokevirtual 293, 3) := by decide +kernel
theorem d_Mo_tickGoes_96 : decode prog_13_method_62_code 96 = .ok (.iinc 2 1, 3) := by decide +kernel
theorem d_Mo_tickGoes_99 : decode prog_13_method_62_code 99 = .ok (.goto (-52), 3) := by decide +kernel
theorem d_Mo_tickGoes_102 : decode prog_13_method_62_code 102 = .ok (.aload_n 0, 1) := by decide +kernel
theorem d_Mo_tickGoes_103 : decode prog_13_method_62_code 103 = .ok (.getfield 71, 3) := by decide +kernel
theorem d_Mo_tickGoes_106 : decode prog_13_method_62_code 106 = .ok (.iconst 0, 1) := by decide +kernel
theorem d_Mo_tickGoes_107 : decode prog_13_method_62_code 107 = .ok (.dup2, 1) := by decide +kernel
theorem d_Mo_tickGoes_108 : decode prog_13_method_62_code 108 = .ok (.iaload, 1) := by decide +kernel
theorem d_Mo_tickGoes_109 : decode prog_13_method_62_code 109 = .ok (.iconst 1, 1) := by decide +kernel
theorem d_Mo_tickGoes_110 : decode prog_13_method_62_code 110 = .ok (.iadd, 1) := by decide +kernel
theorem d_Mo_tickGoes_111 : decode prog_13_method_62_code 111 = .ok (.iastore, 1) := by decide +kernel
theorem d_Mo_tickGoes_112 : decode prog_13_method_62_code 112 = .ok (.return_, 1) := by decide +kernel
def wp_Mo_tickGoes_b96  (k47 : Int32 → Int32 → sx_M → sx_L → Prop) (Q : sx_M → sx_L → Prop) (v1 : Int32) (v2 : Int32) (σ : sx_M) (τ : sx_L) : Prop := k47 v1 (v2 + 1) σ τ
def wp_Mo_tickGoes_b47   (Q : sx_M → sx_L → Prop) : Nat → Int32 → Int32 → sx_M → sx_L → Prop
  | 0, _, _, _, _ => False
  | f + 1, v1, v2, σ, τ => vp_in (σ 50 0 0 17) 2 ∧ (if σ 58 0 0 (σ 50 0 0 17).toNatClampNeg ≤ v2 then (vp_in 0 643 ∧ (vp_in 0 643 ∧ (∀ σ5 : sx_M, σ5 = sx_u σ 68 0 0 (0 : Int32).toNatClampNeg ((σ 68 0 0 (0 : Int32).toNatClampNeg) + 1) → (Q σ5 τ)))) else (wp_Mo_isOn v2 σ τ (fun r6 σ6 τ6 => if r6 = 0 then (wp_Mo_tickGoes_b96 (wp_Mo_tickGoes_b47 Q f) Q v1 v2 σ6 τ6) else (wp_Mo_of v2 (2 : Int32) σ6 τ6 (fun r8 σ8 τ8 => if r8 < 0 then (wp_Mo_tickGoes_b96 (wp_Mo_tickGoes_b47 Q f) Q v1 v2 σ8 τ8) else (vp_in 0 643 ∧ (¬ v1 = 0 ∧ (¬ v1 = 0 ∧ (if (σ8 68 0 0 (0 : Int32).toNatClampNeg) - (σ8 68 0 0 (0 : Int32).toNatClampNeg) / v1 * v1 = v2 - v2 / v1 * v1 then (wp_Mo_reports v2 σ8 τ8 (fun σ14 τ14 => wp_Mo_tickGoes_b96 (wp_Mo_tickGoes_b47 Q f) Q v1 v2 σ14 τ14)) else (wp_Mo_tickGoes_b96 (wp_Mo_tickGoes_b47 Q f) Q v1 v2 σ8 τ8))))))))))
def wp_Mo_tickGoes_b32  (k6 : Int32 → sx_M → sx_L → Prop) (Q : sx_M → sx_L → Prop) (v1 : Int32) (σ : sx_M) (τ : sx_L) : Prop := k6 (v1 + 1) σ τ
def wp_Mo_tickGoes_b6   (Q : sx_M → sx_L → Prop) : Nat → Int32 → sx_M → sx_L → Prop
  | 0, _, _, _ => False
  | f + 1, v1, σ, τ => vp_in (σ 50 0 0 17) 2 ∧ (if σ 58 0 0 (σ 50 0 0 17).toNatClampNeg ≤ v1 then (wp_Mo_setting (6 : Int32) σ τ (fun r17 σ17 τ17 => ∃ f47, wp_Mo_tickGoes_b47 Q f47 r17 1 σ17 τ17)) else (wp_Mo_isOn v1 σ τ (fun r18 σ18 τ18 => if r18 = 0 then (wp_Mo_tickGoes_b32 (wp_Mo_tickGoes_b6 Q f) Q v1 σ18 τ18) else (wp_Mo_fires v1 σ18 τ18 (fun σ20 τ20 => wp_Mo_tickGoes_b32 (wp_Mo_tickGoes_b6 Q f) Q v1 σ20 τ20)))))
def wp_Mo_tickGoes  (σ : sx_M) (τ : sx_L) (Q : sx_M → sx_L → Prop) : Prop := wp_Mo_allCome σ τ (fun σ21 τ21 => ∃ f6, wp_Mo_tickGoes_b6 Q f6 0 σ21 τ21)
abbrev rm_Mo_tickGoes : Room := { frames := 7, cells := 0, slots := 0, locals := 165 }
set_option maxRecDepth 100000 in
set_option maxHeartbeats 4000000 in
theorem g_Mo_tickGoes_b96 {l : Launch} {K : sx_K} {X : sx_T}  {k47 : Int32 → Int32 → sx_M → sx_L → Prop} {Q : sx_M → sx_L → Prop} (hX : sx_C X K prog_13_method_62_code 3 "SensorTreeModel" none rm_Mo_tickGoes l) (hK : kx_F K) (hE : sx_E X K (sx_Qv K Q))  (hk47 : ∀ (v1 : Int32) (v2 : Int32) (σ : sx_M) (τ : sx_L) , k47 v1 v2 σ τ → sx_G X K 3 47 [(0, .ref (K.2.2.1 50 0 0)), (1, .int v1), (2, .int v2)] [] (sx_H K σ τ)) (v1 : Int32) (v2 : Int32) (σ : sx_M) (τ : sx_L)  (h : wp_Mo_tickGoes_b96 k47 Q  v1 v2 σ τ) : sx_G X K 3 96 [(0, .ref (K.2.2.1 50 0 0)), (1, .int v1), (2, .int v2)] [] (sx_H K σ τ) := by
  unfold wp_Mo_tickGoes_b96 at h
  refine sx_iinc (pc2 := 99) hX 2 _ [(0, .ref (K.2.2.1 50 0 0)), (1, .int v1), (2, .int (v2 + 1))] [1, 2, 0] d_Mo_tickGoes_96 rfl (v2 + 1) rfl (by decide) rfl rfl rfl ?_
  refine sx_goto (tgt := 47) hX d_Mo_tickGoes_99 (by decide) ?_
  exact hk47 v1 (v2 + 1) _ _ h
set_option maxRecDepth 100000 in
set_option maxHeartbeats 4000000 in
theorem g_Mo_tickGoes_b47 {l : Launch} {K : sx_K} {X : sx_T}   {Q : sx_M → sx_L → Prop} (hX : sx_C X K prog_13_method_62_code 3 "SensorTreeModel" none rm_Mo_tickGoes l) (hK : kx_F K) (hE : sx_E X K (sx_Qv K Q))  : ∀ (f : Nat) (v1 : Int32) (v2 : Int32) (σ : sx_M) (τ : sx_L) , wp_Mo_tickGoes_b47 Q f v1 v2 σ τ → sx_G X K 3 47 [(0, .ref (K.2.2.1 50 0 0)), (1, .int v1), (2, .int v2)] [] (sx_H K σ τ) := by
  intro f
  induction f with
  | zero => intro v1 v2 σ τ h; exact (show False from h).elim
  | succ f ih =>
    intro v1 v2 σ τ h
    rw [wp_Mo_tickGoes_b47] at h
    refine sx_iload_n (pc2 := 48) hX 2 d_Mo_tickGoes_47 rfl rfl rfl ?_
    refine sx_aload_n (pc2 := 49) hX 0 d_Mo_tickGoes_48 rfl rfl rfl ?_
    refine fg_Mo_40 (pc2 := 52) hX (kr_50 hK) d_Mo_tickGoes_49 rfl ?_
    refine sx_aload_n (pc2 := 53) hX 0 d_Mo_tickGoes_52 rfl rfl rfl ?_
    refine fg_Mo_170 (pc2 := 56) hX (kr_50 hK) d_Mo_tickGoes_53 rfl ?_
    obtain ⟨hc1, h⟩ := h
    refine sx_iald (pc2 := 57) hX (kr_58 hK) rfl hc1 d_Mo_tickGoes_56 rfl ?_
    refine sx_icmp_ge (tgt := 102) (pc2 := 60) hX d_Mo_tickGoes_57 (by decide) rfl (fun hc2 => ?_) (fun hc2 => ?_)
    · replace h := sx_t h hc2
      refine sx_aload_n (pc2 := 103) hX 0 d_Mo_tickGoes_102 rfl rfl rfl ?_
      refine fg_Mo_71 (pc2 := 106) hX (kr_50 hK) d_Mo_tickGoes_103 rfl ?_
      refine sx_iconst (v := 0) (pc2 := 107) hX d_Mo_tickGoes_106 (by decide) rfl ?_
      refine sx_dup2 (pc2 := 108) hX d_Mo_tickGoes_107 rfl rfl rfl ?_
      obtain ⟨hc3, h⟩ := h
      refine sx_iald (pc2 := 109) hX (kr_68 hK) rfl hc3 d_Mo_tickGoes_108 rfl ?_
      refine sx_iconst (v := 1) (pc2 := 110) hX d_Mo_tickGoes_109 (by decide) rfl ?_
      refine sx_iadd (pc2 := 111) hX d_Mo_tickGoes_110 rfl ?_
      obtain ⟨hc4, h⟩ := h
      refine sx_iast (pc2 := 112) hX (kr_68 hK) (fun _ => rfl) hc4 d_Mo_tickGoes_111 rfl ?_
      refine sx_nm (fun σ5 e5 => ?_)
      replace h := h σ5 e5
      exact sx_vret hX hE h d_Mo_tickGoes_112
    · replace h := sx_f h hc2
      refine sx_aload_n (pc2 := 61) hX 0 d_Mo_tickGoes_60 rfl rfl rfl ?_
      refine sx_iload_n (pc2 := 62) hX 2 d_Mo_tickGoes_61 rfl rfl rfl ?_
      refine cl_Mo_252 (pc2 := 65) hX hK h  ⟨Nat.le_of_ble_eq_true rfl, Nat.le_of_ble_eq_true rfl⟩ (Nat.le_of_ble_eq_true rfl) d_Mo_tickGoes_62 rfl (fun r6 σ6 τ6 h => ?_)
      refine sx_if_eq (tgt := 96) (pc2 := 68) hX d_Mo_tickGoes_65 (by decide) rfl (fun hc7 => ?_) (fun hc7 => ?_)
      · replace h := sx_t h hc7
        exact g_Mo_tickGoes_b96 hX hK hE  ih v1 v2 _ _ h
      · replace h := sx_f h hc7
        refine sx_aload_n (pc2 := 69) hX 0 d_Mo_tickGoes_68 rfl rfl rfl ?_
        refine sx_iload_n (pc2 := 70) hX 2 d_Mo_tickGoes_69 rfl rfl rfl ?_
        refine sx_iconst (v := 2) (pc2 := 71) hX d_Mo_tickGoes_70 (by decide) rfl ?_
        refine cl_Mo_246 (pc2 := 74) hX hK h  ⟨Nat.le_of_ble_eq_true rfl, Nat.le_of_ble_eq_true rfl⟩ (Nat.le_of_ble_eq_true rfl) d_Mo_tickGoes_71 rfl (fun r8 σ8 τ8 h => ?_)
        refine sx_if_lt (tgt := 96) (pc2 := 77) hX d_Mo_tickGoes_74 (by decide) rfl (fun hc9 => ?_) (fun hc9 => ?_)
        · replace h := sx_t h hc9
          exact g_Mo_tickGoes_b96 hX hK hE  ih v1 v2 _ _ h
        · replace h := sx_f h hc9
          refine sx_aload_n (pc2 := 78) hX 0 d_Mo_tickGoes_77 rfl rfl rfl ?_
          refine fg_Mo_71 (pc2 := 81) hX (kr_50 hK) d_Mo_tickGoes_78 rfl ?_
          refine sx_iconst (v := 0) (pc2 := 82) hX d_Mo_tickGoes_81 (by decide) rfl ?_
          obtain ⟨hc10, h⟩ := h
          refine sx_iald (pc2 := 83) hX (kr_68 hK) rfl hc10 d_Mo_tickGoes_82 rfl ?_
          refine sx_iload_n (pc2 := 84) hX 1 d_Mo_tickGoes_83 rfl rfl rfl ?_
          obtain ⟨hc11, h⟩ := h
          refine sx_irem (pc2 := 85) hX d_Mo_tickGoes_84 hc11 rfl ?_
          refine sx_iload_n (pc2 := 86) hX 2 d_Mo_tickGoes_85 rfl rfl rfl ?_
          refine sx_iload_n (pc2 := 87) hX 1 d_Mo_tickGoes_86 rfl rfl rfl ?_
          obtain ⟨hc12, h⟩ := h
          refine sx_irem (pc2 := 88) hX d_Mo_tickGoes_87 hc12 rfl ?_
          refine sx_icmp_ne (tgt := 96) (pc2 := 91) hX d_Mo_tickGoes_88 (by decide) rfl (fun hc13 => ?_) (fun hc13 => ?_)
          · replace h := sx_f h hc13
            exact g_Mo_tickGoes_b96 hX hK hE  ih v1 v2 _ _ h
          · replace h := sx_t h hc13
            refine sx_aload_n (pc2 := 92) hX 0 d_Mo_tickGoes_91 rfl rfl rfl ?_
            refine sx_iload_n (pc2 := 93) hX 2 d_Mo_tickGoes_92 rfl rfl rfl ?_
            refine cl_Mo_293 (pc2 := 96) hX hK h  ⟨Nat.le_of_ble_eq_true rfl, Nat.le_of_ble_eq_true rfl⟩ (Nat.le_of_ble_eq_true rfl) d_Mo_tickGoes_93 rfl (fun σ14 τ14 h => ?_)
            exact g_Mo_tickGoes_b96 hX hK hE  ih v1 v2 _ _ h
set_option maxRecDepth 100000 in
set_option maxHeartbeats 4000000 in
theorem g_Mo_tickGoes_b32 {l : Launch} {K : sx_K} {X : sx_T}  {k6 : Int32 → sx_M → sx_L → Prop} {Q : sx_M → sx_L → Prop} (hX : sx_C X K prog_13_method_62_code 3 "SensorTreeModel" none rm_Mo_tickGoes l) (hK : kx_F K) (hE : sx_E X K (sx_Qv K Q))  (hk6 : ∀ (v1 : Int32) (σ : sx_M) (τ : sx_L) , k6 v1 σ τ → sx_G X K 3 6 [(0, .ref (K.2.2.1 50 0 0)), (1, .int v1)] [] (sx_H K σ τ)) (v1 : Int32) (σ : sx_M) (τ : sx_L)  (h : wp_Mo_tickGoes_b32 k6 Q  v1 σ τ) : sx_G X K 3 32 [(0, .ref (K.2.2.1 50 0 0)), (1, .int v1)] [] (sx_H K σ τ) := by
  unfold wp_Mo_tickGoes_b32 at h
  refine sx_iinc (pc2 := 35) hX 1 _ [(0, .ref (K.2.2.1 50 0 0)), (1, .int (v1 + 1))] [1, 0] d_Mo_tickGoes_32 rfl (v1 + 1) rfl (by decide) rfl rfl rfl ?_
  refine sx_goto (tgt := 6) hX d_Mo_tickGoes_35 (by decide) ?_
  exact hk6 (v1 + 1) _ _ h
set_option maxRecDepth 100000 in
set_option maxHeartbeats 4000000 in
theorem g_Mo_tickGoes_b6 {l : Launch} {K : sx_K} {X : sx_T}   {Q : sx_M → sx_L → Prop} (hX : sx_C X K prog_13_method_62_code 3 "SensorTreeModel" none rm_Mo_tickGoes l) (hK : kx_F K) (hE : sx_E X K (sx_Qv K Q))  : ∀ (f : Nat) (v1 : Int32) (σ : sx_M) (τ : sx_L) , wp_Mo_tickGoes_b6 Q f v1 σ τ → sx_G X K 3 6 [(0, .ref (K.2.2.1 50 0 0)), (1, .int v1)] [] (sx_H K σ τ) := by
  intro f
  induction f with
  | zero => intro v1 σ τ h; exact (show False from h).elim
  | succ f ih =>
    intro v1 σ τ h
    rw [wp_Mo_tickGoes_b6] at h
    refine sx_iload_n (pc2 := 7) hX 1 d_Mo_tickGoes_6 rfl rfl rfl ?_
    refine sx_aload_n (pc2 := 8) hX 0 d_Mo_tickGoes_7 rfl rfl rfl ?_
    refine fg_Mo_40 (pc2 := 11) hX (kr_50 hK) d_Mo_tickGoes_8 rfl ?_
    refine sx_aload_n (pc2 := 12) hX 0 d_Mo_tickGoes_11 rfl rfl rfl ?_
    refine fg_Mo_170 (pc2 := 15) hX (kr_50 hK) d_Mo_tickGoes_12 rfl ?_
    obtain ⟨hc15, h⟩ := h
    refine sx_iald (pc2 := 16) hX (kr_58 hK) rfl hc15 d_Mo_tickGoes_15 rfl ?_
    refine sx_icmp_ge (tgt := 38) (pc2 := 19) hX d_Mo_tickGoes_16 (by decide) rfl (fun hc16 => ?_) (fun hc16 => ?_)
    · replace h := sx_t h hc16
      refine sx_aload_n (pc2 := 39) hX 0 d_Mo_tickGoes_38 rfl rfl rfl ?_
      refine sx_bipush (v := 6) (pc2 := 41) hX d_Mo_tickGoes_39 (by decide) rfl ?_
      refine cl_Mo_233 (pc2 := 44) hX hK h  ⟨Nat.le_of_ble_eq_true rfl, Nat.le_of_ble_eq_true rfl⟩ (Nat.le_of_ble_eq_true rfl) d_Mo_tickGoes_41 rfl (fun r17 σ17 τ17 h => ?_)
      refine sx_istore_n (pc2 := 45) hX _ [(0, .ref (K.2.2.1 50 0 0)), (1, .int r17)] [1, 0] d_Mo_tickGoes_44 rfl (by decide) rfl rfl rfl ?_
      refine sx_iconst (v := 1) (pc2 := 46) hX d_Mo_tickGoes_45 (by decide) rfl ?_
      refine sx_istore_n (pc2 := 47) hX _ [(0, .ref (K.2.2.1 50 0 0)), (1, .int r17), (2, .int 1)] [1, 2, 0] d_Mo_tickGoes_46 rfl (by decide) rfl rfl rfl ?_
      obtain ⟨f47, h⟩ := h
      exact g_Mo_tickGoes_b47 hX hK hE   f47 r17 1 _ _ h
    · replace h := sx_f h hc16
      refine sx_aload_n (pc2 := 20) hX 0 d_Mo_tickGoes_19 rfl rfl rfl ?_
      refine sx_iload_n (pc2 := 21) hX 1 d_Mo_tickGoes_20 rfl rfl rfl ?_
      refine cl_Mo_252 (pc2 := 24) hX hK h  ⟨Nat.le_of_ble_eq_true rfl, Nat.le_of_ble_eq_true rfl⟩ (Nat.le_of_ble_eq_true rfl) d_Mo_tickGoes_21 rfl (fun r18 σ18 τ18 h => ?_)
      refine sx_if_eq (tgt := 32) (pc2 := 27) hX d_Mo_tickGoes_24 (by decide) rfl (fun hc19 => ?_) (fun hc19 => ?_)
      · replace h := sx_t h hc19
        exact g_Mo_tickGoes_b32 hX hK hE  ih v1 _ _ h
      · replace h := sx_f h hc19
        refine sx_aload_n (pc2 := 28) hX 0 d_Mo_tickGoes_27 rfl rfl rfl ?_
        refine sx_iload_n (pc2 := 29) hX 1 d_Mo_tickGoes_28 rfl rfl rfl ?_
        refine cl_Mo_299 (pc2 := 32) hX hK h  ⟨Nat.le_of_ble_eq_true rfl, Nat.le_of_ble_eq_true rfl⟩ (Nat.le_of_ble_eq_true rfl) d_Mo_tickGoes_29 rfl (fun σ20 τ20 h => ?_)
        exact g_Mo_tickGoes_b32 hX hK hE  ih v1 _ _ h
set_option maxRecDepth 100000 in
set_option maxHeartbeats 4000000 in
theorem c_Mo_tickGoes {l : Launch} {K : sx_K} (hK : kx_F K)  (σ : sx_M) (τ : sx_L) (Q : sx_M → sx_L → Prop)  (h : wp_Mo_tickGoes σ τ Q) : Met l y_Mo_tickGoes (sx_wd y_Mo_tickGoes prog_13_method_62_code 3 none) rm_Mo_tickGoes (sx_Pc K [.ref (K.2.2.1 50 0 0)] σ τ) (sx_Qv K Q) 0 0 (sx_A K) := by
  refine sx_met (by decide) (Nat.le_of_ble_eq_true rfl) (fun X hX hE => ?_)
  replace hX : sx_C X K prog_13_method_62_code 3 "SensorTreeModel" none rm_Mo_tickGoes l := hX
  show sx_G X K 3 0 [(0, .ref (K.2.2.1 50 0 0))] [] (sx_H K σ τ)
  unfold wp_Mo_tickGoes at h
  refine sx_aload_n (pc2 := 1) hX 0 d_Mo_tickGoes_0 rfl rfl rfl ?_
  refine cl_Mo_296 (pc2 := 4) hX hK h  ⟨Nat.le_of_ble_eq_true rfl, Nat.le_of_ble_eq_true rfl⟩ (Nat.le_of_ble_eq_true rfl) d_Mo_tickGoes_1 rfl (fun σ21 τ21 h => ?_)
  refine sx_iconst (v := 0) (pc2 := 5) hX d_Mo_tickGoes_4 (by decide) rfl ?_
  refine sx_istore_n (pc2 := 6) hX _ [(0, .ref (K.2.2.1 50 0 0)), (1, .int 0)] [1, 0] d_Mo_tickGoes_5 rfl (by decide) rfl rfl rfl ?_
  obtain ⟨f6, h⟩ := h
  exact g_Mo_tickGoes_b6 hX hK hE   f6 0 _ _ h
theorem cl_Mo_302 {X : sx_T} {K : sx_K} {cc : ByteArray} {nL : Nat} {ret : Option FieldType} {rm : Room} {l : Launch} {pc pc2 : Nat} {lv : List (Nat × Value)} {st : List Value} {σ : sx_M} {τ : sx_L}  {Q : sx_M → sx_L → Prop} (hX : sx_C X K cc nL "SensorTreeModel" ret rm l) (hK : kx_F K) (h : wp_Mo_tickGoes  σ τ Q)  (hR : rm_Mo_tickGoes.frames + 1 ≤ rm.frames ∧ 8 + (3 + 11) + rm_Mo_tickGoes.locals ≤ rm.locals) (hst : (st.map fun v => v.category).sum ≤ 8) (hd : decode cc pc = .ok (.invokevirtual 302, 3)) (hpc : pc + 3 = pc2) (kk : ∀ (σ2 : sx_M) (τ2 : sx_L), Q σ2 τ2 → sx_G X K nL pc2 lv (st) (sx_H K σ2 τ2)) : sx_G X K nL pc lv (.ref (K.2.2.1 50 0 0) :: st) (sx_H K σ τ) :=
  sx_callVv (Q := Q) (As := []) hX (c_Mo_tickGoes hK  σ τ Q  h) (kr_50 hK) rfl rfl lk_517 ls_65 hy_Mo_tickGoes lk_515 lk_364 lk_516 ⟨rfl, rfl⟩ hR hst rfl hd hpc kk
def y_Mo_goes : MethodName := ⟨"SensorTreeModel", "goes", "(I)V"⟩
theorem hy_Mo_goes : y_Mo_goes.cls ≠ "java/lang/invoke/MethodHandle" ∧ y_Mo_goes.cls ≠ "java/lang/invoke/VarHandle" ∧ (parseMethodDescriptor y_Mo_goes.desc).map (fun d => d.parameters.length) = some 1 := by decide +kernel
theorem d_Mo_goes_0 : decode prog_13_method_63_code 0 = .ok (.iconst 0, 1) := by decide +kernel
theorem d_Mo_goes_1 : decode prog_13_method_63_code 1 = .ok (.istore_n 2, 1) := by decide +kernel
theorem d_Mo_goes_2 : decode prog_13_method_63_code 2 = .ok (.iload_n 2, 1) := by decide +kernel
theorem d_Mo_goes_3 : decode prog_13_method_63_code 3 = .ok (.iload_n 1, 1) := by decide +kernel
theorem d_Mo_goes_4 : decode prog_13_method_63_code 4 = .ok (.if_icmp .ge 13, 3) := by decide +kernel
theorem d_Mo_goes_7 : decode prog_13_method_63_code 7 = .ok (.aload_n 0, 1) := by decide +kernel
theorem d_Mo_goes_8 : decode prog_13_method_63_code 8 = .ok (.invokevirtual 302, 3) := by decide +kernel
theorem d_Mo_goes_11 : decode prog_13_method_63_code 11 = .ok (.iinc 2 1, 3) := by decide +kernel
theorem d_Mo_goes_14 : decode prog_13_method_63_code 14 = .ok (.goto (-12), 3) := by decide +kernel
theorem d_Mo_goes_17 : decode prog_13_method_63_code 17 = .ok (.return_, 1) := by decide +kernel
def wp_Mo_goes_b2   (Q : sx_M → sx_L → Prop) : Nat → Int32 → Int32 → sx_M → sx_L → Prop
  | 0, _, _, _, _ => False
  | f + 1, v1, v2, σ, τ => if v1 ≤ v2 then (Q σ τ) else (wp_Mo_tickGoes σ τ (fun σ2 τ2 => wp_Mo_goes_b2 Q f v1 (v2 + 1) σ2 τ2))
def wp_Mo_goes (x1 : Int32) (σ : sx_M) (τ : sx_L) (Q : sx_M → sx_L → Prop) : Prop := ∃ f2, wp_Mo_goes_b2 Q f2 x1 0 σ τ
abbrev rm_Mo_goes : Room := { frames := 8, cells := 0, slots := 0, locals := 187 }
set_option maxRecDepth 100000 in
set_option maxHeartbeats 4000000 in
theorem g_Mo_goes_b2 {l : Launch} {K : sx_K} {X : sx_T}   {Q : sx_M → sx_L → Prop} (hX : sx_C X K prog_13_method_63_code 3 "SensorTreeModel" none rm_Mo_goes l) (hK : kx_F K) (hE : sx_E X K (sx_Qv K Q))  : ∀ (f : Nat) (v1 : Int32) (v2 : Int32) (σ : sx_M) (τ : sx_L) , wp_Mo_goes_b2 Q f v1 v2 σ τ → sx_G X K 3 2 [(0, .ref (K.2.2.1 50 0 0)), (1, .int v1), (2, .int v2)] [] (sx_H K σ τ) := by
  intro f
  induction f with
  | zero => intro v1 v2 σ τ h; exact (show False from h).elim
  | succ f ih =>
    intro v1 v2 σ τ h
    rw [wp_Mo_goes_b2] at h
    refine sx_iload_n (pc2 := 3) hX 2 d_Mo_goes_2 rfl rfl rfl ?_
    refine sx_iload_n (pc2 := 4) hX 1 d_Mo_goes_3 rfl rfl rfl ?_
    refine sx_icmp_ge (tgt := 17) (pc2 := 7) hX d_Mo_goes_4 (by decide) rfl (fun hc1 => ?_) (fun hc1 => ?_)
    · replace h := sx_t h hc1
      exact sx_vret hX hE h d_Mo_goes_17
    · replace h := sx_f h hc1
      refine sx_aload_n (pc2 := 8) hX 0 d_Mo_goes_7 rfl rfl rfl ?_
      refine cl_Mo_302 (pc2 := 11) hX hK h  ⟨Nat.le_of_ble_eq_true rfl, Nat.le_of_ble_eq_true rfl⟩ (Nat.le_of_ble_eq_true rfl) d_Mo_goes_8 rfl (fun σ2 τ2 h => ?_)
      refine sx_iinc (pc2 := 14) hX 2 _ [(0, .ref (K.2.2.1 50 0 0)), (1, .int v1), (2, .int (v2 + 1))] [1, 2, 0] d_Mo_goes_11 rfl (v2 + 1) rfl (by decide) rfl rfl rfl ?_
      refine sx_goto (tgt := 2) hX d_Mo_goes_14 (by decide) ?_
      exact ih v1 (v2 + 1) _ _ h
set_option maxRecDepth 100000 in
set_option maxHeartbeats 4000000 in
theorem c_Mo_goes {l : Launch} {K : sx_K} (hK : kx_F K) (x1 : Int32) (σ : sx_M) (τ : sx_L) (Q : sx_M → sx_L → Prop)  (h : wp_Mo_goes x1 σ τ Q) : Met l y_Mo_goes (sx_wd y_Mo_goes prog_13_method_63_code 3 none) rm_Mo_goes (sx_Pc K [.ref (K.2.2.1 50 0 0), .int x1] σ τ) (sx_Qv K Q) 0 0 (sx_A K) := by
  refine sx_met (by decide) (Nat.le_of_ble_eq_true rfl) (fun X hX hE => ?_)
  replace hX : sx_C X K prog_13_method_63_code 3 "SensorTreeModel" none rm_Mo_goes l := hX
  show sx_G X K 3 0 [(0, .ref (K.2.2.1 50 0 0)), (1, .int x1)] [] (sx_H K σ τ)
  unfold wp_Mo_goes at h
  refine sx_iconst (v := 0) (pc2 := 1) hX d_Mo_goes_0 (by decide) rfl ?_
  refine sx_istore_n (pc2 := 2) hX _ [(0, .ref (K.2.2.1 50 0 0)), (1, .int x1), (2, .int 0)] [1, 2, 0] d_Mo_goes_1 rfl (by decide) rfl rfl rfl ?_
  obtain ⟨f2, h⟩ := h
  exact g_Mo_goes_b2 hX hK hE   f2 x1 0 _ _ h
theorem cl_Mo_323 {X : sx_T} {K : sx_K} {cc : ByteArray} {nL : Nat} {ret : Option FieldType} {rm : Room} {l : Launch} {pc pc2 : Nat} {lv : List (Nat × Value)} {st : List Value} {σ : sx_M} {τ : sx_L} {x1 : Int32} {Q : sx_M → sx_L → Prop} (hX : sx_C X K cc nL "SensorTreeModel" ret rm l) (hK : kx_F K) (h : wp_Mo_goes x1 σ τ Q)  (hR : rm_Mo_goes.frames + 1 ≤ rm.frames ∧ 8 + (3 + 11) + rm_Mo_goes.locals ≤ rm.locals) (hst : (st.map fun v => v.category).sum ≤ 8) (hd : decode cc pc = .ok (.invokevirtual 323, 3)) (hpc : pc + 3 = pc2) (kk : ∀ (σ2 : sx_M) (τ2 : sx_L), Q σ2 τ2 → sx_G X K nL pc2 lv (st) (sx_H K σ2 τ2)) : sx_G X K nL pc lv (.int x1 :: .ref (K.2.2.1 50 0 0) :: st) (sx_H K σ τ) :=
  sx_callVv (Q := Q) (As := [.int x1]) hX (c_Mo_goes hK x1 σ τ Q  h) (kr_50 hK) rfl rfl lk_529 ls_64 hy_Mo_goes lk_527 lk_364 lk_528 ⟨rfl, rfl⟩ hR hst rfl hd hpc kk
def y_Mo_sends : MethodName := ⟨"SensorTreeModel", "sends", "(II)I"⟩
theorem hy_Mo_sends : y_Mo_sends.cls ≠ "java/lang/invoke/MethodHandle" ∧ y_Mo_sends.cls ≠ "java/lang/invoke/VarHandle" ∧ (parseMethodDescriptor y_Mo_sends.desc).map (fun d => d.parameters.length) = some 2 := by decide +kernel
theorem d_Mo_sends_0 : decode prog_13_method_64_code 0 = .ok (.iload_n 1, 1) := by decide +kernel
theorem d_Mo_sends_1 : decode prog_13_method_64_code 1 = .ok (.istore_n 3, 1) := by decide +kernel
theorem d_Mo_sends_2 : decode prog_13_method_64_code 2 = .ok (.iconst (-1), 1) := by decide +kernel
theorem d_Mo_sends_3 : decode prog_13_method_64_code 3 = .ok (.istore 4, 2) := by decide +kernel
theorem d_Mo_sends_5 : decode prog_13_method_64_code 5 = .ok (.aload_n 0, 1) := by decide +kernel
theorem d_Mo_sends_6 : decode prog_13_method_64_code 6 = .ok (.iconst 0, 1) := by decide +kernel
theorem d_Mo_sends_7 : decode prog_13_method_64_code 7 = .ok (.putfield 305, 3) := by decide +kernel
theorem d_Mo_sends_10 : decode prog_13_method_64_code 10 = .ok (.aload_n 0, 1) := by decide +kernel
theorem d_Mo_sends_11 : decode prog_13_method_64_code 11 = .ok (.iconst 0, 1) := by decide +kernel
theorem d_Mo_sends_12 : decode prog_13_method_64_code 12 = .ok (.putfield 308, 3) := by decide +kernel
theorem d_Mo_sends_15 : decode prog_13_method_64_code 15 = .ok (.aload_n 0, 1) := by decide +kernel
theorem d_Mo_sends_16 : decode prog_13_method_64_code 16 = .ok (.getfield 71, 3) := by decide +kernel
theorem d_Mo_sends_19 : decode prog_13_method_64_code 19 = .ok (.sipush 145, 3) := by decide +kernel
theorem d_Mo_sends_22 : decode prog_13_method_64_code 22 = .ok (.bipush 7, 2) := by decide +kernel
theorem d_Mo_sends_24 : decode prog_13_method_64_code 24 = .ok (.iload_n 3, 1) := by decide +kernel
theorem d_Mo_sends_25 : decode prog_13_method_64_code 25 = .ok (.imul, 1) := by decide +kernel
theorem d_Mo_sends_26 : decode prog_13_method_64_code 26 = .ok (.iadd, 1) := by decide +kernel
theorem d_Mo_sends_27 : decode prog_13_method_64_code 27 = .ok (.iload_n 2, 1) := by decide +kernel
theorem d_Mo_sends_28 : decode prog_13_method_64_code 28 = .ok (.iadd, 1) := by decide +kernel
theorem d_Mo_sends_29 : decode prog_13_method_64_code 29 = .ok (.iaload, 1) := by decide +kernel
theorem d_Mo_sends_30 : decode prog_13_method_64_code 30 = .ok (.istore 5, 2) := by decide +kernel
theorem d_Mo_sends_32 : decode prog_13_method_64_code 32 = .ok (.iload 5, 2) := by decide +kernel
theorem d_Mo_sends_34 : decode prog_13_method_64_code 34 = .ok (.ifCond .lt 7, 3) := by decide +kernel
theorem d_Mo_sends_37 : decode prog_13_method_64_code 37 = .ok (.iconst 1, 1) := by decide +kernel
theorem d_Mo_sends_38 : decode prog_13_method_64_code 38 = .ok (.goto 4, 3) := by decide +kernel
theorem d_Mo_sends_41 : decode prog_13_method_64_code 41 = .ok (.iconst 0, 1) := by decide +kernel
theorem d_Mo_sends_42 : decode prog_13_method_64_code 42 = .ok (.istore 6, 2) := by decide +kernel
theorem d_Mo_sends_44 : decode prog_13_method_64_code 44 = .ok (.iload 4, 2) := by decide +kernel
theorem d_Mo_sends_46 : decode prog_13_method_64_code 46 = .ok (.ifCond .lt 45, 3) := by decide +kernel
theorem d_Mo_sends_49 : decode prog_13_method_64_code 49 = .ok (.iload 6, 2) := by decide +kernel
theorem d_Mo_sends_51 : decode prog_13_method_64_code 51 = .ok (.ifCond .ne 40, 3) := by decide +kernel
theorem d_Mo_sends_54 : decode prog_13_method_64_code 54 = .ok (.aload_n 0, 1) := by decide +kernel
theorem d_Mo_sends_55 : decode prog_13_method_64_code 55 = .ok (.getfield 71, 3) := by decide +kernel
theorem d_Mo_sends_58 : decode prog_13_method_64_code 58 = .ok (.sipush 145, 3) := by decide +kernel
theorem d_Mo_sends_61 : decode prog_13_method_64_code 61 = .ok (.bipush 7, 2) := by decide +kernel
theorem d_Mo_sends_63 : decode prog_13_method_64_code 63 = .ok (.iload 4, 2) := by decide +kernel
theorem d_Mo_sends_65 : decode prog_13_method_64_code 65 = .ok (.imul, 1) := by decide +kernel
theorem d_Mo_sends_66 : decode prog_13_method_64_code 66 = .ok (.iadd, 1) := by decide +kernel
theorem d_Mo_sends_67 : decode prog_13_method_64_code 67 = .ok (.iload_n 2, 1) := by decide +kernel
theorem d_Mo_sends_68 : decode prog_13_method_64_code 68 = .ok (.iadd, 1) := by decide +kernel
theorem d_Mo_sends_69 : decode prog_13_method_64_code 69 = .ok (.bipush (-2), 2) := by decide +kernel
theorem d_Mo_sends_71 : decode prog_13_method_64_code 71 = .ok (.iastore, 1) := by decide +kernel
theorem d_Mo_sends_72 : decode prog_13_method_64_code 72 = .ok (.aload_n 0, 1) := by decide +kernel
theorem d_Mo_sends_73 : decode prog_13_method_64_code 73 = .ok (.getfield 71, 3) := by decide +kernel
theorem d_Mo_sends_76 : decode prog_13_method_64_code 76 = .ok (.sipush 194, 3) := by decide +kernel
theorem d_Mo_sends_79 : decode prog_13_method_64_code 79 = .ok (.bipush 7, 2) := by decide +kernel
theorem d_Mo_sends_81 : decode prog_13_method_64_code 81 = .ok (.iload 4, 2) := by decide +kernel
theorem d_Mo_sends_83 : decode prog_13_method_64_code 83 = .ok (.imul, 1) := by decide +kernel
theorem d_Mo_sends_84 : decode prog_13_method_64_code 84 = .ok (.iadd, 1) := by decide +kernel
theorem d_Mo_sends_85 : decode prog_13_method_64_code 85 = .ok (.iload_n 2, 1) := by decide +kernel
theorem d_Mo_sends_86 : decode prog_13_method_64_code 86 = .ok (.iadd, 1) := by decide +kernel
theorem d_Mo_sends_87 : decode prog_13_method_64_code 87 = .ok (.iconst 0, 1) := by decide +kernel
theorem d_Mo_sends_88 : decode prog_13_method_64_code 88 = .ok (.iastore, 1) := by decide +kernel
theorem d_Mo_sends_89 : decode prog_13_method_64_code 89 = .ok (.iconst 5, 1) := by decide +kernel
theorem d_Mo_sends_90 : decode prog_13_method_64_code 90 = .ok (.ireturn, 1) := by decide +kernel
theorem d_Mo_sends_91 : decode prog_13_method_64_code 91 = .ok (.iload 6, 2) := by decide +kernel
theorem d_Mo_sends_93 : decode prog_13_method_64_code 93 = .ok (.ifCond .ne 24, 3) := by decide +kernel
theorem d_Mo_sends_96 : decode prog_13_method_64_code 96 = .ok (.iload_n 3, 1) := by decide +kernel
theorem d_Mo_sends_97 : decode prog_13_method_64_code 97 = .ok (.ifCond .ne 5, 3) := by decide +kernel
theorem d_Mo_sends_100 : decode prog_13_method_64_code 100 = .ok (.iconst 2, 1) := by decide +kernel
theorem d_Mo_sends_101 : decode prog_13_method_64_code 101 = .ok (.ireturn, 1) := by decide +kernel
theorem d_Mo_sends_102 : decode prog_13_method_64_code 102 = .ok (.aload_n 0, 1) := by decide +kernel
theorem d_Mo_sends_103 : decode prog_13_method_64_code 103 = .ok (.iload_n 3, 1) := by decide +kernel
theorem d_Mo_sends_104 : decode prog_13_method_64_code 104 = .ok (.iconst 2, 1) := by decide +kernel
theorem d_Mo_sends_105 : decode prog_13_method_64_code 105 = .ok (.invokevirtual 246, 3) := by decide +kernel
theorem d_Mo_sends_108 : decode prog_13_method_64_code 108 = .ok (.istore 5, 2) := by decide +kernel
theorem d_Mo_sends_110 : decode prog_13_method_64_code 110 = .ok (.iload 5, 2) := by decide +kernel
theorem d_Mo_sends_112 : decode prog_13_method_64_code 112 = .ok (.ifCond .ge 5, 3) := by decide +kernel
theorem d_Mo_sends_115 : decode prog_13_method_64_code 115 = .ok (.iconst 1, 1) := by decide +kernel
theorem d_Mo_sends_116 : decode prog_13_method_64_code 116 = .ok (.ireturn, 1) := by decide +kernel
theorem d_Mo_sends_117 : decode prog_13_method_64_code 117 = .ok (.aload_n 0, 1) := by decide +kernel
theorem d_Mo_sends_118 : decode prog_13_method_64_code 118 = .ok (.iload_n 3, 1) := by decide +kernel
theorem d_Mo_sends_119 : decode prog_13_method_64_code 119 = .ok (.iload 5, 2) := by decide +kernel
theorem d_Mo_sends_121 : decode prog_13_method_64_code 121 = .ok (.invokevirtual 258, 3) := by decide +kernel
theorem d_Mo_sends_124 : decode prog_13_method_64_code 124 = .ok (.ifCond .ne 5, 3) := by decide +kernel
theorem d_Mo_sends_127 : decode prog_13_method_64_code 127 = .ok (.iconst 3, 1) := by decide +kernel
theorem d_Mo_sends_128 : decode prog_13_method_64_code 128 = .ok (.ireturn, 1) := by decide +kernel
theorem d_Mo_sends_129 : decode prog_13_method_64_code 129 = .ok (.aload_n 0, 1) := by decide +kernel
theorem d_Mo_sends_130 : decode prog_13_method_64_code 130 = .ok (.getfield 305, 3) := by decide +kernel
theorem d_Mo_sends_133 : decode prog_13_method_64_code 133 = .ok (.bipush 20, 2) := by decide +kernel
theorem d_Mo_sends_135 : decode prog_13_method_64_code 135 = .ok (.if_icmp .ne 6, 3) := by decide +kernel
theorem d_Mo_sends_138 : decode prog_13_method_64_code 138 = .ok (.bipush 6, 2) := by decide +kernel
theorem d_Mo_sends_140 : decode prog_13_method_64_code 140 = .ok (.ireturn, 1) := by decide +kernel
theorem d_Mo_sends_141 : decode prog_13_method_64_code 141 = .ok (.aload_n 0, 1) := by decide +kernel
theorem d_Mo_sends_142 : decode prog_13_method_64_code 142 = .ok (.getfield 77, 3) := by decide +kernel
theorem d_Mo_sends_145 : decode prog_13_method_64_code 145 = .ok (.aload_n 0, 1) := by decide +kernel
theorem d_Mo_sends_146 : decode prog_13_method_64_code 146 = .ok (.getfield 305, 3) := by decide +kernel
theorem d_Mo_sends_149 : decode prog_13_method_64_code 149 = .ok (.iload 5, 2) := by decide +kernel
theorem d_Mo_sends_151 : decode prog_13_method_64_code 151 = .ok (.iastore, 1) := by decide +kernel
theorem d_Mo_sends_152 : decode prog_13_method_64_code 152 = .ok (.aload_n 0, 1) := by decide +kernel
theorem d_Mo_sends_153 : decode prog_13_method_64_code 153 = .ok (.dup, 1) := by decide +kernel
theorem d_Mo_sends_154 : decode prog_13_method_64_code 154 = .ok (.getfield 305, 3) := by decide +kernel
theorem d_Mo_sends_157 : decode prog_13_method_64_code 157 = .ok (.iconst 1, 1) := by decide +kernel
theorem d_Mo_sends_158 : decode prog_13_method_64_code 158 = .ok (.iadd, 1) := by decide +kernel
theorem d_Mo_sends_159 : decode prog_13_method_64_code 159 = .ok (.putfield 305, 3) := by decide +kernel
theorem d_Mo_sends_162 : decode prog_13_method_64_code 162 = .ok (.aload_n 0, 1) := by decide +kernel
theorem d_Mo_sends_163 : decode prog_13_method_64_code 163 = .ok (.iload 5, 2) := by decide +kernel
theorem d_Mo_sends_165 : decode prog_13_method_64_code 165 = .ok (.iconst 1, 1) := by decide +kernel
theorem d_Mo_sends_166 : decode prog_13_method_64_code 166 = .ok (.invokevirtual 246, 3) := by decide +kernel
theorem d_Mo_sends_169 : decode prog_13_method_64_code 169 = .ok (.aload_n 0, 1) := by decide +kernel
theorem d_Mo_sends_170 : decode prog_13_method_64_code 170 = .ok (.iload_n 3, 1) := by decide +kernel
theorem d_Mo_sends_171 : decode prog_13_method_64_code 171 = .ok (.iconst 1, 1) := by decide +kernel
theorem d_Mo_sends_172 : decode prog_13_method_64_code 172 = .ok (.invokevirtual 246, 3) := by decide +kernel
theorem d_Mo_sends_175 : decode prog_13_method_64_code 175 = .ok (.isub, 1) := by decide +kernel
theorem d_Mo_sends_176 : decode prog_13_method_64_code 176 = .ok (.istore 7, 2) := by decide +kernel
theorem d_Mo_sends_178 : decode prog_13_method_64_code 178 = .ok (.iload 6, 2) := by decide +kernel
theorem d_Mo_sends_180 : decode prog_13_method_64_code 180 = .ok (.ifCond .eq 11, 3) := by decide +kernel
theorem d_Mo_sends_183 : decode prog_13_method_64_code 183 = .ok (.iload 7, 2) := by decide +kernel
theorem d_Mo_sends_185 : decode prog_13_method_64_code 185 = .ok (.ifCond .gt 37, 3) := by decide +kernel
theorem d_Mo_sends_188 : decode prog_13_method_64_code 188 = .ok (.goto 8, 3) := by decide +kernel
theorem d_Mo_sends_191 : decode prog_13_method_64_code 191 = .ok (.iload 7, 2) := by decide +kernel
theorem d_Mo_sends_193 : decode prog_13_method_64_code 193 = .ok (.ifCond .lt 29, 3) := by decide +kernel
theorem d_Mo_sends_196 : decode prog_13_method_64_code 196 = .ok (.aload_n 0, 1) := by decide +kernel
theorem d_Mo_sends_197 : decode prog_13_method_64_code 197 = .ok (.iload 5, 2) := by decide +kernel
theorem d_Mo_sends_199 : decode prog_13_method_64_code 199 = .ok (.invokevirtual 274, 3) := by decide +kernel
theorem d_Mo_sends_202 : decode prog_13_method_64_code 202 = .ok (.aload_n 0, 1) := by decide +kernel
theorem d_Mo_sends_203 : decode prog_13_method_64_code 203 = .ok (.dup, 1) := by decide +kernel
theorem d_Mo_sends_204 : decode prog_13_method_64_code 204 = .ok (.getfield 308, 3) := by decide +kernel
theorem d_Mo_sends_207 : decode prog_13_method_64_code 207 = .ok (.iconst 1, 1) := by decide +kernel
theorem d_Mo_sends_208 : decode prog_13_method_64_code 208 = .ok (.iadd, 1) := by decide +kernel
theorem d_Mo_sends_209 : decode prog_13_method_64_code 209 = .ok (.putfield 308, 3) := by decide +kernel
theorem d_Mo_sends_212 : decode prog_13_method_64_code 212 = .ok (.aload_n 0, 1) := by decide +kernel
theorem d_Mo_sends_213 : decode prog_13_method_64_code 213 = .ok (.getfield 308, 3) := by decide +kernel
theorem d_Mo_sends_216 : decode prog_13_method_64_code 216 = .ok (.iconst 2, 1) := by decide +kernel
theorem d_Mo_sends_217 : decode prog_13_method_64_code 217 = .ok (.if_icmp .ne 5, 3) := by decide +kernel
theorem d_Mo_sends_220 : decode prog_13_method_64_code 220 = .ok (.iconst 4, 1) := by decide +kernel
theorem d_Mo_sends_221 : decode prog_13_method_64_code 221 = .ok (.ireturn, 1) := by decide +kernel
theorem d_Mo_sends_222 : decode prog_13_method_64_code 222 = .ok (.iload 5, 2) := by decide +kernel
theorem d_Mo_sends_224 : decode prog_13_method_64_code 224 = .ok (.iload_n 2, 1) := by decide +kernel
theorem d_Mo_sends_225 : decode prog_13_method_64_code 225 = .ok (.if_icmp .ne 5, 3) := by decide +kernel
theorem d_Mo_sends_228 : decode prog_13_method_64_code 228 = .ok (.iconst 0, 1) := by decide +kernel
theorem d_Mo_sends_229 : decode prog_13_method_64_code 229 = .ok (.ireturn, 1) := by decide +kernel
theorem d_Mo_sends_230 : decode prog_13_method_64_code 230 = .ok (.iload 6, 2) := by decide +kernel
theorem d_Mo_sends_232 : decode prog_13_method_64_code 232 = .ok (.ifCond .eq 7, 3) := by decide +kernel
theorem d_Mo_sends_235 : decode prog_13_method_64_code 235 = .ok (.iload_n 3, 1) := by decide +kernel
theorem d_Mo_sends_236 : decode prog_13_method_64_code 236 = .ok (.goto 4, 3) := by decide +kernel
theorem d_Mo_sends_239 : decode prog_13_method_64_code 239 = .ok (.iconst (-1), 1) := by decide +kernel
theorem d_Mo_sends_240 : decode prog_13_method_64_code 240 = .ok (.istore 4, 2) := by decide +kernel
theorem d_Mo_sends_242 : decode prog_13_method_64_code 242 = .ok (.iload 5, 2) := by decide +kernel
theorem d_Mo_sends_244 : decode prog_13_method_64_code 244 = .ok (.istore_n 3, 1) := by decide +kernel
theorem d_Mo_sends_245 : decode prog_13_method_64_code 245 = .ok (.goto (-230), 3) := by decide +kernel
def wp_Mo_sends_b240  (k15 : Int32 → Int32 → Int32 → sx_M → sx_L → Prop) (Q : Int32 → sx_M → sx_L → Prop) (v2 : Int32) (v5 : Int32) (w0 : Int32) (σ : sx_M) (τ : sx_L) : Prop := k15 v2 v5 w0 σ τ
def wp_Mo_sends_b222  (k15 : Int32 → Int32 → Int32 → sx_M → sx_L → Prop) (Q : Int32 → sx_M → sx_L → Prop) (v2 : Int32) (v3 : Int32) (v5 : Int32) (v6 : Int32) (σ : sx_M) (τ : sx_L) : Prop := if v5 = v2 then (Q 0 σ τ) else (if v6 = 0 then (wp_Mo_sends_b240 k15 Q v2 v5 (-1) σ τ) else (wp_Mo_sends_b240 k15 Q v2 v5 v3 σ τ))
def wp_Mo_sends_b196  (k15 : Int32 → Int32 → Int32 → sx_M → sx_L → Prop) (Q : Int32 → sx_M → sx_L → Prop) (v2 : Int32) (v3 : Int32) (v5 : Int32) (v6 : Int32) (σ : sx_M) (τ : sx_L) : Prop := wp_Mo_beginsAnew v5 σ τ (fun σ3 τ3 => ∀ σ4 : sx_M, σ4 = sx_u σ3 50 0 0 34 ((σ3 50 0 0 34) + 1) → (if σ4 50 0 0 34 = 2 then (Q 4 σ4 τ3) else (wp_Mo_sends_b222 k15 Q v2 v3 v5 v6 σ4 τ3)))
def wp_Mo_sends_b117  (k15 : Int32 → Int32 → Int32 → sx_M → sx_L → Prop) (Q : Int32 → sx_M → sx_L → Prop) (v2 : Int32) (v3 : Int32) (v5 : Int32) (v6 : Int32) (σ : sx_M) (τ : sx_L) : Prop := wp_Mo_areNear v3 v5 σ τ (fun r6 σ6 τ6 => if r6 = 0 then (Q 3 σ6 τ6) else (if σ6 50 0 0 33 = 20 then (Q 6 σ6 τ6) else (vp_in (σ6 50 0 0 33) 20 ∧ (∀ σ10 : sx_M, σ10 = sx_u σ6 70 0 0 (σ6 50 0 0 33).toNatClampNeg v5 → (∀ σ11 : sx_M, σ11 = sx_u σ10 50 0 0 33 ((σ10 50 0 0 33) + 1) → (wp_Mo_of v5 (1 : Int32) σ11 τ6 (fun r12 σ12 τ12 => wp_Mo_of v3 (1 : Int32) σ12 τ12 (fun r13 σ13 τ13 => if v6 = 0 then (if r12 - r13 < 0 then (wp_Mo_sends_b222 k15 Q v2 v3 v5 v6 σ13 τ13) else (wp_Mo_sends_b196 k15 Q v2 v3 v5 v6 σ13 τ13)) else (if 0 < r12 - r13 then (wp_Mo_sends_b222 k15 Q v2 v3 v5 v6 σ13 τ13) else (wp_Mo_sends_b196 k15 Q v2 v3 v5 v6 σ13 τ13))))))))))
def wp_Mo_sends_b91  (k15 : Int32 → Int32 → Int32 → sx_M → sx_L → Prop) (Q : Int32 → sx_M → sx_L → Prop) (v2 : Int32) (v3 : Int32) (v5 : Int32) (v6 : Int32) (σ : sx_M) (τ : sx_L) : Prop := if v6 = 0 then (if v3 = 0 then (Q 2 σ τ) else (wp_Mo_of v3 (2 : Int32) σ τ (fun r19 σ19 τ19 => if 0 ≤ r19 then (wp_Mo_sends_b117 k15 Q v2 v3 r19 v6 σ19 τ19) else (Q 1 σ19 τ19)))) else (wp_Mo_sends_b117 k15 Q v2 v3 v5 v6 σ τ)
def wp_Mo_sends_b42  (k15 : Int32 → Int32 → Int32 → sx_M → sx_L → Prop) (Q : Int32 → sx_M → sx_L → Prop) (v2 : Int32) (v3 : Int32) (v4 : Int32) (v5 : Int32) (w0 : Int32) (σ : sx_M) (τ : sx_L) : Prop := if v4 < 0 then (wp_Mo_sends_b91 k15 Q v2 v3 v5 w0 σ τ) else (if w0 = 0 then (vp_in ((145 + (7 * v4)) + v2) 643 ∧ (∀ σ24 : sx_M, σ24 = sx_u σ 68 0 0 ((145 + (7 * v4)) + v2).toNatClampNeg (-2) → (vp_in ((194 + (7 * v4)) + v2) 643 ∧ (∀ σ26 : sx_M, σ26 = sx_u σ24 68 0 0 ((194 + (7 * v4)) + v2).toNatClampNeg 0 → (Q 5 σ26 τ))))) else (wp_Mo_sends_b91 k15 Q v2 v3 v5 w0 σ τ))
def wp_Mo_sends_b15   (Q : Int32 → sx_M → sx_L → Prop) : Nat → Int32 → Int32 → Int32 → sx_M → sx_L → Prop
  | 0, _, _, _, _, _ => False
  | f + 1, v2, v3, v4, σ, τ => vp_in ((145 + (7 * v3)) + v2) 643 ∧ (if σ 68 0 0 ((145 + (7 * v3)) + v2).toNatClampNeg < 0 then (wp_Mo_sends_b42 (wp_Mo_sends_b15 Q f) Q v2 v3 v4 (σ 68 0 0 ((145 + (7 * v3)) + v2).toNatClampNeg) 0 σ τ) else (wp_Mo_sends_b42 (wp_Mo_sends_b15 Q f) Q v2 v3 v4 (σ 68 0 0 ((145 + (7 * v3)) + v2).toNatClampNeg) 1 σ τ))
def wp_Mo_sends (x1 : Int32) (x2 : Int32) (σ : sx_M) (τ : sx_L) (Q : Int32 → sx_M → sx_L → Prop) : Prop := ∀ σ29 : sx_M, σ29 = sx_u σ 50 0 0 33 0 → (∀ σ30 : sx_M, σ30 = sx_u σ29 50 0 0 34 0 → (∃ f15, wp_Mo_sends_b15 Q f15 x2 x1 (-1) σ30 τ))
abbrev rm_Mo_sends : Room := { frames := 4, cells := 0, slots := 0, locals := 87 }
set_option maxRecDepth 100000 in
set_option maxHeartbeats 4000000 in
theorem g_Mo_sends_b240 {l : Launch} {K : sx_K} {X : sx_T}  {k15 : Int32 → Int32 → Int32 → sx_M → sx_L → Prop} {Q : Int32 → sx_M → sx_L → Prop} (hX : sx_C X K prog_13_method_64_code 8 "SensorTreeModel" (some .int) rm_Mo_sends l) (hK : kx_F K) (hE : sx_E X K (sx_Qi K Q))  (hk15 : ∀ (v2 : Int32) (v3 : Int32) (v4 : Int32) (σ : sx_M) (τ : sx_L) , k15 v2 v3 v4 σ τ → sx_G X K 8 15 [(0, .ref (K.2.2.1 50 0 0)), (2, .int v2), (3, .int v3), (4, .int v4)] [] (sx_H K σ τ)) (v2 : Int32) (v5 : Int32) (w0 : Int32) (σ : sx_M) (τ : sx_L)  (h : wp_Mo_sends_b240 k15 Q  v2 v5 w0 σ τ) : sx_G X K 8 240 [(0, .ref (K.2.2.1 50 0 0)), (2, .int v2), (5, .int v5)] [.int w0] (sx_H K σ τ) := by
  unfold wp_Mo_sends_b240 at h
  refine sx_istore (pc2 := 242) hX _ [(0, .ref (K.2.2.1 50 0 0)), (2, .int v2), (4, .int w0), (5, .int v5)] [1, 2, 0, 3] d_Mo_sends_240 (by decide) rfl rfl rfl ?_
  refine sx_iload (pc2 := 244) hX 3 d_Mo_sends_242 rfl rfl ?_
  refine sx_istore_n (pc2 := 245) hX _ [(0, .ref (K.2.2.1 50 0 0)), (2, .int v2), (3, .int v5), (4, .int w0), (5, .int v5)] [1, 2, 0, 3, 4] d_Mo_sends_244 rfl (by decide) rfl rfl rfl ?_
  refine sx_goto (tgt := 15) hX d_Mo_sends_245 (by decide) ?_
  refine sx_sub [(0, .ref (K.2.2.1 50 0 0)), (2, .int v2), (3, .int v5), (4, .int w0)] [0, 1, 2, 3] rfl ?_
  exact hk15 v2 v5 w0 _ _ h
set_option maxRecDepth 100000 in
set_option maxHeartbeats 4000000 in
theorem g_Mo_sends_b222 {l : Launch} {K : sx_K} {X : sx_T}  {k15 : Int32 → Int32 → Int32 → sx_M → sx_L → Prop} {Q : Int32 → sx_M → sx_L → Prop} (hX : sx_C X K prog_13_method_64_code 8 "SensorTreeModel" (some .int) rm_Mo_sends l) (hK : kx_F K) (hE : sx_E X K (sx_Qi K Q))  (hk15 : ∀ (v2 : Int32) (v3 : Int32) (v4 : Int32) (σ : sx_M) (τ : sx_L) , k15 v2 v3 v4 σ τ → sx_G X K 8 15 [(0, .ref (K.2.2.1 50 0 0)), (2, .int v2), (3, .int v3), (4, .int v4)] [] (sx_H K σ τ)) (v2 : Int32) (v3 : Int32) (v5 : Int32) (v6 : Int32) (σ : sx_M) (τ : sx_L)  (h : wp_Mo_sends_b222 k15 Q  v2 v3 v5 v6 σ τ) : sx_G X K 8 222 [(0, .ref (K.2.2.1 50 0 0)), (2, .int v2), (3, .int v3), (5, .int v5), (6, .int v6)] [] (sx_H K σ τ) := by
  unfold wp_Mo_sends_b222 at h
  refine sx_iload (pc2 := 224) hX 3 d_Mo_sends_222 rfl rfl ?_
  refine sx_iload_n (pc2 := 225) hX 1 d_Mo_sends_224 rfl rfl rfl ?_
  refine sx_icmp_ne (tgt := 230) (pc2 := 228) hX d_Mo_sends_225 (by decide) rfl (fun hc1 => ?_) (fun hc1 => ?_)
  · replace h := sx_f h hc1
    refine sx_iload (pc2 := 232) hX 4 d_Mo_sends_230 rfl rfl ?_
    refine sx_if_eq (tgt := 239) (pc2 := 235) hX d_Mo_sends_232 (by decide) rfl (fun hc2 => ?_) (fun hc2 => ?_)
    · replace h := sx_t h hc2
      refine sx_iconst (v := (-1)) (pc2 := 240) hX d_Mo_sends_239 (by decide) rfl ?_
      refine sx_sub [(0, .ref (K.2.2.1 50 0 0)), (2, .int v2), (5, .int v5)] [0, 1, 3] rfl ?_
      exact g_Mo_sends_b240 hX hK hE  hk15 v2 v5 (-1) _ _ h
    · replace h := sx_f h hc2
      refine sx_iload_n (pc2 := 236) hX 2 d_Mo_sends_235 rfl rfl rfl ?_
      refine sx_goto (tgt := 240) hX d_Mo_sends_236 (by decide) ?_
      refine sx_sub [(0, .ref (K.2.2.1 50 0 0)), (2, .int v2), (5, .int v5)] [0, 1, 3] rfl ?_
      exact g_Mo_sends_b240 hX hK hE  hk15 v2 v5 v3 _ _ h
  · replace h := sx_t h hc1
    refine sx_iconst (v := 0) (pc2 := 229) hX d_Mo_sends_228 (by decide) rfl ?_
    exact sx_iret hX hE h d_Mo_sends_229
set_option maxRecDepth 100000 in
set_option maxHeartbeats 4000000 in
theorem g_Mo_sends_b196 {l : Launch} {K : sx_K} {X : sx_T}  {k15 : Int32 → Int32 → Int32 → sx_M → sx_L → Prop} {Q : Int32 → sx_M → sx_L → Prop} (hX : sx_C X K prog_13_method_64_code 8 "SensorTreeModel" (some .int) rm_Mo_sends l) (hK : kx_F K) (hE : sx_E X K (sx_Qi K Q))  (hk15 : ∀ (v2 : Int32) (v3 : Int32) (v4 : Int32) (σ : sx_M) (τ : sx_L) , k15 v2 v3 v4 σ τ → sx_G X K 8 15 [(0, .ref (K.2.2.1 50 0 0)), (2, .int v2), (3, .int v3), (4, .int v4)] [] (sx_H K σ τ)) (v2 : Int32) (v3 : Int32) (v5 : Int32) (v6 : Int32) (σ : sx_M) (τ : sx_L)  (h : wp_Mo_sends_b196 k15 Q  v2 v3 v5 v6 σ τ) : sx_G X K 8 196 [(0, .ref (K.2.2.1 50 0 0)), (2, .int v2), (3, .int v3), (5, .int v5), (6, .int v6)] [] (sx_H K σ τ) := by
  unfold wp_Mo_sends_b196 at h
  refine sx_aload_n (pc2 := 197) hX 0 d_Mo_sends_196 rfl rfl rfl ?_
  refine sx_iload (pc2 := 199) hX 3 d_Mo_sends_197 rfl rfl ?_
  refine cl_Mo_274 (pc2 := 202) hX hK h  ⟨Nat.le_of_ble_eq_true rfl, Nat.le_of_ble_eq_true rfl⟩ (Nat.le_of_ble_eq_true rfl) d_Mo_sends_199 rfl (fun σ3 τ3 h => ?_)
  refine sx_aload_n (pc2 := 203) hX 0 d_Mo_sends_202 rfl rfl rfl ?_
  refine sx_dup (pc2 := 204) hX d_Mo_sends_203 rfl rfl ?_
  refine fg_Mo_308 (pc2 := 207) hX (kr_50 hK) d_Mo_sends_204 rfl ?_
  refine sx_iconst (v := 1) (pc2 := 208) hX d_Mo_sends_207 (by decide) rfl ?_
  refine sx_iadd (pc2 := 209) hX d_Mo_sends_208 rfl ?_
  refine fp_Mo_308 (pc2 := 212) hX (kr_50 hK) d_Mo_sends_209 rfl ?_
  refine sx_nm (fun σ4 e4 => ?_)
  replace h := h σ4 e4
  refine sx_aload_n (pc2 := 213) hX 0 d_Mo_sends_212 rfl rfl rfl ?_
  refine fg_Mo_308 (pc2 := 216) hX (kr_50 hK) d_Mo_sends_213 rfl ?_
  refine sx_iconst (v := 2) (pc2 := 217) hX d_Mo_sends_216 (by decide) rfl ?_
  refine sx_icmp_ne (tgt := 222) (pc2 := 220) hX d_Mo_sends_217 (by decide) rfl (fun hc5 => ?_) (fun hc5 => ?_)
  · replace h := sx_f h hc5
    exact g_Mo_sends_b222 hX hK hE  hk15 v2 v3 v5 v6 _ _ h
  · replace h := sx_t h hc5
    refine sx_iconst (v := 4) (pc2 := 221) hX d_Mo_sends_220 (by decide) rfl ?_
    exact sx_iret hX hE h d_Mo_sends_221
set_option maxRecDepth 100000 in
set_option maxHeartbeats 4000000 in
theorem g_Mo_sends_b117 {l : Launch} {K : sx_K} {X : sx_T}  {k15 : Int32 → Int32 → Int32 → sx_M → sx_L → Prop} {Q : Int32 → sx_M → sx_L → Prop} (hX : sx_C X K prog_13_method_64_code 8 "SensorTreeModel" (some .int) rm_Mo_sends l) (hK : kx_F K) (hE : sx_E X K (sx_Qi K Q))  (hk15 : ∀ (v2 : Int32) (v3 : Int32) (v4 : Int32) (σ : sx_M) (τ : sx_L) , k15 v2 v3 v4 σ τ → sx_G X K 8 15 [(0, .ref (K.2.2.1 50 0 0)), (2, .int v2), (3, .int v3), (4, .int v4)] [] (sx_H K σ τ)) (v2 : Int32) (v3 : Int32) (v5 : Int32) (v6 : Int32) (σ : sx_M) (τ : sx_L)  (h : wp_Mo_sends_b117 k15 Q  v2 v3 v5 v6 σ τ) : sx_G X K 8 117 [(0, .ref (K.2.2.1 50 0 0)), (2, .int v2), (3, .int v3), (5, .int v5), (6, .int v6)] [] (sx_H K σ τ) := by
  unfold wp_Mo_sends_b117 at h
  refine sx_aload_n (pc2 := 118) hX 0 d_Mo_sends_117 rfl rfl rfl ?_
  refine sx_iload_n (pc2 := 119) hX 2 d_Mo_sends_118 rfl rfl rfl ?_
  refine sx_iload (pc2 := 121) hX 3 d_Mo_sends_119 rfl rfl ?_
  refine cl_Mo_258 (pc2 := 124) hX hK h  ⟨Nat.le_of_ble_eq_true rfl, Nat.le_of_ble_eq_true rfl⟩ (Nat.le_of_ble_eq_true rfl) d_Mo_sends_121 rfl (fun r6 σ6 τ6 h => ?_)
  refine sx_if_ne (tgt := 129) (pc2 := 127) hX d_Mo_sends_124 (by decide) rfl (fun hc7 => ?_) (fun hc7 => ?_)
  · replace h := sx_f h hc7
    refine sx_aload_n (pc2 := 130) hX 0 d_Mo_sends_129 rfl rfl rfl ?_
    refine fg_Mo_305 (pc2 := 133) hX (kr_50 hK) d_Mo_sends_130 rfl ?_
    refine sx_bipush (v := 20) (pc2 := 135) hX d_Mo_sends_133 (by decide) rfl ?_
    refine sx_icmp_ne (tgt := 141) (pc2 := 138) hX d_Mo_sends_135 (by decide) rfl (fun hc8 => ?_) (fun hc8 => ?_)
    · replace h := sx_f h hc8
      refine sx_aload_n (pc2 := 142) hX 0 d_Mo_sends_141 rfl rfl rfl ?_
      refine fg_Mo_77 (pc2 := 145) hX (kr_50 hK) d_Mo_sends_142 rfl ?_
      refine sx_aload_n (pc2 := 146) hX 0 d_Mo_sends_145 rfl rfl rfl ?_
      refine fg_Mo_305 (pc2 := 149) hX (kr_50 hK) d_Mo_sends_146 rfl ?_
      refine sx_iload (pc2 := 151) hX 3 d_Mo_sends_149 rfl rfl ?_
      obtain ⟨hc9, h⟩ := h
      refine sx_iast (pc2 := 152) hX (kr_70 hK) (fun _ => rfl) hc9 d_Mo_sends_151 rfl ?_
      refine sx_nm (fun σ10 e10 => ?_)
      replace h := h σ10 e10
      refine sx_aload_n (pc2 := 153) hX 0 d_Mo_sends_152 rfl rfl rfl ?_
      refine sx_dup (pc2 := 154) hX d_Mo_sends_153 rfl rfl ?_
      refine fg_Mo_305 (pc2 := 157) hX (kr_50 hK) d_Mo_sends_154 rfl ?_
      refine sx_iconst (v := 1) (pc2 := 158) hX d_Mo_sends_157 (by decide) rfl ?_
      refine sx_iadd (pc2 := 159) hX d_Mo_sends_158 rfl ?_
      refine fp_Mo_305 (pc2 := 162) hX (kr_50 hK) d_Mo_sends_159 rfl ?_
      refine sx_nm (fun σ11 e11 => ?_)
      replace h := h σ11 e11
      refine sx_aload_n (pc2 := 163) hX 0 d_Mo_sends_162 rfl rfl rfl ?_
      refine sx_iload (pc2 := 165) hX 3 d_Mo_sends_163 rfl rfl ?_
      refine sx_iconst (v := 1) (pc2 := 166) hX d_Mo_sends_165 (by decide) rfl ?_
      refine cl_Mo_246 (pc2 := 169) hX hK h  ⟨Nat.le_of_ble_eq_true rfl, Nat.le_of_ble_eq_true rfl⟩ (Nat.le_of_ble_eq_true rfl) d_Mo_sends_166 rfl (fun r12 σ12 τ12 h => ?_)
      refine sx_aload_n (pc2 := 170) hX 0 d_Mo_sends_169 rfl rfl rfl ?_
      refine sx_iload_n (pc2 := 171) hX 2 d_Mo_sends_170 rfl rfl rfl ?_
      refine sx_iconst (v := 1) (pc2 := 172) hX d_Mo_sends_171 (by decide) rfl ?_
      refine cl_Mo_246 (pc2 := 175) hX hK h  ⟨Nat.le_of_ble_eq_true rfl, Nat.le_of_ble_eq_true rfl⟩ (Nat.le_of_ble_eq_true rfl) d_Mo_sends_172 rfl (fun r13 σ13 τ13 h => ?_)
      refine sx_isub (pc2 := 176) hX d_Mo_sends_175 rfl ?_
      refine sx_istore (pc2 := 178) hX _ [(0, .ref (K.2.2.1 50 0 0)), (2, .int v2), (3, .int v3), (5, .int v5), (6, .int v6), (7, .int (r12 - r13))] [1, 2, 3, 4, 5, 0] d_Mo_sends_176 (by decide) rfl rfl rfl ?_
      refine sx_iload (pc2 := 180) hX 4 d_Mo_sends_178 rfl rfl ?_
      refine sx_if_eq (tgt := 191) (pc2 := 183) hX d_Mo_sends_180 (by decide) rfl (fun hc14 => ?_) (fun hc14 => ?_)
      · replace h := sx_t h hc14
        refine sx_iload (pc2 := 193) hX 5 d_Mo_sends_191 rfl rfl ?_
        refine sx_if_lt (tgt := 222) (pc2 := 196) hX d_Mo_sends_193 (by decide) rfl (fun hc15 => ?_) (fun hc15 => ?_)
        · replace h := sx_t h hc15
          refine sx_sub [(0, .ref (K.2.2.1 50 0 0)), (2, .int v2), (3, .int v3), (5, .int v5), (6, .int v6)] [0, 1, 2, 3, 4] rfl ?_
          exact g_Mo_sends_b222 hX hK hE  hk15 v2 v3 v5 v6 _ _ h
        · replace h := sx_f h hc15
          refine sx_sub [(0, .ref (K.2.2.1 50 0 0)), (2, .int v2), (3, .int v3), (5, .int v5), (6, .int v6)] [0, 1, 2, 3, 4] rfl ?_
          exact g_Mo_sends_b196 hX hK hE  hk15 v2 v3 v5 v6 _ _ h
      · replace h := sx_f h hc14
        refine sx_iload (pc2 := 185) hX 5 d_Mo_sends_183 rfl rfl ?_
        refine sx_if_gt (tgt := 222) (pc2 := 188) hX d_Mo_sends_185 (by decide) rfl (fun hc16 => ?_) (fun hc16 => ?_)
        · replace h := sx_t h hc16
          refine sx_sub [(0, .ref (K.2.2.1 50 0 0)), (2, .int v2), (3, .int v3), (5, .int v5), (6, .int v6)] [0, 1, 2, 3, 4] rfl ?_
          exact g_Mo_sends_b222 hX hK hE  hk15 v2 v3 v5 v6 _ _ h
        · replace h := sx_f h hc16
          refine sx_goto (tgt := 196) hX d_Mo_sends_188 (by decide) ?_
          refine sx_sub [(0, .ref (K.2.2.1 50 0 0)), (2, .int v2), (3, .int v3), (5, .int v5), (6, .int v6)] [0, 1, 2, 3, 4] rfl ?_
          exact g_Mo_sends_b196 hX hK hE  hk15 v2 v3 v5 v6 _ _ h
    · replace h := sx_t h hc8
      refine sx_bipush (v := 6) (pc2 := 140) hX d_Mo_sends_138 (by decide) rfl ?_
      exact sx_iret hX hE h d_Mo_sends_140
  · replace h := sx_t h hc7
    refine sx_iconst (v := 3) (pc2 := 128) hX d_Mo_sends_127 (by decide) rfl ?_
    exact sx_iret hX hE h d_Mo_sends_128
set_option maxRecDepth 100000 in
set_option maxHeartbeats 4000000 in
theorem g_Mo_sends_b91 {l : Launch} {K : sx_K} {X : sx_T}  {k15 : Int32 → Int32 → Int32 → sx_M → sx_L → Prop} {Q : Int32 → sx_M → sx_L → Prop} (hX : sx_C X K prog_13_method_64_code 8 "SensorTreeModel" (some .int) rm_Mo_sends l) (hK : kx_F K) (hE : sx_E X K (sx_Qi K Q))  (hk15 : ∀ (v2 : Int32) (v3 : Int32) (v4 : Int32) (σ : sx_M) (τ : sx_L) , k15 v2 v3 v4 σ τ → sx_G X K 8 15 [(0, .ref (K.2.2.1 50 0 0)), (2, .int v2), (3, .int v3), (4, .int v4)] [] (sx_H K σ τ)) (v2 : Int32) (v3 : Int32) (v5 : Int32) (v6 : Int32) (σ : sx_M) (τ : sx_L)  (h : wp_Mo_sends_b91 k15 Q  v2 v3 v5 v6 σ τ) : sx_G X K 8 91 [(0, .ref (K.2.2.1 50 0 0)), (2, .int v2), (3, .int v3), (5, .int v5), (6, .int v6)] [] (sx_H K σ τ) := by
  unfold wp_Mo_sends_b91 at h
  refine sx_iload (pc2 := 93) hX 4 d_Mo_sends_91 rfl rfl ?_
  refine sx_if_ne (tgt := 117) (pc2 := 96) hX d_Mo_sends_93 (by decide) rfl (fun hc17 => ?_) (fun hc17 => ?_)
  · replace h := sx_f h hc17
    exact g_Mo_sends_b117 hX hK hE  hk15 v2 v3 v5 v6 _ _ h
  · replace h := sx_t h hc17
    refine sx_iload_n (pc2 := 97) hX 2 d_Mo_sends_96 rfl rfl rfl ?_
    refine sx_if_ne (tgt := 102) (pc2 := 100) hX d_Mo_sends_97 (by decide) rfl (fun hc18 => ?_) (fun hc18 => ?_)
    · replace h := sx_f h hc18
      refine sx_aload_n (pc2 := 103) hX 0 d_Mo_sends_102 rfl rfl rfl ?_
      refine sx_iload_n (pc2 := 104) hX 2 d_Mo_sends_103 rfl rfl rfl ?_
      refine sx_iconst (v := 2) (pc2 := 105) hX d_Mo_sends_104 (by decide) rfl ?_
      refine cl_Mo_246 (pc2 := 108) hX hK h  ⟨Nat.le_of_ble_eq_true rfl, Nat.le_of_ble_eq_true rfl⟩ (Nat.le_of_ble_eq_true rfl) d_Mo_sends_105 rfl (fun r19 σ19 τ19 h => ?_)
      refine sx_istore (pc2 := 110) hX _ [(0, .ref (K.2.2.1 50 0 0)), (2, .int v2), (3, .int v3), (5, .int r19), (6, .int v6)] [1, 2, 3, 0, 4] d_Mo_sends_108 (by decide) rfl rfl rfl ?_
      refine sx_iload (pc2 := 112) hX 3 d_Mo_sends_110 rfl rfl ?_
      refine sx_if_ge (tgt := 117) (pc2 := 115) hX d_Mo_sends_112 (by decide) rfl (fun hc20 => ?_) (fun hc20 => ?_)
      · replace h := sx_t h hc20
        exact g_Mo_sends_b117 hX hK hE  hk15 v2 v3 r19 v6 _ _ h
      · replace h := sx_f h hc20
        refine sx_iconst (v := 1) (pc2 := 116) hX d_Mo_sends_115 (by decide) rfl ?_
        exact sx_iret hX hE h d_Mo_sends_116
    · replace h := sx_t h hc18
      refine sx_iconst (v := 2) (pc2 := 101) hX d_Mo_sends_100 (by decide) rfl ?_
      exact sx_iret hX hE h d_Mo_sends_101
set_option maxRecDepth 100000 in
set_option maxHeartbeats 4000000 in
theorem g_Mo_sends_b42 {l : Launch} {K : sx_K} {X : sx_T}  {k15 : Int32 → Int32 → Int32 → sx_M → sx_L → Prop} {Q : Int32 → sx_M → sx_L → Prop} (hX : sx_C X K prog_13_method_64_code 8 "SensorTreeModel" (some .int) rm_Mo_sends l) (hK : kx_F K) (hE : sx_E X K (sx_Qi K Q))  (hk15 : ∀ (v2 : Int32) (v3 : Int32) (v4 : Int32) (σ : sx_M) (τ : sx_L) , k15 v2 v3 v4 σ τ → sx_G X K 8 15 [(0, .ref (K.2.2.1 50 0 0)), (2, .int v2), (3, .int v3), (4, .int v4)] [] (sx_H K σ τ)) (v2 : Int32) (v3 : Int32) (v4 : Int32) (v5 : Int32) (w0 : Int32) (σ : sx_M) (τ : sx_L)  (h : wp_Mo_sends_b42 k15 Q  v2 v3 v4 v5 w0 σ τ) : sx_G X K 8 42 [(0, .ref (K.2.2.1 50 0 0)), (2, .int v2), (3, .int v3), (4, .int v4), (5, .int v5)] [.int w0] (sx_H K σ τ) := by
  unfold wp_Mo_sends_b42 at h
  refine sx_istore (pc2 := 44) hX _ [(0, .ref (K.2.2.1 50 0 0)), (2, .int v2), (3, .int v3), (4, .int v4), (5, .int v5), (6, .int w0)] [1, 2, 3, 4, 5, 0] d_Mo_sends_42 (by decide) rfl rfl rfl ?_
  refine sx_iload (pc2 := 46) hX 3 d_Mo_sends_44 rfl rfl ?_
  refine sx_if_lt (tgt := 91) (pc2 := 49) hX d_Mo_sends_46 (by decide) rfl (fun hc21 => ?_) (fun hc21 => ?_)
  · replace h := sx_t h hc21
    refine sx_sub [(0, .ref (K.2.2.1 50 0 0)), (2, .int v2), (3, .int v3), (5, .int v5), (6, .int w0)] [0, 1, 2, 4, 5] rfl ?_
    exact g_Mo_sends_b91 hX hK hE  hk15 v2 v3 v5 w0 _ _ h
  · replace h := sx_f h hc21
    refine sx_iload (pc2 := 51) hX 5 d_Mo_sends_49 rfl rfl ?_
    refine sx_if_ne (tgt := 91) (pc2 := 54) hX d_Mo_sends_51 (by decide) rfl (fun hc22 => ?_) (fun hc22 => ?_)
    · replace h := sx_f h hc22
      refine sx_sub [(0, .ref (K.2.2.1 50 0 0)), (2, .int v2), (3, .int v3), (5, .int v5), (6, .int w0)] [0, 1, 2, 4, 5] rfl ?_
      exact g_Mo_sends_b91 hX hK hE  hk15 v2 v3 v5 w0 _ _ h
    · replace h := sx_t h hc22
      refine sx_aload_n (pc2 := 55) hX 0 d_Mo_sends_54 rfl rfl rfl ?_
      refine fg_Mo_71 (pc2 := 58) hX (kr_50 hK) d_Mo_sends_55 rfl ?_
      refine sx_sipush (v := 145) (pc2 := 61) hX d_Mo_sends_58 (by decide) rfl ?_
      refine sx_bipush (v := 7) (pc2 := 63) hX d_Mo_sends_61 (by decide) rfl ?_
      refine sx_iload (pc2 := 65) hX 3 d_Mo_sends_63 rfl rfl ?_
      refine sx_imul (pc2 := 66) hX d_Mo_sends_65 rfl ?_
      refine sx_iadd (pc2 := 67) hX d_Mo_sends_66 rfl ?_
      refine sx_iload_n (pc2 := 68) hX 1 d_Mo_sends_67 rfl rfl rfl ?_
      refine sx_iadd (pc2 := 69) hX d_Mo_sends_68 rfl ?_
      refine sx_bipush (v := (-2)) (pc2 := 71) hX d_Mo_sends_69 (by decide) rfl ?_
      obtain ⟨hc23, h⟩ := h
      refine sx_iast (pc2 := 72) hX (kr_68 hK) (fun _ => rfl) hc23 d_Mo_sends_71 rfl ?_
      refine sx_nm (fun σ24 e24 => ?_)
      replace h := h σ24 e24
      refine sx_aload_n (pc2 := 73) hX 0 d_Mo_sends_72 rfl rfl rfl ?_
      refine fg_Mo_71 (pc2 := 76) hX (kr_50 hK) d_Mo_sends_73 rfl ?_
      refine sx_sipush (v := 194) (pc2 := 79) hX d_Mo_sends_76 (by decide) rfl ?_
      refine sx_bipush (v := 7) (pc2 := 81) hX d_Mo_sends_79 (by decide) rfl ?_
      refine sx_iload (pc2 := 83) hX 3 d_Mo_sends_81 rfl rfl ?_
      refine sx_imul (pc2 := 84) hX d_Mo_sends_83 rfl ?_
      refine sx_iadd (pc2 := 85) hX d_Mo_sends_84 rfl ?_
      refine sx_iload_n (pc2 := 86) hX 1 d_Mo_sends_85 rfl rfl rfl ?_
      refine sx_iadd (pc2 := 87) hX d_Mo_sends_86 rfl ?_
      refine sx_iconst (v := 0) (pc2 := 88) hX d_Mo_sends_87 (by decide) rfl ?_
      obtain ⟨hc25, h⟩ := h
      refine sx_iast (pc2 := 89) hX (kr_68 hK) (fun _ => rfl) hc25 d_Mo_sends_88 rfl ?_
      refine sx_nm (fun σ26 e26 => ?_)
      replace h := h σ26 e26
      refine sx_iconst (v := 5) (pc2 := 90) hX d_Mo_sends_89 (by decide) rfl ?_
      exact sx_iret hX hE h d_Mo_sends_90
set_option maxRecDepth 100000 in
set_option maxHeartbeats 4000000 in
theorem g_Mo_sends_b15 {l : Launch} {K : sx_K} {X : sx_T}   {Q : Int32 → sx_M → sx_L → Prop} (hX : sx_C X K prog_13_method_64_code 8 "SensorTreeModel" (some .int) rm_Mo_sends l) (hK : kx_F K) (hE : sx_E X K (sx_Qi K Q))  : ∀ (f : Nat) (v2 : Int32) (v3 : Int32) (v4 : Int32) (σ : sx_M) (τ : sx_L) , wp_Mo_sends_b15 Q f v2 v3 v4 σ τ → sx_G X K 8 15 [(0, .ref (K.2.2.1 50 0 0)), (2, .int v2), (3, .int v3), (4, .int v4)] [] (sx_H K σ τ) := by
  intro f
  induction f with
  | zero => intro v2 v3 v4 σ τ h; exact (show False from h).elim
  | succ f ih =>
    intro v2 v3 v4 σ τ h
    rw [wp_Mo_sends_b15] at h
    refine sx_aload_n (pc2 := 16) hX 0 d_Mo_sends_15 rfl rfl rfl ?_
    refine fg_Mo_71 (pc2 := 19) hX (kr_50 hK) d_Mo_sends_16 rfl ?_
    refine sx_sipush (v := 145) (pc2 := 22) hX d_Mo_sends_19 (by decide) rfl ?_
    refine sx_bipush (v := 7) (pc2 := 24) hX d_Mo_sends_22 (by decide) rfl ?_
    refine sx_iload_n (pc2 := 25) hX 2 d_Mo_sends_24 rfl rfl rfl ?_
    refine sx_imul (pc2 := 26) hX d_Mo_sends_25 rfl ?_
    refine sx_iadd (pc2 := 27) hX d_Mo_sends_26 rfl ?_
    refine sx_iload_n (pc2 := 28) hX 1 d_Mo_sends_27 rfl rfl rfl ?_
    refine sx_iadd (pc2 := 29) hX d_Mo_sends_28 rfl ?_
    obtain ⟨hc27, h⟩ := h
    refine sx_iald (pc2 := 30) hX (kr_68 hK) rfl hc27 d_Mo_sends_29 rfl ?_
    refine sx_istore (pc2 := 32) hX _ [(0, .ref (K.2.2.1 50 0 0)), (2, .int v2), (3, .int v3), (4, .int v4), (5, .int (σ 68 0 0 ((145 + (7 * v3)) + v2).toNatClampNeg))] [1, 2, 3, 4, 0] d_Mo_sends_30 (by decide) rfl rfl rfl ?_
    refine sx_iload (pc2 := 34) hX 4 d_Mo_sends_32 rfl rfl ?_
    refine sx_if_lt (tgt := 41) (pc2 := 37) hX d_Mo_sends_34 (by decide) rfl (fun hc28 => ?_) (fun hc28 => ?_)
    · replace h := sx_t h hc28
      refine sx_iconst (v := 0) (pc2 := 42) hX d_Mo_sends_41 (by decide) rfl ?_
      exact g_Mo_sends_b42 hX hK hE  ih v2 v3 v4 (σ 68 0 0 ((145 + (7 * v3)) + v2).toNatClampNeg) 0 _ _ h
    · replace h := sx_f h hc28
      refine sx_iconst (v := 1) (pc2 := 38) hX d_Mo_sends_37 (by decide) rfl ?_
      refine sx_goto (tgt := 42) hX d_Mo_sends_38 (by decide) ?_
      exact g_Mo_sends_b42 hX hK hE  ih v2 v3 v4 (σ 68 0 0 ((145 + (7 * v3)) + v2).toNatClampNeg) 1 _ _ h
set_option maxRecDepth 100000 in
set_option maxHeartbeats 4000000 in
theorem c_Mo_sends {l : Launch} {K : sx_K} (hK : kx_F K) (x1 : Int32) (x2 : Int32) (σ : sx_M) (τ : sx_L) (Q : Int32 → sx_M → sx_L → Prop)  (h : wp_Mo_sends x1 x2 σ τ Q) : Met l y_Mo_sends (sx_wd y_Mo_sends prog_13_method_64_code 8 (some .int)) rm_Mo_sends (sx_Pc K [.ref (K.2.2.1 50 0 0), .int x1, .int x2] σ τ) (sx_Qi K Q) 0 0 (sx_A K) := by
  refine sx_met (by decide) (Nat.le_of_ble_eq_true rfl) (fun X hX hE => ?_)
  replace hX : sx_C X K prog_13_method_64_code 8 "SensorTreeModel" (some .int) rm_Mo_sends l := hX
  show sx_G X K 8 0 [(0, .ref (K.2.2.1 50 0 0)), (1, .int x1), (2, .int x2)] [] (sx_H K σ τ)
  unfold wp_Mo_sends at h
  refine sx_iload_n (pc2 := 1) hX 1 d_Mo_sends_0 rfl rfl rfl ?_
  refine sx_istore_n (pc2 := 2) hX _ [(0, .ref (K.2.2.1 50 0 0)), (1, .int x1), (2, .int x2), (3, .int x1)] [1, 2, 3, 0] d_Mo_sends_1 rfl (by decide) rfl rfl rfl ?_
  refine sx_iconst (v := (-1)) (pc2 := 3) hX d_Mo_sends_2 (by decide) rfl ?_
  refine sx_istore (pc2 := 5) hX _ [(0, .ref (K.2.2.1 50 0 0)), (1, .int x1), (2, .int x2), (3, .int x1), (4, .int (-1))] [1, 2, 3, 4, 0] d_Mo_sends_3 (by decide) rfl rfl rfl ?_
  refine sx_aload_n (pc2 := 6) hX 0 d_Mo_sends_5 rfl rfl rfl ?_
  refine sx_iconst (v := 0) (pc2 := 7) hX d_Mo_sends_6 (by decide) rfl ?_
  refine fp_Mo_305 (pc2 := 10) hX (kr_50 hK) d_Mo_sends_7 rfl ?_
  refine sx_nm (fun σ29 e29 => ?_)
  replace h := h σ29 e29
  refine sx_aload_n (pc2 := 11) hX 0 d_Mo_sends_10 rfl rfl rfl ?_
  refine sx_iconst (v := 0) (pc2 := 12) hX d_Mo_sends_11 (by decide) rfl ?_
  refine fp_Mo_308 (pc2 := 15) hX (kr_50 hK) d_Mo_sends_12 rfl ?_
  refine sx_nm (fun σ30 e30 => ?_)
  replace h := h σ30 e30
  refine sx_sub [(0, .ref (K.2.2.1 50 0 0)), (2, .int x2), (3, .int x1), (4, .int (-1))] [0, 2, 3, 4] rfl ?_
  obtain ⟨f15, h⟩ := h
  exact g_Mo_sends_b15 hX hK hE   f15 x2 x1 (-1) _ _ h
theorem cl_Mo_335 {X : sx_T} {K : sx_K} {cc : ByteArray} {nL : Nat} {ret : Option FieldType} {rm : Room} {l : Launch} {pc pc2 : Nat} {lv : List (Nat × Value)} {st : List Value} {σ : sx_M} {τ : sx_L} {x1 : Int32} {x2 : Int32} {Q : Int32 → sx_M → sx_L → Prop} (hX : sx_C X K cc nL "SensorTreeModel" ret rm l) (hK : kx_F K) (h : wp_Mo_sends x1 x2 σ τ Q)  (hR : rm_Mo_sends.frames + 1 ≤ rm.frames ∧ 8 + (8 + 11) + rm_Mo_sends.locals ≤ rm.locals) (hst : (st.map fun v => v.category).sum ≤ 8) (hd : decode cc pc = .ok (.invokevirtual 335, 3)) (hpc : pc + 3 = pc2) (kk : ∀ (r : Int32) (σ2 : sx_M) (τ2 : sx_L), Q r σ2 τ2 → sx_G X K nL pc2 lv (.int r :: st) (sx_H K σ2 τ2)) : sx_G X K nL pc lv (.int x2 :: .int x1 :: .ref (K.2.2.1 50 0 0) :: st) (sx_H K σ τ) :=
  sx_callVi (Q := Q) (As := [.int x1, .int x2]) hX (c_Mo_sends hK x1 x2 σ τ Q  h) (kr_50 hK) rfl rfl lk_541 ls_87 hy_Mo_sends lk_539 lk_364 lk_540 ⟨rfl, rfl⟩ hR hst rfl hd hpc kk
def y_Mo_canSend : MethodName := ⟨"SensorTreeModel", "canSend", "(II)Z"⟩
theorem hy_Mo_canSend : y_Mo_canSend.cls ≠ "java/lang/invoke/MethodHandle" ∧ y_Mo_canSend.cls ≠ "java/lang/invoke/VarHandle" ∧ (parseMethodDescriptor y_Mo_canSend.desc).map (fun d => d.parameters.length) = some 2 := by decide +kernel
theorem d_Mo_canSend_0 : decode prog_13_method_65_code 0 = .ok (.aload_n 0, 1) := by decide +kernel
theorem d_Mo_canSend_1 : decode prog_13_method_65_code 1 = .ok (.iload_n 1, 1) := by decide +kernel
theorem d_Mo_canSend_2 : decode prog_13_method_65_code 2 = .ok (.invokevirtual 311, 3) := by decide +kernel
theorem d_Mo_canSend_5 : decode prog_13_method_65_code 5 = .ok (.ifCond .eq 50, 3) := by decide +kernel
theorem d_Mo_canSend_8 : decode prog_13_method_65_code 8 = .ok (.aload_n 0, 1) := by decide +kernel
theorem d_Mo_canSend_9 : decode prog_13_method_65_code 9 = .ok (.iload_n 2, 1) := by decide +kernel
theorem d_Mo_canSend_10 : decode prog_13_method_65_code 10 = .ok (.invokevirtual 311, 3) := by decide +kernel
theorem d_Mo_canSend_13 : decode prog_13_method_65_code 13 = .ok (.ifCond .eq 42, 3) := by decide +kernel
theorem d_Mo_canSend_16 : decode prog_13_method_65_code 16 = .ok (.iload_n 1, 1) := by decide +kernel
theorem d_Mo_canSend_17 : decode prog_13_method_65_code 17 = .ok (.iload_n 2, 1) := by decide +kernel
theorem d_Mo_canSend_18 : decode prog_13_method_65_code 18 = .ok (.if_icmp .eq 37, 3) := by decide +kernel
theorem d_Mo_canSend_21 : decode prog_13_method_65_code 21 = .ok (.aload_n 0, 1) := by decide +kernel
theorem d_Mo_canSend_22 : decode prog_13_method_65_code 22 = .ok (.getfield 68, 3) := by decide +kernel
theorem d_Mo_canSend_25 : decode prog_13_method_65_code 25 = .ok (.bipush 9, 2) := by decide +kernel
theorem d_Mo_canSend_27 : decode prog_13_method_65_code 27 = .ok (.iaload, 1) := by decide +kernel
theorem d_Mo_canSend_28 : decode prog_13_method_65_code 28 = .ok (.iload_n 1, 1) := by decide +kernel
theorem d_Mo_canSend_29 : decode prog_13_method_65_code 29 = .ok (.ishr, 1) := by decide +kernel
theorem d_Mo_canSend_30 : decode prog_13_method_65_code 30 = .ok (.iconst 1, 1) := by decide +kernel
theorem d_Mo_canSend_31 : decode prog_13_method_65_code 31 = .ok (.iand, 1) := by decide +kernel
theorem d_Mo_canSend_32 : decode prog_13_method_65_code 32 = .ok (.iconst 1, 1) := by decide +kernel
theorem d_Mo_canSend_33 : decode prog_13_method_65_code 33 = .ok (.if_icmp .ne 22, 3) := by decide +kernel
theorem d_Mo_canSend_36 : decode prog_13_method_65_code 36 = .ok (.aload_n 0, 1) := by decide +kernel
theorem d_Mo_canSend_37 : decode prog_13_method_65_code 37 = .ok (.getfield 68, 3) := by decide +kernel
theorem d_Mo_canSend_40 : decode prog_13_method_65_code 40 = .ok (.bipush 9, 2) := by decide +kernel
theorem d_Mo_canSend_42 : decode prog_13_method_65_code 42 = .ok (.iaload, 1) := by decide +kernel
theorem d_Mo_canSend_43 : decode prog_13_method_65_code 43 = .ok (.iload_n 2, 1) := by decide +kernel
theorem d_Mo_canSend_44 : decode prog_13_method_65_code 44 = .ok (.ishr, 1) := by decide +kernel
theorem d_Mo_canSend_45 : decode prog_13_method_65_code 45 = .ok (.iconst 1, 1) := by decide +kernel
theorem d_Mo_canSend_46 : decode prog_13_method_65_code 46 = .ok (.iand, 1) := by decide +kernel
theorem d_Mo_canSend_47 : decode prog_13_method_65_code 47 = .ok (.iconst 1, 1) := by decide +kernel
theorem d_Mo_canSend_48 : decode prog_13_method_65_code 48 = .ok (.if_icmp .ne 7, 3) := by decide +kernel
theorem d_Mo_canSend_51 : decode prog_13_method_65_code 51 = .ok (.iconst 1, 1) := by decide +kernel
theorem d_Mo_canSend_52 : decode prog_13_method_65_code 52 = .ok (.goto 4, 3) := by decide +kernel
theorem d_Mo_canSend_55 : decode prog_13_method_65_code 55 = .ok (.iconst 0, 1) := by decide +kernel
theorem d_Mo_canSend_56 : decode prog_13_method_65_code 56 = .ok (.ireturn, 1) := by decide +kernel
def wp_Mo_canSend_b56   (Q : Int32 → sx_M → sx_L → Prop) (w0 : Int32) (σ : sx_M) (τ : sx_L) : Prop := (w0 = 0 ∨ w0 = 1) ∧ (Q w0 σ τ)
def wp_Mo_canSend_b55   (Q : Int32 → sx_M → sx_L → Prop)  (σ : sx_M) (τ : sx_L) : Prop := wp_Mo_canSend_b56 Q 0 σ τ
def wp_Mo_canSend (x1 : Int32) (x2 : Int32) (σ : sx_M) (τ : sx_L) (Q : Int32 → sx_M → sx_L → Prop) : Prop := wp_Mo_isPost x1 σ τ (fun r2 σ2 τ2 => if r2 = 0 then (wp_Mo_canSend_b55 Q σ2 τ2) else (wp_Mo_isPost x2 σ2 τ2 (fun r4 σ4 τ4 => if r4 = 0 then (wp_Mo_canSend_b55 Q σ4 τ4) else (if x1 = x2 then (wp_Mo_canSend_b55 Q σ4 τ4) else (vp_in 9 643 ∧ (if ((σ4 67 0 0 (9 : Int32).toNatClampNeg) >>> (x1 &&& 31)) &&& 1 = 1 then (vp_in 9 643 ∧ (if ((σ4 67 0 0 (9 : Int32).toNatClampNeg) >>> (x2 &&& 31)) &&& 1 = 1 then (wp_Mo_canSend_b56 Q 1 σ4 τ4) else (wp_Mo_canSend_b55 Q σ4 τ4))) else (wp_Mo_canSend_b55 Q σ4 τ4)))))))
abbrev rm_Mo_canSend : Room := { frames := 2, cells := 0, slots := 0, locals := 43 }
set_option maxRecDepth 100000 in
set_option maxHeartbeats 4000000 in
theorem g_Mo_canSend_b56 {l : Launch} {K : sx_K} {X : sx_T}   {Q : Int32 → sx_M → sx_L → Prop} (hX : sx_C X K prog_13_method_65_code 3 "SensorTreeModel" (some .boolean) rm_Mo_canSend l) (hK : kx_F K) (hE : sx_E X K (sx_Qi K Q))  (w0 : Int32) (σ : sx_M) (τ : sx_L)  (h : wp_Mo_canSend_b56 Q  w0 σ τ) : sx_G X K 3 56 [] [.int w0] (sx_H K σ τ) := by
  unfold wp_Mo_canSend_b56 at h
  obtain ⟨hc1, h⟩ := h
  exact sx_zret hX hE hc1 h d_Mo_canSend_56
set_option maxRecDepth 100000 in
set_option maxHeartbeats 4000000 in
theorem g_Mo_canSend_b55 {l : Launch} {K : sx_K} {X : sx_T}   {Q : Int32 → sx_M → sx_L → Prop} (hX : sx_C X K prog_13_method_65_code 3 "SensorTreeModel" (some .boolean) rm_Mo_canSend l) (hK : kx_F K) (hE : sx_E X K (sx_Qi K Q))   (σ : sx_M) (τ : sx_L)  (h : wp_Mo_canSend_b55 Q  σ τ) : sx_G X K 3 55 [] [] (sx_H K σ τ) := by
  unfold wp_Mo_canSend_b55 at h
  refine sx_iconst (v := 0) (pc2 := 56) hX d_Mo_canSend_55 (by decide) rfl ?_
  exact g_Mo_canSend_b56 hX hK hE   0 _ _ h
set_option maxRecDepth 100000 in
set_option maxHeartbeats 4000000 in
theorem c_Mo_canSend {l : Launch} {K : sx_K} (hK : kx_F K) (x1 : Int32) (x2 : Int32) (σ : sx_M) (τ : sx_L) (Q : Int32 → sx_M → sx_L → Prop)  (h : wp_Mo_canSend x1 x2 σ τ Q) : Met l y_Mo_canSend (sx_wd y_Mo_canSend prog_13_method_65_code 3 (some .boolean)) rm_Mo_canSend (sx_Pc K [.ref (K.2.2.1 50 0 0), .int x1, .int x2] σ τ) (sx_Qi K Q) 0 0 (sx_A K) := by
  refine sx_met (by decide) (Nat.le_of_ble_eq_true rfl) (fun X hX hE => ?_)
  replace hX : sx_C X K prog_13_method_65_code 3 "SensorTreeModel" (some .boolean) rm_Mo_canSend l := hX
  show sx_G X K 3 0 [(0, .ref (K.2.2.1 50 0 0)), (1, .int x1), (2, .int x2)] [] (sx_H K σ τ)
  unfold wp_Mo_canSend at h
  refine sx_aload_n (pc2 := 1) hX 0 d_Mo_canSend_0 rfl rfl rfl ?_
  refine sx_iload_n (pc2 := 2) hX 1 d_Mo_canSend_1 rfl rfl rfl ?_
  refine cl_Mo_311 (pc2 := 5) hX hK h  ⟨Nat.le_of_ble_eq_true rfl, Nat.le_of_ble_eq_true rfl⟩ (Nat.le_of_ble_eq_true rfl) d_Mo_canSend_2 rfl (fun r2 σ2 τ2 h => ?_)
  refine sx_if_eq (tgt := 55) (pc2 := 8) hX d_Mo_canSend_5 (by decide) rfl (fun hc3 => ?_) (fun hc3 => ?_)
  · replace h := sx_t h hc3
    refine sx_sub [] [] rfl ?_
    exact g_Mo_canSend_b55 hX hK hE   _ _ h
  · replace h := sx_f h hc3
    refine sx_aload_n (pc2 := 9) hX 0 d_Mo_canSend_8 rfl rfl rfl ?_
    refine sx_iload_n (pc2 := 10) hX 2 d_Mo_canSend_9 rfl rfl rfl ?_
    refine cl_Mo_311 (pc2 := 13) hX hK h  ⟨Nat.le_of_ble_eq_true rfl, Nat.le_of_ble_eq_true rfl⟩ (Nat.le_of_ble_eq_true rfl) d_Mo_canSend_10 rfl (fun r4 σ4 τ4 h => ?_)
    refine sx_if_eq (tgt := 55) (pc2 := 16) hX d_Mo_canSend_13 (by decide) rfl (fun hc5 => ?_) (fun hc5 => ?_)
    · replace h := sx_t h hc5
      refine sx_sub [] [] rfl ?_
      exact g_Mo_canSend_b55 hX hK hE   _ _ h
    · replace h := sx_f h hc5
      refine sx_iload_n (pc2 := 17) hX 1 d_Mo_canSend_16 rfl rfl rfl ?_
      refine sx_iload_n (pc2 := 18) hX 2 d_Mo_canSend_17 rfl rfl rfl ?_
      refine sx_icmp_eq (tgt := 55) (pc2 := 21) hX d_Mo_canSend_18 (by decide) rfl (fun hc6 => ?_) (fun hc6 => ?_)
      · replace h := sx_t h hc6
        refine sx_sub [] [] rfl ?_
        exact g_Mo_canSend_b55 hX hK hE   _ _ h
      · replace h := sx_f h hc6
        refine sx_aload_n (pc2 := 22) hX 0 d_Mo_canSend_21 rfl rfl rfl ?_
        refine fg_Mo_68 (pc2 := 25) hX (kr_50 hK) d_Mo_canSend_22 rfl ?_
        refine sx_bipush (v := 9) (pc2 := 27) hX d_Mo_canSend_25 (by decide) rfl ?_
        obtain ⟨hc7, h⟩ := h
        refine sx_iald (pc2 := 28) hX (kr_67 hK) rfl hc7 d_Mo_canSend_27 rfl ?_
        refine sx_iload_n (pc2 := 29) hX 1 d_Mo_canSend_28 rfl rfl rfl ?_
        refine sx_ishr (pc2 := 30) hX d_Mo_canSend_29 rfl ?_
        refine sx_iconst (v := 1) (pc2 := 31) hX d_Mo_canSend_30 (by decide) rfl ?_
        refine sx_iand (pc2 := 32) hX d_Mo_canSend_31 rfl ?_
        refine sx_iconst (v := 1) (pc2 := 33) hX d_Mo_canSend_32 (by decide) rfl ?_
        refine sx_icmp_ne (tgt := 55) (pc2 := 36) hX d_Mo_canSend_33 (by decide) rfl (fun hc8 => ?_) (fun hc8 => ?_)
        · replace h := sx_f h hc8
          refine sx_sub [] [] rfl ?_
          exact g_Mo_canSend_b55 hX hK hE   _ _ h
        · replace h := sx_t h hc8
          refine sx_aload_n (pc2 := 37) hX 0 d_Mo_canSend_36 rfl rfl rfl ?_
          refine fg_Mo_68 (pc2 := 40) hX (kr_50 hK) d_Mo_canSend_37 rfl ?_
          refine sx_bipush (v := 9) (pc2 := 42) hX d_Mo_canSend_40 (by decide) rfl ?_
          obtain ⟨hc9, h⟩ := h
          refine sx_iald (pc2 := 43) hX (kr_67 hK) rfl hc9 d_Mo_canSend_42 rfl ?_
          refine sx_iload_n (pc2 := 44) hX 2 d_Mo_canSend_43 rfl rfl rfl ?_
          refine sx_ishr (pc2 := 45) hX d_Mo_canSend_44 rfl ?_
          refine sx_iconst (v := 1) (pc2 := 46) hX d_Mo_canSend_45 (by decide) rfl ?_
          refine sx_iand (pc2 := 47) hX d_Mo_canSend_46 rfl ?_
          refine sx_iconst (v := 1) (pc2 := 48) hX d_Mo_canSend_47 (by decide) rfl ?_
          refine sx_icmp_ne (tgt := 55) (pc2 := 51) hX d_Mo_canSend_48 (by decide) rfl (fun hc10 => ?_) (fun hc10 => ?_)
          · replace h := sx_f h hc10
            refine sx_sub [] [] rfl ?_
            exact g_Mo_canSend_b55 hX hK hE   _ _ h
          · replace h := sx_t h hc10
            refine sx_iconst (v := 1) (pc2 := 52) hX d_Mo_canSend_51 (by decide) rfl ?_
            refine sx_goto (tgt := 56) hX d_Mo_canSend_52 (by decide) ?_
            refine sx_sub [] [] rfl ?_
            exact g_Mo_canSend_b56 hX hK hE   1 _ _ h
theorem cl_Mo_332 {X : sx_T} {K : sx_K} {cc : ByteArray} {nL : Nat} {ret : Option FieldType} {rm : Room} {l : Launch} {pc pc2 : Nat} {lv : List (Nat × Value)} {st : List Value} {σ : sx_M} {τ : sx_L} {x1 : Int32} {x2 : Int32} {Q : Int32 → sx_M → sx_L → Prop} (hX : sx_C X K cc nL "SensorTreeModel" ret rm l) (hK : kx_F K) (h : wp_Mo_canSend x1 x2 σ τ Q)  (hR : rm_Mo_canSend.frames + 1 ≤ rm.frames ∧ 8 + (3 + 11) + rm_Mo_canSend.locals ≤ rm.locals) (hst : (st.map fun v => v.category).sum ≤ 8) (hd : decode cc pc = .ok (.invokevirtual 332, 3)) (hpc : pc + 3 = pc2) (kk : ∀ (r : Int32) (σ2 : sx_M) (τ2 : sx_L), Q r σ2 τ2 → sx_G X K nL pc2 lv (.int r :: st) (sx_H K σ2 τ2)) : sx_G X K nL pc lv (.int x2 :: .int x1 :: .ref (K.2.2.1 50 0 0) :: st) (sx_H K σ τ) :=
  sx_callVi (Q := Q) (As := [.int x1, .int x2]) hX (c_Mo_canSend hK x1 x2 σ τ Q  h) (kr_50 hK) rfl rfl lk_538 ls_86 hy_Mo_canSend lk_536 lk_364 lk_537 ⟨rfl, rfl⟩ hR hst rfl hd hpc kk
def y_Mo_marks : MethodName := ⟨"SensorTreeModel", "marks", "()V"⟩
theorem hy_Mo_marks : y_Mo_marks.cls ≠ "java/lang/invoke/MethodHandle" ∧ y_Mo_marks.cls ≠ "java/lang/invoke/VarHandle" ∧ (parseMethodDescriptor y_Mo_marks.desc).map (fun d => d.parameters.length) = some 0 := by decide +kernel
theorem d_Mo_marks_0 : decode prog_13_method_66_code 0 = .ok (.aload_n 0, 1) := by decide +kernel
theorem d_Mo_marks_1 : decode prog_13_method_66_code 1 = .ok (.getfield 179, 3) := by decide +kernel
theorem d_Mo_marks_4 : decode prog_13_method_66_code 4 = .ok (.bipush 20, 2) := by decide +kernel
theorem d_Mo_marks_6 : decode prog_13_method_66_code 6 = .ok (.if_icmp .ne 26, 3) := by decide +kernel
theorem d_Mo_marks_9 : decode prog_13_method_66_code 9 = .ok (.aload_n 0, 1) := by decide +kernel
theorem d_Mo_marks_10 : decode prog_13_method_66_code 10 = .ok (.aload_n 0, 1) := by decide +kernel
theorem d_Mo_marks_11 : decode prog_13_method_66_code 11 = .ok (.getfield 314, 3) := by decide +kernel
theorem d_Mo_marks_14 : decode prog_13_method_66_code 14 = .ok (.iconst 1, 1) := by decide +kernel
theorem d_Mo_marks_15 : decode prog_13_method_66_code 15 = .ok (.iadd, 1) := by decide +kernel
theorem d_Mo_marks_16 : decode prog_13_method_66_code 16 = .ok (.bipush 20, 2) := by decide +kernel
theorem d_Mo_marks_18 : decode prog_13_method_66_code 18 = .ok (.irem, 1) := by decide +kernel
theorem d_Mo_marks_19 : decode prog_13_method_66_code 19 = .ok (.putfield 314, 3) := by decide +kernel
theorem d_Mo_marks_22 : decode prog_13_method_66_code 22 = .ok (.aload_n 0, 1) := by decide +kernel
theorem d_Mo_marks_23 : decode prog_13_method_66_code 23 = .ok (.dup, 1) := by decide +kernel
theorem d_Mo_marks_24 : decode prog_13_method_66_code 24 = .ok (.getfield 179, 3) := by decide +kernel
theorem d_Mo_marks_27 : decode prog_13_method_66_code 27 = .ok (.iconst 1, 1) := by decide +kernel
theorem d_Mo_marks_28 : decode prog_13_method_66_code 28 = .ok (.isub, 1) := by decide +kernel
theorem d_Mo_marks_29 : decode prog_13_method_66_code 29 = .ok (.putfield 179, 3) := by decide +kernel
theorem d_Mo_marks_32 : decode prog_13_method_66_code 32 = .ok (.aload_n 0, 1) := by decide +kernel
theorem d_Mo_marks_33 : decode prog_13_method_66_code 33 = .ok (.getfield 68, 3) := by decide +kernel
theorem d_Mo_marks_36 : decode prog_13_method_66_code 36 = .ok (.iconst 0, 1) := by decide +kernel
theorem d_Mo_marks_37 : decode prog_13_method_66_code 37 = .ok (.aload_n 0, 1) := by decide +kernel
theorem d_Mo_marks_38 : decode prog_13_method_66_code 38 = .ok (.getfield 80, 3) := by decide +kernel
theorem d_Mo_marks_41 : decode prog_13_method_66_code 41 = .ok (.sipush 643, 3) := by decide +kernel
theorem d_Mo_marks_44 : decode prog_13_method_66_code 44 = .ok (.aload_n 0, 1) := by decide +kernel
theorem d_Mo_marks_45 : decode prog_13_method_66_code 45 = .ok (.getfield 314, 3) := by decide +kernel
theorem d_Mo_marks_48 : decode prog_13_method_66_code 48 = .ok (.aload_n 0, 1) := by decide +kernel
theorem d_Mo_marks_49 : decode prog_13_method_66_code 49 = .ok (.getfield 179, 3) := by decide +kernel
theorem d_Mo_marks_52 : decode prog_13_method_66_code 52 = .ok (.iadd, 1) := by decide +kernel
theorem d_Mo_marks_53 : decode prog_13_method_66_code 53 = .ok (.bipush 20, 2) := by decide +kernel
theorem d_Mo_marks_55 : decode prog_13_method_66_code 55 = .ok (.irem, 1) := by decide +kernel
theorem d_Mo_marks_56 : decode prog_13_method_66_code 56 = .ok (.imul, 1) := by decide +kernel
theorem d_Mo_marks_57 : decode prog_13_method_66_code 57 = .ok (.invokestatic 220, 3) := by decide +kernel
theorem d_Mo_marks_60 : decode prog_13_method_66_code 60 = .ok (.aload_n 0, 1) := by decide +kernel
theorem d_Mo_marks_61 : decode prog_13_method_66_code 61 = .ok (.dup, 1) := by decide +kernel
theorem d_Mo_marks_62 : decode prog_13_method_66_code 62 = .ok (.getfield 179, 3) := by decide +kernel
theorem d_Mo_marks_65 : decode prog_13_method_66_code 65 = .ok (.iconst 1, 1) := by decide +kernel
theorem d_Mo_marks_66 : decode prog_13_method_66_code 66 = .ok (.iadd, 1) := by decide +kernel
theorem d_Mo_marks_67 : decode prog_13_method_66_code 67 = .ok (.putfield 179, 3) := by decide +kernel
theorem d_Mo_marks_70 : decode prog_13_method_66_code 70 = .ok (.aload_n 0, 1) := by decide +kernel
theorem d_Mo_marks_71 : decode prog_13_method_66_code 71 = .ok (.invokevirtual 317, 3) := by decide +kernel
theorem d_Mo_marks_74 : decode prog_13_method_66_code 74 = .ok (.return_, 1) := by decide +kernel
def wp_Mo_marks_b32   (Q : sx_M → sx_L → Prop)  (σ : sx_M) (τ : sx_L) : Prop := wp_Mo_lays2_now_earlier (0 : Int32) (643 * (((σ 50 0 0 36) + (σ 50 0 0 37)) - ((σ 50 0 0 36) + (σ 50 0 0 37)) / 20 * 20)) σ τ (fun σ1 τ1 => ∀ σ2 : sx_M, σ2 = sx_u σ1 50 0 0 37 ((σ1 50 0 0 37) + 1) → (wp_Mo_copies σ2 τ1 (fun σ3 τ3 => Q σ3 τ3)))
def wp_Mo_marks  (σ : sx_M) (τ : sx_L) (Q : sx_M → sx_L → Prop) : Prop := if σ 50 0 0 37 = 20 then (∀ σ5 : sx_M, σ5 = sx_u σ 50 0 0 36 (((σ 50 0 0 36) + 1) - ((σ 50 0 0 36) + 1) / 20 * 20) → (∀ σ6 : sx_M, σ6 = sx_u σ5 50 0 0 37 ((σ5 50 0 0 37) - 1) → (wp_Mo_marks_b32 Q σ6 τ))) else (wp_Mo_marks_b32 Q σ τ)
abbrev rm_Mo_marks : Room := { frames := 2, cells := 0, slots := 0, locals := 45 }
set_option maxRecDepth 100000 in
set_option maxHeartbeats 4000000 in
theorem g_Mo_marks_b32 {l : Launch} {K : sx_K} {X : sx_T}   {Q : sx_M → sx_L → Prop} (hX : sx_C X K prog_13_method_66_code 1 "SensorTreeModel" none rm_Mo_marks l) (hK : kx_F K) (hE : sx_E X K (sx_Qv K Q))   (σ : sx_M) (τ : sx_L)  (h : wp_Mo_marks_b32 Q  σ τ) : sx_G X K 1 32 [(0, .ref (K.2.2.1 50 0 0))] [] (sx_H K σ τ) := by
  unfold wp_Mo_marks_b32 at h
  refine sx_aload_n (pc2 := 33) hX 0 d_Mo_marks_32 rfl rfl rfl ?_
  refine fg_Mo_68 (pc2 := 36) hX (kr_50 hK) d_Mo_marks_33 rfl ?_
  refine sx_iconst (v := 0) (pc2 := 37) hX d_Mo_marks_36 (by decide) rfl ?_
  refine sx_aload_n (pc2 := 38) hX 0 d_Mo_marks_37 rfl rfl rfl ?_
  refine fg_Mo_80 (pc2 := 41) hX (kr_50 hK) d_Mo_marks_38 rfl ?_
  refine sx_sipush (v := 643) (pc2 := 44) hX d_Mo_marks_41 (by decide) rfl ?_
  refine sx_aload_n (pc2 := 45) hX 0 d_Mo_marks_44 rfl rfl rfl ?_
  refine fg_Mo_314 (pc2 := 48) hX (kr_50 hK) d_Mo_marks_45 rfl ?_
  refine sx_aload_n (pc2 := 49) hX 0 d_Mo_marks_48 rfl rfl rfl ?_
  refine fg_Mo_179 (pc2 := 52) hX (kr_50 hK) d_Mo_marks_49 rfl ?_
  refine sx_iadd (pc2 := 53) hX d_Mo_marks_52 rfl ?_
  refine sx_bipush (v := 20) (pc2 := 55) hX d_Mo_marks_53 (by decide) rfl ?_
  refine sx_irem (pc2 := 56) hX d_Mo_marks_55 (by decide) rfl ?_
  refine sx_imul (pc2 := 57) hX d_Mo_marks_56 rfl ?_
  refine cl_Mo_220_now_earlier (pc2 := 60) hX hK h  ⟨Nat.le_of_ble_eq_true rfl, Nat.le_of_ble_eq_true rfl⟩ (Nat.le_of_ble_eq_true rfl) d_Mo_marks_57 rfl (fun σ1 τ1 h => ?_)
  refine sx_aload_n (pc2 := 61) hX 0 d_Mo_marks_60 rfl rfl rfl ?_
  refine sx_dup (pc2 := 62) hX d_Mo_marks_61 rfl rfl ?_
  refine fg_Mo_179 (pc2 := 65) hX (kr_50 hK) d_Mo_marks_62 rfl ?_
  refine sx_iconst (v := 1) (pc2 := 66) hX d_Mo_marks_65 (by decide) rfl ?_
  refine sx_iadd (pc2 := 67) hX d_Mo_marks_66 rfl ?_
  refine fp_Mo_179 (pc2 := 70) hX (kr_50 hK) d_Mo_marks_67 rfl ?_
  refine sx_nm (fun σ2 e2 => ?_)
  replace h := h σ2 e2
  refine sx_aload_n (pc2 := 71) hX 0 d_Mo_marks_70 rfl rfl rfl ?_
  refine cl_Mo_317 (pc2 := 74) hX hK h  ⟨Nat.le_of_ble_eq_true rfl, Nat.le_of_ble_eq_true rfl⟩ (Nat.le_of_ble_eq_true rfl) d_Mo_marks_71 rfl (fun σ3 τ3 h => ?_)
  exact sx_vret hX hE h d_Mo_marks_74
set_option maxRecDepth 100000 in
set_option maxHeartbeats 4000000 in
theorem c_Mo_marks {l : Launch} {K : sx_K} (hK : kx_F K)  (σ : sx_M) (τ : sx_L) (Q : sx_M → sx_L → Prop)  (h : wp_Mo_marks σ τ Q) : Met l y_Mo_marks (sx_wd y_Mo_marks prog_13_method_66_code 1 none) rm_Mo_marks (sx_Pc K [.ref (K.2.2.1 50 0 0)] σ τ) (sx_Qv K Q) 0 0 (sx_A K) := by
  refine sx_met (by decide) (Nat.le_of_ble_eq_true rfl) (fun X hX hE => ?_)
  replace hX : sx_C X K prog_13_method_66_code 1 "SensorTreeModel" none rm_Mo_marks l := hX
  show sx_G X K 1 0 [(0, .ref (K.2.2.1 50 0 0))] [] (sx_H K σ τ)
  unfold wp_Mo_marks at h
  refine sx_aload_n (pc2 := 1) hX 0 d_Mo_marks_0 rfl rfl rfl ?_
  refine fg_Mo_179 (pc2 := 4) hX (kr_50 hK) d_Mo_marks_1 rfl ?_
  refine sx_bipush (v := 20) (pc2 := 6) hX d_Mo_marks_4 (by decide) rfl ?_
  refine sx_icmp_ne (tgt := 32) (pc2 := 9) hX d_Mo_marks_6 (by decide) rfl (fun hc4 => ?_) (fun hc4 => ?_)
  · replace h := sx_f h hc4
    exact g_Mo_marks_b32 hX hK hE   _ _ h
  · replace h := sx_t h hc4
    refine sx_aload_n (pc2 := 10) hX 0 d_Mo_marks_9 rfl rfl rfl ?_
    refine sx_aload_n (pc2 := 11) hX 0 d_Mo_marks_10 rfl rfl rfl ?_
    refine fg_Mo_314 (pc2 := 14) hX (kr_50 hK) d_Mo_marks_11 rfl ?_
    refine sx_iconst (v := 1) (pc2 := 15) hX d_Mo_marks_14 (by decide) rfl ?_
    refine sx_iadd (pc2 := 16) hX d_Mo_marks_15 rfl ?_
    refine sx_bipush (v := 20) (pc2 := 18) hX d_Mo_marks_16 (by decide) rfl ?_
    refine sx_irem (pc2 := 19) hX d_Mo_marks_18 (by decide) rfl ?_
    refine fp_Mo_314 (pc2 := 22) hX (kr_50 hK) d_Mo_marks_19 rfl ?_
    refine sx_nm (fun σ5 e5 => ?_)
    replace h := h σ5 e5
    refine sx_aload_n (pc2 := 23) hX 0 d_Mo_marks_22 rfl rfl rfl ?_
    refine sx_dup (pc2 := 24) hX d_Mo_marks_23 rfl rfl ?_
    refine fg_Mo_179 (pc2 := 27) hX (kr_50 hK) d_Mo_marks_24 rfl ?_
    refine sx_iconst (v := 1) (pc2 := 28) hX d_Mo_marks_27 (by decide) rfl ?_
    refine sx_isub (pc2 := 29) hX d_Mo_marks_28 rfl ?_
    refine fp_Mo_179 (pc2 := 32) hX (kr_50 hK) d_Mo_marks_29 rfl ?_
    refine sx_nm (fun σ6 e6 => ?_)
    replace h := h σ6 e6
    exact g_Mo_marks_b32 hX hK hE   _ _ h
theorem cl_Mo_320 {X : sx_T} {K : sx_K} {cc : ByteArray} {nL : Nat} {ret : Option FieldType} {rm : Room} {l : Launch} {pc pc2 : Nat} {lv : List (Nat × Value)} {st : List Value} {σ : sx_M} {τ : sx_L}  {Q : sx_M → sx_L → Prop} (hX : sx_C X K cc nL "SensorTreeModel" ret rm l) (hK : kx_F K) (h : wp_Mo_marks  σ τ Q)  (hR : rm_Mo_marks.frames + 1 ≤ rm.frames ∧ 8 + (1 + 11) + rm_Mo_marks.locals ≤ rm.locals) (hst : (st.map fun v => v.category).sum ≤ 8) (hd : decode cc pc = .ok (.invokevirtual 320, 3)) (hpc : pc + 3 = pc2) (kk : ∀ (σ2 : sx_M) (τ2 : sx_L), Q σ2 τ2 → sx_G X K nL pc2 lv (st) (sx_H K σ2 τ2)) : sx_G X K nL pc lv (.ref (K.2.2.1 50 0 0) :: st) (sx_H K σ τ) :=
  sx_callVv (Q := Q) (As := []) hX (c_Mo_marks hK  σ τ Q  h) (kr_50 hK) rfl rfl lk_526 ls_62 hy_Mo_marks lk_524 lk_364 lk_525 ⟨rfl, rfl⟩ hR hst rfl hd hpc kk
def y_Mo_ticks : MethodName := ⟨"SensorTreeModel", "ticks", "(I)I"⟩
theorem hy_Mo_ticks : y_Mo_ticks.cls ≠ "java/lang/invoke/MethodHandle" ∧ y_Mo_ticks.cls ≠ "java/lang/invoke/VarHandle" ∧ (parseMethodDescriptor y_Mo_ticks.desc).map (fun d => d.parameters.length) = some 1 := by decide +kernel
theorem d_Mo_ticks_0 : decode prog_13_method_67_code 0 = .ok (.iload_n 1, 1) := by decide +kernel
theorem d_Mo_ticks_1 : decode prog_13_method_67_code 1 = .ok (.iconst 0, 1) := by decide +kernel
theorem d_Mo_ticks_2 : decode prog_13_method_67_code 2 = .ok (.sipush 200, 3) := by decide +kernel
theorem d_Mo_ticks_5 : decode prog_13_method_67_code 5 = .ok (.invokestatic 216, 3) := by decide +kernel
theorem d_Mo_ticks_8 : decode prog_13_method_67_code 8 = .ok (.ifCond .ne 5, 3) := by decide +kernel
theorem d_Mo_ticks_11 : decode prog_13_method_67_code 11 = .ok (.iconst (-1), 1) := by decide +kernel
theorem d_Mo_ticks_12 : decode prog_13_method_67_code 12 = .ok (.ireturn, 1) := by decide +kernel
theorem d_Mo_ticks_13 : decode prog_13_method_67_code 13 = .ok (.iload_n 1, 1) := by decide +kernel
theorem d_Mo_ticks_14 : decode prog_13_method_67_code 14 = .ok (.ifCond .le 16, 3) := by decide +kernel
theorem d_Mo_ticks_17 : decode prog_13_method_67_code 17 = .ok (.aload_n 0, 1) := by decide +kernel
theorem d_Mo_ticks_18 : decode prog_13_method_67_code 18 = .ok (.invokevirtual 320, 3) := by decide +kernel
theorem d_Mo_ticks_21 : decode prog_13_method_67_code 21 = .ok (.aload_n 0, 1) := by decide +kernel
theorem d_Mo_ticks_22 : decode prog_13_method_67_code 22 = .ok (.iload_n 1, 1) := by decide +kernel
theorem d_Mo_ticks_23 : decode prog_13_method_67_code 23 = .ok (.invokevirtual 323, 3) := by decide +kernel
theorem d_Mo_ticks_26 : decode prog_13_method_67_code 26 = .ok (.aload_n 0, 1) := by decide +kernel
theorem d_Mo_ticks_27 : decode prog_13_method_67_code 27 = .ok (.invokevirtual 103, 3) := by decide +kernel
theorem d_Mo_ticks_30 : decode prog_13_method_67_code 30 = .ok (.aload_n 0, 1) := by decide +kernel
theorem d_Mo_ticks_31 : decode prog_13_method_67_code 31 = .ok (.getfield 68, 3) := by decide +kernel
theorem d_Mo_ticks_34 : decode prog_13_method_67_code 34 = .ok (.iconst 0, 1) := by decide +kernel
theorem d_Mo_ticks_35 : decode prog_13_method_67_code 35 = .ok (.iaload, 1) := by decide +kernel
theorem d_Mo_ticks_36 : decode prog_13_method_67_code 36 = .ok (.ireturn, 1) := by decide +kernel
def wp_Mo_ticks_b30   (Q : Int32 → sx_M → sx_L → Prop)  (σ : sx_M) (τ : sx_L) : Prop := vp_in 0 643 ∧ (Q (σ 67 0 0 (0 : Int32).toNatClampNeg) σ τ)
def wp_Mo_ticks (x1 : Int32) (σ : sx_M) (τ : sx_L) (Q : Int32 → sx_M → sx_L → Prop) : Prop := wp_Mo_in x1 (0 : Int32) (200 : Int32) σ τ (fun r2 σ2 τ2 => if r2 = 0 then (Q (-1) σ2 τ2) else (if x1 ≤ 0 then (wp_Mo_ticks_b30 Q σ2 τ2) else (wp_Mo_marks σ2 τ2 (fun σ5 τ5 => wp_Mo_goes x1 σ5 τ5 (fun σ6 τ6 => wp_Mo_keepsRow σ6 τ6 (fun σ7 τ7 => wp_Mo_ticks_b30 Q σ7 τ7))))))
abbrev rm_Mo_ticks : Room := { frames := 9, cells := 0, slots := 0, locals := 209 }
set_option maxRecDepth 100000 in
set_option maxHeartbeats 4000000 in
theorem g_Mo_ticks_b30 {l : Launch} {K : sx_K} {X : sx_T}   {Q : Int32 → sx_M → sx_L → Prop} (hX : sx_C X K prog_13_method_67_code 2 "SensorTreeModel" (some .int) rm_Mo_ticks l) (hK : kx_F K) (hE : sx_E X K (sx_Qi K Q))   (σ : sx_M) (τ : sx_L)  (h : wp_Mo_ticks_b30 Q  σ τ) : sx_G X K 2 30 [(0, .ref (K.2.2.1 50 0 0))] [] (sx_H K σ τ) := by
  unfold wp_Mo_ticks_b30 at h
  refine sx_aload_n (pc2 := 31) hX 0 d_Mo_ticks_30 rfl rfl rfl ?_
  refine fg_Mo_68 (pc2 := 34) hX (kr_50 hK) d_Mo_ticks_31 rfl ?_
  refine sx_iconst (v := 0) (pc2 := 35) hX d_Mo_ticks_34 (by decide) rfl ?_
  obtain ⟨hc1, h⟩ := h
  refine sx_iald (pc2 := 36) hX (kr_67 hK) rfl hc1 d_Mo_ticks_35 rfl ?_
  exact sx_iret hX hE h d_Mo_ticks_36
set_option maxRecDepth 100000 in
set_option maxHeartbeats 4000000 in
theorem c_Mo_ticks {l : Launch} {K : sx_K} (hK : kx_F K) (x1 : Int32) (σ : sx_M) (τ : sx_L) (Q : Int32 → sx_M → sx_L → Prop)  (h : wp_Mo_ticks x1 σ τ Q) : Met l y_Mo_ticks (sx_wd y_Mo_ticks prog_13_method_67_code 2 (some .int)) rm_Mo_ticks (sx_Pc K [.ref (K.2.2.1 50 0 0), .int x1] σ τ) (sx_Qi K Q) 0 0 (sx_A K) := by
  refine sx_met (by decide) (Nat.le_of_ble_eq_true rfl) (fun X hX hE => ?_)
  replace hX : sx_C X K prog_13_method_67_code 2 "SensorTreeModel" (some .int) rm_Mo_ticks l := hX
  show sx_G X K 2 0 [(0, .ref (K.2.2.1 50 0 0)), (1, .int x1)] [] (sx_H K σ τ)
  unfold wp_Mo_ticks at h
  refine sx_iload_n (pc2 := 1) hX 1 d_Mo_ticks_0 rfl rfl rfl ?_
  refine sx_iconst (v := 0) (pc2 := 2) hX d_Mo_ticks_1 (by decide) rfl ?_
  refine sx_sipush (v := 200) (pc2 := 5) hX d_Mo_ticks_2 (by decide) rfl ?_
  refine cl_Mo_216 (pc2 := 8) hX hK h  ⟨Nat.le_of_ble_eq_true rfl, Nat.le_of_ble_eq_true rfl⟩ (Nat.le_of_ble_eq_true rfl) d_Mo_ticks_5 rfl (fun r2 σ2 τ2 h => ?_)
  refine sx_if_ne (tgt := 13) (pc2 := 11) hX d_Mo_ticks_8 (by decide) rfl (fun hc3 => ?_) (fun hc3 => ?_)
  · replace h := sx_f h hc3
    refine sx_iload_n (pc2 := 14) hX 1 d_Mo_ticks_13 rfl rfl rfl ?_
    refine sx_if_le (tgt := 30) (pc2 := 17) hX d_Mo_ticks_14 (by decide) rfl (fun hc4 => ?_) (fun hc4 => ?_)
    · replace h := sx_t h hc4
      refine sx_sub [(0, .ref (K.2.2.1 50 0 0))] [0] rfl ?_
      exact g_Mo_ticks_b30 hX hK hE   _ _ h
    · replace h := sx_f h hc4
      refine sx_aload_n (pc2 := 18) hX 0 d_Mo_ticks_17 rfl rfl rfl ?_
      refine cl_Mo_320 (pc2 := 21) hX hK h  ⟨Nat.le_of_ble_eq_true rfl, Nat.le_of_ble_eq_true rfl⟩ (Nat.le_of_ble_eq_true rfl) d_Mo_ticks_18 rfl (fun σ5 τ5 h => ?_)
      refine sx_aload_n (pc2 := 22) hX 0 d_Mo_ticks_21 rfl rfl rfl ?_
      refine sx_iload_n (pc2 := 23) hX 1 d_Mo_ticks_22 rfl rfl rfl ?_
      refine cl_Mo_323 (pc2 := 26) hX hK h  ⟨Nat.le_of_ble_eq_true rfl, Nat.le_of_ble_eq_true rfl⟩ (Nat.le_of_ble_eq_true rfl) d_Mo_ticks_23 rfl (fun σ6 τ6 h => ?_)
      refine sx_aload_n (pc2 := 27) hX 0 d_Mo_ticks_26 rfl rfl rfl ?_
      refine cl_Mo_103 (pc2 := 30) hX hK h  ⟨Nat.le_of_ble_eq_true rfl, Nat.le_of_ble_eq_true rfl⟩ (Nat.le_of_ble_eq_true rfl) d_Mo_ticks_27 rfl (fun σ7 τ7 h => ?_)
      refine sx_sub [(0, .ref (K.2.2.1 50 0 0))] [0] rfl ?_
      exact g_Mo_ticks_b30 hX hK hE   _ _ h
  · replace h := sx_t h hc3
    refine sx_iconst (v := (-1)) (pc2 := 12) hX d_Mo_ticks_11 (by decide) rfl ?_
    exact sx_iret hX hE h d_Mo_ticks_12
def y_Mo_join : MethodName := ⟨"SensorTreeModel", "join", "(IZ)Z"⟩
theorem hy_Mo_join : y_Mo_join.cls ≠ "java/lang/invoke/MethodHandle" ∧ y_Mo_join.cls ≠ "java/lang/invoke/VarHandle" ∧ (parseMethodDescriptor y_Mo_join.desc).map (fun d => d.parameters.length) = some 2 := by decide +kernel
theorem d_Mo_join_0 : decode prog_13_method_68_code 0 = .ok (.aload_n 0, 1) := by decide +kernel
theorem d_Mo_join_1 : decode prog_13_method_68_code 1 = .ok (.iload_n 1, 1) := by decide +kernel
theorem d_Mo_join_2 : decode prog_13_method_68_code 2 = .ok (.invokevirtual 326, 3) := by decide +kernel
theorem d_Mo_join_5 : decode prog_13_method_68_code 5 = .ok (.ifCond .eq 26, 3) := by decide +kernel
theorem d_Mo_join_8 : decode prog_13_method_68_code 8 = .ok (.aload_n 0, 1) := by decide +kernel
theorem d_Mo_join_9 : decode prog_13_method_68_code 9 = .ok (.getfield 68, 3) := by decide +kernel
theorem d_Mo_join_12 : decode prog_13_method_68_code 12 = .ok (.bipush 8, 2) := by decide +kernel
theorem d_Mo_join_14 : decode prog_13_method_68_code 14 = .ok (.iaload, 1) := by decide +kernel
theorem d_Mo_join_15 : decode prog_13_method_68_code 15 = .ok (.iload_n 1, 1) := by decide +kernel
theorem d_Mo_join_16 : decode prog_13_method_68_code 16 = .ok (.ishr, 1) := by decide +kernel
theorem d_Mo_join_17 : decode prog_13_method_68_code 17 = .ok (.iconst 1, 1) := by decide +kernel
theorem d_Mo_join_18 : decode prog_13_method_68_code 18 = .ok (.iand, 1) := by decide +kernel
theorem d_Mo_join_19 : decode prog_13_method_68_code 19 = .ok (.iload_n 2, 1) := by decide +kernel
theorem d_Mo_join_20 : decode prog_13_method_68_code 20 = .ok (.ifCond .eq 7, 3) := by decide +kernel
theorem d_Mo_join_23 : decode prog_13_method_68_code 23 = .ok (.iconst 1, 1) := by decide +kernel
theorem d_Mo_join_24 : decode prog_13_method_68_code 24 = .ok (.goto 4, 3) := by decide +kernel
theorem d_Mo_join_27 : decode prog_13_method_68_code 27 = .ok (.iconst 0, 1) := by decide +kernel
theorem d_Mo_join_28 : decode prog_13_method_68_code 28 = .ok (.if_icmp .ne 5, 3) := by decide +kernel
theorem d_Mo_join_31 : decode prog_13_method_68_code 31 = .ok (.iconst 0, 1) := by decide +kernel
theorem d_Mo_join_32 : decode prog_13_method_68_code 32 = .ok (.ireturn, 1) := by decide +kernel
theorem d_Mo_join_33 : decode prog_13_method_68_code 33 = .ok (.aload_n 0, 1) := by decide +kernel
theorem d_Mo_join_34 : decode prog_13_method_68_code 34 = .ok (.invokevirtual 320, 3) := by decide +kernel
theorem d_Mo_join_37 : decode prog_13_method_68_code 37 = .ok (.aload_n 0, 1) := by decide +kernel
theorem d_Mo_join_38 : decode prog_13_method_68_code 38 = .ok (.getfield 71, 3) := by decide +kernel
theorem d_Mo_join_41 : decode prog_13_method_68_code 41 = .ok (.bipush 8, 2) := by decide +kernel
theorem d_Mo_join_43 : decode prog_13_method_68_code 43 = .ok (.dup2, 1) := by decide +kernel
theorem d_Mo_join_44 : decode prog_13_method_68_code 44 = .ok (.iaload, 1) := by decide +kernel
theorem d_Mo_join_45 : decode prog_13_method_68_code 45 = .ok (.iconst 1, 1) := by decide +kernel
theorem d_Mo_join_46 : decode prog_13_method_68_code 46 = .ok (.iload_n 1, 1) := by decide +kernel
theorem d_Mo_join_47 : decode prog_13_method_68_code 47 = .ok (.ishl, 1) := by decide +kernel
theorem d_Mo_join_48 : decode prog_13_method_68_code 48 = .ok (.ixor, 1) := by decide +kernel
theorem d_Mo_join_49 : decode prog_13_method_68_code 49 = .ok (.iastore, 1) := by decide +kernel
theorem d_Mo_join_50 : decode prog_13_method_68_code 50 = .ok (.aload_n 0, 1) := by decide +kernel
theorem d_Mo_join_51 : decode prog_13_method_68_code 51 = .ok (.invokevirtual 329, 3) := by decide +kernel
theorem d_Mo_join_54 : decode prog_13_method_68_code 54 = .ok (.aload_n 0, 1) := by decide +kernel
theorem d_Mo_join_55 : decode prog_13_method_68_code 55 = .ok (.invokevirtual 103, 3) := by decide +kernel
theorem d_Mo_join_58 : decode prog_13_method_68_code 58 = .ok (.iconst 1, 1) := by decide +kernel
theorem d_Mo_join_59 : decode prog_13_method_68_code 59 = .ok (.ireturn, 1) := by decide +kernel
def wp_Mo_join_b31   (Q : Int32 → sx_M → sx_L → Prop)  (σ : sx_M) (τ : sx_L) : Prop := Q 0 σ τ
def wp_Mo_join_b28   (Q : Int32 → sx_M → sx_L → Prop) (v1 : Int32) (w0 : Int32) (w1 : Int32) (σ : sx_M) (τ : sx_L) : Prop := if w0 = w1 then (wp_Mo_join_b31 Q σ τ) else (wp_Mo_marks σ τ (fun σ2 τ2 => vp_in 8 643 ∧ (vp_in 8 643 ∧ (∀ σ5 : sx_M, σ5 = sx_u σ2 68 0 0 (8 : Int32).toNatClampNeg ((σ2 68 0 0 (8 : Int32).toNatClampNeg) ^^^ (1 <<< (v1 &&& 31))) → (wp_Mo_allChoose σ5 τ2 (fun σ6 τ6 => wp_Mo_keepsRow σ6 τ6 (fun σ7 τ7 => Q 1 σ7 τ7)))))))
def wp_Mo_join (x1 : Int32) (x2 : Int32) (σ : sx_M) (τ : sx_L) (Q : Int32 → sx_M → sx_L → Prop) : Prop := wp_Mo_isLink x1 σ τ (fun r8 σ8 τ8 => if r8 = 0 then (wp_Mo_join_b31 Q σ8 τ8) else (vp_in 8 643 ∧ (if x2 = 0 then (wp_Mo_join_b28 Q x1 (((σ8 67 0 0 (8 : Int32).toNatClampNeg) >>> (x1 &&& 31)) &&& 1) 0 σ8 τ8) else (wp_Mo_join_b28 Q x1 (((σ8 67 0 0 (8 : Int32).toNatClampNeg) >>> (x1 &&& 31)) &&& 1) 1 σ8 τ8))))
abbrev rm_Mo_join : Room := { frames := 6, cells := 0, slots := 0, locals := 134 }
set_option maxRecDepth 100000 in
set_option maxHeartbeats 4000000 in
theorem g_Mo_join_b31 {l : Launch} {K : sx_K} {X : sx_T}   {Q : Int32 → sx_M → sx_L → Prop} (hX : sx_C X K prog_13_method_68_code 3 "SensorTreeModel" (some .boolean) rm_Mo_join l) (hK : kx_F K) (hE : sx_E X K (sx_Qi K Q))   (σ : sx_M) (τ : sx_L)  (h : wp_Mo_join_b31 Q  σ τ) : sx_G X K 3 31 [] [] (sx_H K σ τ) := by
  unfold wp_Mo_join_b31 at h
  refine sx_iconst (v := 0) (pc2 := 32) hX d_Mo_join_31 (by decide) rfl ?_
  exact sx_zret hX hE (by decide) h d_Mo_join_32
set_option maxRecDepth 100000 in
set_option maxHeartbeats 4000000 in
theorem g_Mo_join_b28 {l : Launch} {K : sx_K} {X : sx_T}   {Q : Int32 → sx_M → sx_L → Prop} (hX : sx_C X K prog_13_method_68_code 3 "SensorTreeModel" (some .boolean) rm_Mo_join l) (hK : kx_F K) (hE : sx_E X K (sx_Qi K Q))  (v1 : Int32) (w0 : Int32) (w1 : Int32) (σ : sx_M) (τ : sx_L)  (h : wp_Mo_join_b28 Q  v1 w0 w1 σ τ) : sx_G X K 3 28 [(0, .ref (K.2.2.1 50 0 0)), (1, .int v1)] [.int w1, .int w0] (sx_H K σ τ) := by
  unfold wp_Mo_join_b28 at h
  refine sx_icmp_ne (tgt := 33) (pc2 := 31) hX d_Mo_join_28 (by decide) rfl (fun hc1 => ?_) (fun hc1 => ?_)
  · replace h := sx_f h hc1
    refine sx_aload_n (pc2 := 34) hX 0 d_Mo_join_33 rfl rfl rfl ?_
    refine cl_Mo_320 (pc2 := 37) hX hK h  ⟨Nat.le_of_ble_eq_true rfl, Nat.le_of_ble_eq_true rfl⟩ (Nat.le_of_ble_eq_true rfl) d_Mo_join_34 rfl (fun σ2 τ2 h => ?_)
    refine sx_aload_n (pc2 := 38) hX 0 d_Mo_join_37 rfl rfl rfl ?_
    refine fg_Mo_71 (pc2 := 41) hX (kr_50 hK) d_Mo_join_38 rfl ?_
    refine sx_bipush (v := 8) (pc2 := 43) hX d_Mo_join_41 (by decide) rfl ?_
    refine sx_dup2 (pc2 := 44) hX d_Mo_join_43 rfl rfl rfl ?_
    obtain ⟨hc3, h⟩ := h
    refine sx_iald (pc2 := 45) hX (kr_68 hK) rfl hc3 d_Mo_join_44 rfl ?_
    refine sx_iconst (v := 1) (pc2 := 46) hX d_Mo_join_45 (by decide) rfl ?_
    refine sx_iload_n (pc2 := 47) hX 1 d_Mo_join_46 rfl rfl rfl ?_
    refine sx_ishl (pc2 := 48) hX d_Mo_join_47 rfl ?_
    refine sx_ixor (pc2 := 49) hX d_Mo_join_48 rfl ?_
    obtain ⟨hc4, h⟩ := h
    refine sx_iast (pc2 := 50) hX (kr_68 hK) (fun _ => rfl) hc4 d_Mo_join_49 rfl ?_
    refine sx_nm (fun σ5 e5 => ?_)
    replace h := h σ5 e5
    refine sx_aload_n (pc2 := 51) hX 0 d_Mo_join_50 rfl rfl rfl ?_
    refine cl_Mo_329 (pc2 := 54) hX hK h  ⟨Nat.le_of_ble_eq_true rfl, Nat.le_of_ble_eq_true rfl⟩ (Nat.le_of_ble_eq_true rfl) d_Mo_join_51 rfl (fun σ6 τ6 h => ?_)
    refine sx_aload_n (pc2 := 55) hX 0 d_Mo_join_54 rfl rfl rfl ?_
    refine cl_Mo_103 (pc2 := 58) hX hK h  ⟨Nat.le_of_ble_eq_true rfl, Nat.le_of_ble_eq_true rfl⟩ (Nat.le_of_ble_eq_true rfl) d_Mo_join_55 rfl (fun σ7 τ7 h => ?_)
    refine sx_iconst (v := 1) (pc2 := 59) hX d_Mo_join_58 (by decide) rfl ?_
    exact sx_zret hX hE (by decide) h d_Mo_join_59
  · replace h := sx_t h hc1
    refine sx_sub [] [] rfl ?_
    exact g_Mo_join_b31 hX hK hE   _ _ h
set_option maxRecDepth 100000 in
set_option maxHeartbeats 4000000 in
theorem c_Mo_join {l : Launch} {K : sx_K} (hK : kx_F K) (x1 : Int32) (x2 : Int32) (σ : sx_M) (τ : sx_L) (Q : Int32 → sx_M → sx_L → Prop)  (h : wp_Mo_join x1 x2 σ τ Q) : Met l y_Mo_join (sx_wd y_Mo_join prog_13_method_68_code 3 (some .boolean)) rm_Mo_join (sx_Pc K [.ref (K.2.2.1 50 0 0), .int x1, .int x2] σ τ) (sx_Qi K Q) 0 0 (sx_A K) := by
  refine sx_met (by decide) (Nat.le_of_ble_eq_true rfl) (fun X hX hE => ?_)
  replace hX : sx_C X K prog_13_method_68_code 3 "SensorTreeModel" (some .boolean) rm_Mo_join l := hX
  show sx_G X K 3 0 [(0, .ref (K.2.2.1 50 0 0)), (1, .int x1), (2, .int x2)] [] (sx_H K σ τ)
  unfold wp_Mo_join at h
  refine sx_aload_n (pc2 := 1) hX 0 d_Mo_join_0 rfl rfl rfl ?_
  refine sx_iload_n (pc2 := 2) hX 1 d_Mo_join_1 rfl rfl rfl ?_
  refine cl_Mo_326 (pc2 := 5) hX hK h  ⟨Nat.le_of_ble_eq_true rfl, Nat.le_of_ble_eq_true rfl⟩ (Nat.le_of_ble_eq_true rfl) d_Mo_join_2 rfl (fun r8 σ8 τ8 h => ?_)
  refine sx_if_eq (tgt := 31) (pc2 := 8) hX d_Mo_join_5 (by decide) rfl (fun hc9 => ?_) (fun hc9 => ?_)
  · replace h := sx_t h hc9
    refine sx_sub [] [] rfl ?_
    exact g_Mo_join_b31 hX hK hE   _ _ h
  · replace h := sx_f h hc9
    refine sx_aload_n (pc2 := 9) hX 0 d_Mo_join_8 rfl rfl rfl ?_
    refine fg_Mo_68 (pc2 := 12) hX (kr_50 hK) d_Mo_join_9 rfl ?_
    refine sx_bipush (v := 8) (pc2 := 14) hX d_Mo_join_12 (by decide) rfl ?_
    obtain ⟨hc10, h⟩ := h
    refine sx_iald (pc2 := 15) hX (kr_67 hK) rfl hc10 d_Mo_join_14 rfl ?_
    refine sx_iload_n (pc2 := 16) hX 1 d_Mo_join_15 rfl rfl rfl ?_
    refine sx_ishr (pc2 := 17) hX d_Mo_join_16 rfl ?_
    refine sx_iconst (v := 1) (pc2 := 18) hX d_Mo_join_17 (by decide) rfl ?_
    refine sx_iand (pc2 := 19) hX d_Mo_join_18 rfl ?_
    refine sx_iload_n (pc2 := 20) hX 2 d_Mo_join_19 rfl rfl rfl ?_
    refine sx_if_eq (tgt := 27) (pc2 := 23) hX d_Mo_join_20 (by decide) rfl (fun hc11 => ?_) (fun hc11 => ?_)
    · replace h := sx_t h hc11
      refine sx_iconst (v := 0) (pc2 := 28) hX d_Mo_join_27 (by decide) rfl ?_
      refine sx_sub [(0, .ref (K.2.2.1 50 0 0)), (1, .int x1)] [0, 1] rfl ?_
      exact g_Mo_join_b28 hX hK hE   x1 (((σ8 67 0 0 (8 : Int32).toNatClampNeg) >>> (x1 &&& 31)) &&& 1) 0 _ _ h
    · replace h := sx_f h hc11
      refine sx_iconst (v := 1) (pc2 := 24) hX d_Mo_join_23 (by decide) rfl ?_
      refine sx_goto (tgt := 28) hX d_Mo_join_24 (by decide) ?_
      refine sx_sub [(0, .ref (K.2.2.1 50 0 0)), (1, .int x1)] [0, 1] rfl ?_
      exact g_Mo_join_b28 hX hK hE   x1 (((σ8 67 0 0 (8 : Int32).toNatClampNeg) >>> (x1 &&& 31)) &&& 1) 1 _ _ h
def y_Mo_cost : MethodName := ⟨"SensorTreeModel", "cost", "(II)Z"⟩
theorem hy_Mo_cost : y_Mo_cost.cls ≠ "java/lang/invoke/MethodHandle" ∧ y_Mo_cost.cls ≠ "java/lang/invoke/VarHandle" ∧ (parseMethodDescriptor y_Mo_cost.desc).map (fun d => d.parameters.length) = some 2 := by decide +kernel
theorem d_Mo_cost_0 : decode prog_13_method_69_code 0 = .ok (.aload_n 0, 1) := by decide +kernel
theorem d_Mo_cost_1 : decode prog_13_method_69_code 1 = .ok (.iload_n 1, 1) := by decide +kernel
theorem d_Mo_cost_2 : decode prog_13_method_69_code 2 = .ok (.invokevirtual 326, 3) := by decide +kernel
theorem d_Mo_cost_5 : decode prog_13_method_69_code 5 = .ok (.ifCond .eq 26, 3) := by decide +kernel
theorem d_Mo_cost_8 : decode prog_13_method_69_code 8 = .ok (.iload_n 2, 1) := by decide +kernel
theorem d_Mo_cost_9 : decode prog_13_method_69_code 9 = .ok (.iconst 1, 1) := by decide +kernel
theorem d_Mo_cost_10 : decode prog_13_method_69_code 10 = .ok (.bipush 9, 2) := by decide +kernel
theorem d_Mo_cost_12 : decode prog_13_method_69_code 12 = .ok (.invokestatic 216, 3) := by decide +kernel
theorem d_Mo_cost_15 : decode prog_13_method_69_code 15 = .ok (.ifCond .eq 16, 3) := by decide +kernel
theorem d_Mo_cost_18 : decode prog_13_method_69_code 18 = .ok (.aload_n 0, 1) := by decide +kernel
theorem d_Mo_cost_19 : decode prog_13_method_69_code 19 = .ok (.getfield 68, 3) := by decide +kernel
theorem d_Mo_cost_22 : decode prog_13_method_69_code 22 = .ok (.bipush 10, 2) := by decide +kernel
theorem d_Mo_cost_24 : decode prog_13_method_69_code 24 = .ok (.iload_n 1, 1) := by decide +kernel
theorem d_Mo_cost_25 : decode prog_13_method_69_code 25 = .ok (.iadd, 1) := by decide +kernel
theorem d_Mo_cost_26 : decode prog_13_method_69_code 26 = .ok (.iaload, 1) := by decide +kernel
theorem d_Mo_cost_27 : decode prog_13_method_69_code 27 = .ok (.iload_n 2, 1) := by decide +kernel
theorem d_Mo_cost_28 : decode prog_13_method_69_code 28 = .ok (.if_icmp .ne 5, 3) := by decide +kernel
theorem d_Mo_cost_31 : decode prog_13_method_69_code 31 = .ok (.iconst 0, 1) := by decide +kernel
theorem d_Mo_cost_32 : decode prog_13_method_69_code 32 = .ok (.ireturn, 1) := by decide +kernel
theorem d_Mo_cost_33 : decode prog_13_method_69_code 33 = .ok (.aload_n 0, 1) := by decide +kernel
theorem d_Mo_cost_34 : decode prog_13_method_69_code 34 = .ok (.invokevirtual 320, 3) := by decide +kernel
theorem d_Mo_cost_37 : decode prog_13_method_69_code 37 = .ok (.aload_n 0, 1) := by decide +kernel
theorem d_Mo_cost_38 : decode prog_13_method_69_code 38 = .ok (.getfield 71, 3) := by decide +kernel
theorem d_Mo_cost_41 : decode prog_13_method_69_code 41 = .ok (.bipush 10, 2) := by decide +kernel
theorem d_Mo_cost_43 : decode prog_13_method_69_code 43 = .ok (.iload_n 1, 1) := by decide +kernel
theorem d_Mo_cost_44 : decode prog_13_method_69_code 44 = .ok (.iadd, 1) := by decide +kernel
theorem d_Mo_cost_45 : decode prog_13_method_69_code 45 = .ok (.iload_n 2, 1) := by decide +kernel
theorem d_Mo_cost_46 : decode prog_13_method_69_code 46 = .ok (.iastore, 1) := by decide +kernel
theorem d_Mo_cost_47 : decode prog_13_method_69_code 47 = .ok (.aload_n 0, 1) := by decide +kernel
theorem d_Mo_cost_48 : decode prog_13_method_69_code 48 = .ok (.invokevirtual 329, 3) := by decide +kernel
theorem d_Mo_cost_51 : decode prog_13_method_69_code 51 = .ok (.aload_n 0, 1) := by decide +kernel
theorem d_Mo_cost_52 : decode prog_13_method_69_code 52 = .ok (.invokevirtual 103, 3) := by decide +kernel
theorem d_Mo_cost_55 : decode prog_13_method_69_code 55 = .ok (.iconst 1, 1) := by decide +kernel
theorem d_Mo_cost_56 : decode prog_13_method_69_code 56 = .ok (.ireturn, 1) := by decide +kernel
def wp_Mo_cost_b31   (Q : Int32 → sx_M → sx_L → Prop)  (σ : sx_M) (τ : sx_L) : Prop := Q 0 σ τ
def wp_Mo_cost (x1 : Int32) (x2 : Int32) (σ : sx_M) (τ : sx_L) (Q : Int32 → sx_M → sx_L → Prop) : Prop := wp_Mo_isLink x1 σ τ (fun r1 σ1 τ1 => if r1 = 0 then (wp_Mo_cost_b31 Q σ1 τ1) else (wp_Mo_in x2 (1 : Int32) (9 : Int32) σ1 τ1 (fun r3 σ3 τ3 => if r3 = 0 then (wp_Mo_cost_b31 Q σ3 τ3) else (vp_in (10 + x1) 643 ∧ (if σ3 67 0 0 (10 + x1).toNatClampNeg = x2 then (wp_Mo_cost_b31 Q σ3 τ3) else (wp_Mo_marks σ3 τ3 (fun σ7 τ7 => vp_in (10 + x1) 643 ∧ (∀ σ9 : sx_M, σ9 = sx_u σ7 68 0 0 (10 + x1).toNatClampNeg x2 → (wp_Mo_allChoose σ9 τ7 (fun σ10 τ10 => wp_Mo_keepsRow σ10 τ10 (fun σ11 τ11 => Q 1 σ11 τ11)))))))))))
abbrev rm_Mo_cost : Room := { frames := 6, cells := 0, slots := 0, locals := 134 }
set_option maxRecDepth 100000 in
set_option maxHeartbeats 4000000 in
theorem g_Mo_cost_b31 {l : Launch} {K : sx_K} {X : sx_T}   {Q : Int32 → sx_M → sx_L → Prop} (hX : sx_C X K prog_13_method_69_code 3 "SensorTreeModel" (some .boolean) rm_Mo_cost l) (hK : kx_F K) (hE : sx_E X K (sx_Qi K Q))   (σ : sx_M) (τ : sx_L)  (h : wp_Mo_cost_b31 Q  σ τ) : sx_G X K 3 31 [] [] (sx_H K σ τ) := by
  unfold wp_Mo_cost_b31 at h
  refine sx_iconst (v := 0) (pc2 := 32) hX d_Mo_cost_31 (by decide) rfl ?_
  exact sx_zret hX hE (by decide) h d_Mo_cost_32
set_option maxRecDepth 100000 in
set_option maxHeartbeats 4000000 in
theorem c_Mo_cost {l : Launch} {K : sx_K} (hK : kx_F K) (x1 : Int32) (x2 : Int32) (σ : sx_M) (τ : sx_L) (Q : Int32 → sx_M → sx_L → Prop)  (h : wp_Mo_cost x1 x2 σ τ Q) : Met l y_Mo_cost (sx_wd y_Mo_cost prog_13_method_69_code 3 (some .boolean)) rm_Mo_cost (sx_Pc K [.ref (K.2.2.1 50 0 0), .int x1, .int x2] σ τ) (sx_Qi K Q) 0 0 (sx_A K) := by
  refine sx_met (by decide) (Nat.le_of_ble_eq_true rfl) (fun X hX hE => ?_)
  replace hX : sx_C X K prog_13_method_69_code 3 "SensorTreeModel" (some .boolean) rm_Mo_cost l := hX
  show sx_G X K 3 0 [(0, .ref (K.2.2.1 50 0 0)), (1, .int x1), (2, .int x2)] [] (sx_H K σ τ)
  unfold wp_Mo_cost at h
  refine sx_aload_n (pc2 := 1) hX 0 d_Mo_cost_0 rfl rfl rfl ?_
  refine sx_iload_n (pc2 := 2) hX 1 d_Mo_cost_1 rfl rfl rfl ?_
  refine cl_Mo_326 (pc2 := 5) hX hK h  ⟨Nat.le_of_ble_eq_true rfl, Nat.le_of_ble_eq_true rfl⟩ (Nat.le_of_ble_eq_true rfl) d_Mo_cost_2 rfl (fun r1 σ1 τ1 h => ?_)
  refine sx_if_eq (tgt := 31) (pc2 := 8) hX d_Mo_cost_5 (by decide) rfl (fun hc2 => ?_) (fun hc2 => ?_)
  · replace h := sx_t h hc2
    refine sx_sub [] [] rfl ?_
    exact g_Mo_cost_b31 hX hK hE   _ _ h
  · replace h := sx_f h hc2
    refine sx_iload_n (pc2 := 9) hX 2 d_Mo_cost_8 rfl rfl rfl ?_
    refine sx_iconst (v := 1) (pc2 := 10) hX d_Mo_cost_9 (by decide) rfl ?_
    refine sx_bipush (v := 9) (pc2 := 12) hX d_Mo_cost_10 (by decide) rfl ?_
    refine cl_Mo_216 (pc2 := 15) hX hK h  ⟨Nat.le_of_ble_eq_true rfl, Nat.le_of_ble_eq_true rfl⟩ (Nat.le_of_ble_eq_true rfl) d_Mo_cost_12 rfl (fun r3 σ3 τ3 h => ?_)
    refine sx_if_eq (tgt := 31) (pc2 := 18) hX d_Mo_cost_15 (by decide) rfl (fun hc4 => ?_) (fun hc4 => ?_)
    · replace h := sx_t h hc4
      refine sx_sub [] [] rfl ?_
      exact g_Mo_cost_b31 hX hK hE   _ _ h
    · replace h := sx_f h hc4
      refine sx_aload_n (pc2 := 19) hX 0 d_Mo_cost_18 rfl rfl rfl ?_
      refine fg_Mo_68 (pc2 := 22) hX (kr_50 hK) d_Mo_cost_19 rfl ?_
      refine sx_bipush (v := 10) (pc2 := 24) hX d_Mo_cost_22 (by decide) rfl ?_
      refine sx_iload_n (pc2 := 25) hX 1 d_Mo_cost_24 rfl rfl rfl ?_
      refine sx_iadd (pc2 := 26) hX d_Mo_cost_25 rfl ?_
      obtain ⟨hc5, h⟩ := h
      refine sx_iald (pc2 := 27) hX (kr_67 hK) rfl hc5 d_Mo_cost_26 rfl ?_
      refine sx_iload_n (pc2 := 28) hX 2 d_Mo_cost_27 rfl rfl rfl ?_
      refine sx_icmp_ne (tgt := 33) (pc2 := 31) hX d_Mo_cost_28 (by decide) rfl (fun hc6 => ?_) (fun hc6 => ?_)
      · replace h := sx_f h hc6
        refine sx_aload_n (pc2 := 34) hX 0 d_Mo_cost_33 rfl rfl rfl ?_
        refine cl_Mo_320 (pc2 := 37) hX hK h  ⟨Nat.le_of_ble_eq_true rfl, Nat.le_of_ble_eq_true rfl⟩ (Nat.le_of_ble_eq_true rfl) d_Mo_cost_34 rfl (fun σ7 τ7 h => ?_)
        refine sx_aload_n (pc2 := 38) hX 0 d_Mo_cost_37 rfl rfl rfl ?_
        refine fg_Mo_71 (pc2 := 41) hX (kr_50 hK) d_Mo_cost_38 rfl ?_
        refine sx_bipush (v := 10) (pc2 := 43) hX d_Mo_cost_41 (by decide) rfl ?_
        refine sx_iload_n (pc2 := 44) hX 1 d_Mo_cost_43 rfl rfl rfl ?_
        refine sx_iadd (pc2 := 45) hX d_Mo_cost_44 rfl ?_
        refine sx_iload_n (pc2 := 46) hX 2 d_Mo_cost_45 rfl rfl rfl ?_
        obtain ⟨hc8, h⟩ := h
        refine sx_iast (pc2 := 47) hX (kr_68 hK) (fun _ => rfl) hc8 d_Mo_cost_46 rfl ?_
        refine sx_nm (fun σ9 e9 => ?_)
        replace h := h σ9 e9
        refine sx_aload_n (pc2 := 48) hX 0 d_Mo_cost_47 rfl rfl rfl ?_
        refine cl_Mo_329 (pc2 := 51) hX hK h  ⟨Nat.le_of_ble_eq_true rfl, Nat.le_of_ble_eq_true rfl⟩ (Nat.le_of_ble_eq_true rfl) d_Mo_cost_48 rfl (fun σ10 τ10 h => ?_)
        refine sx_aload_n (pc2 := 52) hX 0 d_Mo_cost_51 rfl rfl rfl ?_
        refine cl_Mo_103 (pc2 := 55) hX hK h  ⟨Nat.le_of_ble_eq_true rfl, Nat.le_of_ble_eq_true rfl⟩ (Nat.le_of_ble_eq_true rfl) d_Mo_cost_52 rfl (fun σ11 τ11 h => ?_)
        refine sx_iconst (v := 1) (pc2 := 56) hX d_Mo_cost_55 (by decide) rfl ?_
        exact sx_zret hX hE (by decide) h d_Mo_cost_56
      · replace h := sx_t h hc6
        refine sx_sub [] [] rfl ?_
        exact g_Mo_cost_b31 hX hK hE   _ _ h
def y_Mo_power : MethodName := ⟨"SensorTreeModel", "power", "(IZ)Z"⟩
theorem hy_Mo_power : y_Mo_power.cls ≠ "java/lang/invoke/MethodHandle" ∧ y_Mo_power.cls ≠ "java/lang/invoke/VarHandle" ∧ (parseMethodDescriptor y_Mo_power.desc).map (fun d => d.parameters.length) = some 2 := by decide +kernel
theorem d_Mo_power_0 : decode prog_13_method_70_code 0 = .ok (.aload_n 0, 1) := by decide +kernel
theorem d_Mo_power_1 : decode prog_13_method_70_code 1 = .ok (.iload_n 1, 1) := by decide +kernel
theorem d_Mo_power_2 : decode prog_13_method_70_code 2 = .ok (.invokevirtual 311, 3) := by decide +kernel
theorem d_Mo_power_5 : decode prog_13_method_70_code 5 = .ok (.ifCond .eq 30, 3) := by decide +kernel
theorem d_Mo_power_8 : decode prog_13_method_70_code 8 = .ok (.iload_n 1, 1) := by decide +kernel
theorem d_Mo_power_9 : decode prog_13_method_70_code 9 = .ok (.ifCond .eq 26, 3) := by decide +kernel
theorem d_Mo_power_12 : decode prog_13_method_70_code 12 = .ok (.aload_n 0, 1) := by decide +kernel
theorem d_Mo_power_13 : decode prog_13_method_70_code 13 = .ok (.getfield 68, 3) := by decide +kernel
theorem d_Mo_power_16 : decode prog_13_method_70_code 16 = .ok (.bipush 9, 2) := by decide +kernel
theorem d_Mo_power_18 : decode prog_13_method_70_code 18 = .ok (.iaload, 1) := by decide +kernel
theorem d_Mo_power_19 : decode prog_13_method_70_code 19 = .ok (.iload_n 1, 1) := by decide +kernel
theorem d_Mo_power_20 : decode prog_13_method_70_code 20 = .ok (.ishr, 1) := by decide +kernel
theorem d_Mo_power_21 : decode prog_13_method_70_code 21 = .ok (.iconst 1, 1) := by decide +kernel
theorem d_Mo_power_22 : decode prog_13_method_70_code 22 = .ok (.iand, 1) := by decide +kernel
theorem d_Mo_power_23 : decode prog_13_method_70_code 23 = .ok (.iload_n 2, 1) := by decide +kernel
theorem d_Mo_power_24 : decode prog_13_method_70_code 24 = .ok (.ifCond .eq 7, 3) := by decide +kernel
theorem d_Mo_power_27 : decode prog_13_method_70_code 27 = .ok (.iconst 1, 1) := by decide +kernel
theorem d_Mo_power_28 : decode prog_13_method_70_code 28 = .ok (.goto 4, 3) := by decide +kernel
theorem d_Mo_power_31 : decode prog_13_method_70_code 31 = .ok (.iconst 0, 1) := by decide +kernel
theorem d_Mo_power_32 : decode prog_13_method_70_code 32 = .ok (.if_icmp .ne 5, 3) := by decide +kernel
theorem d_Mo_power_35 : decode prog_13_method_70_code 35 = .ok (.iconst 0, 1) := by decide +kernel
theorem d_Mo_power_36 : decode prog_13_method_70_code 36 = .ok (.ireturn, 1) := by decide +kernel
theorem d_Mo_power_37 : decode prog_13_method_70_code 37 = .ok (.aload_n 0, 1) := by decide +kernel
theorem d_Mo_power_38 : decode prog_13_method_70_code 38 = .ok (.invokevirtual 320, 3) := by decide +kernel
theorem d_Mo_power_41 : decode prog_13_method_70_code 41 = .ok (.aload_n 0, 1) := by decide +kernel
theorem d_Mo_power_42 : decode prog_13_method_70_code 42 = .ok (.getfield 71, 3) := by decide +kernel
theorem d_Mo_power_45 : decode prog_13_method_70_code 45 = .ok (.bipush 9, 2) := by decide +kernel
theorem d_Mo_power_47 : decode prog_13_method_70_code 47 = .ok (.dup2, 1) := by decide +kernel
theorem d_Mo_power_48 : decode prog_13_method_70_code 48 = .ok (.iaload, 1) := by decide +kernel
theorem d_Mo_power_49 : decode prog_13_method_70_code 49 = .ok (.iconst 1, 1) := by decide +kernel
theorem d_Mo_power_50 : decode prog_13_method_70_code 50 = .ok (.iload_n 1, 1) := by decide +kernel
theorem d_Mo_power_51 : decode prog_13_method_70_code 51 = .ok (.ishl, 1) := by decide +kernel
theorem d_Mo_power_52 : decode prog_13_method_70_code 52 = .ok (.ixor, 1) := by decide +kernel
theorem d_Mo_power_53 : decode prog_13_method_70_code 53 = .ok (.iastore, 1) := by decide +kernel
theorem d_Mo_power_54 : decode prog_13_method_70_code 54 = .ok (.iload_n 2, 1) := by decide +kernel
theorem d_Mo_power_55 : decode prog_13_method_70_code 55 = .ok (.ifCond .eq 8, 3) := by decide +kernel
theorem d_Mo_power_58 : decode prog_13_method_70_code 58 = .ok (.aload_n 0, 1) := by decide +kernel
theorem d_Mo_power_59 : decode prog_13_method_70_code 59 = .ok (.iload_n 1, 1) := by decide +kernel
theorem d_Mo_power_60 : decode prog_13_method_70_code 60 = .ok (.invokevirtual 226, 3) := by decide +kernel
theorem d_Mo_power_63 : decode prog_13_method_70_code 63 = .ok (.aload_n 0, 1) := by decide +kernel
theorem d_Mo_power_64 : decode prog_13_method_70_code 64 = .ok (.invokevirtual 329, 3) := by decide +kernel
theorem d_Mo_power_67 : decode prog_13_method_70_code 67 = .ok (.aload_n 0, 1) := by decide +kernel
theorem d_Mo_power_68 : decode prog_13_method_70_code 68 = .ok (.invokevirtual 103, 3) := by decide +kernel
theorem d_Mo_power_71 : decode prog_13_method_70_code 71 = .ok (.iconst 1, 1) := by decide +kernel
theorem d_Mo_power_72 : decode prog_13_method_70_code 72 = .ok (.ireturn, 1) := by decide +kernel
def wp_Mo_power_b63   (Q : Int32 → sx_M → sx_L → Prop)  (σ : sx_M) (τ : sx_L) : Prop := wp_Mo_allChoose σ τ (fun σ1 τ1 => wp_Mo_keepsRow σ1 τ1 (fun σ2 τ2 => Q 1 σ2 τ2))
def wp_Mo_power_b35   (Q : Int32 → sx_M → sx_L → Prop)  (σ : sx_M) (τ : sx_L) : Prop := Q 0 σ τ
def wp_Mo_power_b32   (Q : Int32 → sx_M → sx_L → Prop) (v1 : Int32) (v2 : Int32) (w0 : Int32) (w1 : Int32) (σ : sx_M) (τ : sx_L) : Prop := if w0 = w1 then (wp_Mo_power_b35 Q σ τ) else (wp_Mo_marks σ τ (fun σ4 τ4 => vp_in 9 643 ∧ (vp_in 9 643 ∧ (∀ σ7 : sx_M, σ7 = sx_u σ4 68 0 0 (9 : Int32).toNatClampNeg ((σ4 68 0 0 (9 : Int32).toNatClampNeg) ^^^ (1 <<< (v1 &&& 31))) → (if v2 = 0 then (wp_Mo_power_b63 Q σ7 τ4) else (wp_Mo_asAtFirst v1 σ7 τ4 (fun σ9 τ9 => wp_Mo_power_b63 Q σ9 τ9)))))))
def wp_Mo_power (x1 : Int32) (x2 : Int32) (σ : sx_M) (τ : sx_L) (Q : Int32 → sx_M → sx_L → Prop) : Prop := wp_Mo_isPost x1 σ τ (fun r10 σ10 τ10 => if r10 = 0 then (wp_Mo_power_b35 Q σ10 τ10) else (if x1 = 0 then (wp_Mo_power_b35 Q σ10 τ10) else (vp_in 9 643 ∧ (if x2 = 0 then (wp_Mo_power_b32 Q x1 x2 (((σ10 67 0 0 (9 : Int32).toNatClampNeg) >>> (x1 &&& 31)) &&& 1) 0 σ10 τ10) else (wp_Mo_power_b32 Q x1 x2 (((σ10 67 0 0 (9 : Int32).toNatClampNeg) >>> (x1 &&& 31)) &&& 1) 1 σ10 τ10)))))
abbrev rm_Mo_power : Room := { frames := 6, cells := 0, slots := 0, locals := 134 }
set_option maxRecDepth 100000 in
set_option maxHeartbeats 4000000 in
theorem g_Mo_power_b63 {l : Launch} {K : sx_K} {X : sx_T}   {Q : Int32 → sx_M → sx_L → Prop} (hX : sx_C X K prog_13_method_70_code 3 "SensorTreeModel" (some .boolean) rm_Mo_power l) (hK : kx_F K) (hE : sx_E X K (sx_Qi K Q))   (σ : sx_M) (τ : sx_L)  (h : wp_Mo_power_b63 Q  σ τ) : sx_G X K 3 63 [(0, .ref (K.2.2.1 50 0 0))] [] (sx_H K σ τ) := by
  unfold wp_Mo_power_b63 at h
  refine sx_aload_n (pc2 := 64) hX 0 d_Mo_power_63 rfl rfl rfl ?_
  refine cl_Mo_329 (pc2 := 67) hX hK h  ⟨Nat.le_of_ble_eq_true rfl, Nat.le_of_ble_eq_true rfl⟩ (Nat.le_of_ble_eq_true rfl) d_Mo_power_64 rfl (fun σ1 τ1 h => ?_)
  refine sx_aload_n (pc2 := 68) hX 0 d_Mo_power_67 rfl rfl rfl ?_
  refine cl_Mo_103 (pc2 := 71) hX hK h  ⟨Nat.le_of_ble_eq_true rfl, Nat.le_of_ble_eq_true rfl⟩ (Nat.le_of_ble_eq_true rfl) d_Mo_power_68 rfl (fun σ2 τ2 h => ?_)
  refine sx_iconst (v := 1) (pc2 := 72) hX d_Mo_power_71 (by decide) rfl ?_
  exact sx_zret hX hE (by decide) h d_Mo_power_72
set_option maxRecDepth 100000 in
set_option maxHeartbeats 4000000 in
theorem g_Mo_power_b35 {l : Launch} {K : sx_K} {X : sx_T}   {Q : Int32 → sx_M → sx_L → Prop} (hX : sx_C X K prog_13_method_70_code 3 "SensorTreeModel" (some .boolean) rm_Mo_power l) (hK : kx_F K) (hE : sx_E X K (sx_Qi K Q))   (σ : sx_M) (τ : sx_L)  (h : wp_Mo_power_b35 Q  σ τ) : sx_G X K 3 35 [] [] (sx_H K σ τ) := by
  unfold wp_Mo_power_b35 at h
  refine sx_iconst (v := 0) (pc2 := 36) hX d_Mo_power_35 (by decide) rfl ?_
  exact sx_zret hX hE (by decide) h d_Mo_power_36
set_option maxRecDepth 100000 in
set_option maxHeartbeats 4000000 in
theorem g_Mo_power_b32 {l : Launch} {K : sx_K} {X : sx_T}   {Q : Int32 → sx_M → sx_L → Prop} (hX : sx_C X K prog_13_method_70_code 3 "SensorTreeModel" (some .boolean) rm_Mo_power l) (hK : kx_F K) (hE : sx_E X K (sx_Qi K Q))  (v1 : Int32) (v2 : Int32) (w0 : Int32) (w1 : Int32) (σ : sx_M) (τ : sx_L)  (h : wp_Mo_power_b32 Q  v1 v2 w0 w1 σ τ) : sx_G X K 3 32 [(0, .ref (K.2.2.1 50 0 0)), (1, .int v1), (2, .int v2)] [.int w1, .int w0] (sx_H K σ τ) := by
  unfold wp_Mo_power_b32 at h
  refine sx_icmp_ne (tgt := 37) (pc2 := 35) hX d_Mo_power_32 (by decide) rfl (fun hc3 => ?_) (fun hc3 => ?_)
  · replace h := sx_f h hc3
    refine sx_aload_n (pc2 := 38) hX 0 d_Mo_power_37 rfl rfl rfl ?_
    refine cl_Mo_320 (pc2 := 41) hX hK h  ⟨Nat.le_of_ble_eq_true rfl, Nat.le_of_ble_eq_true rfl⟩ (Nat.le_of_ble_eq_true rfl) d_Mo_power_38 rfl (fun σ4 τ4 h => ?_)
    refine sx_aload_n (pc2 := 42) hX 0 d_Mo_power_41 rfl rfl rfl ?_
    refine fg_Mo_71 (pc2 := 45) hX (kr_50 hK) d_Mo_power_42 rfl ?_
    refine sx_bipush (v := 9) (pc2 := 47) hX d_Mo_power_45 (by decide) rfl ?_
    refine sx_dup2 (pc2 := 48) hX d_Mo_power_47 rfl rfl rfl ?_
    obtain ⟨hc5, h⟩ := h
    refine sx_iald (pc2 := 49) hX (kr_68 hK) rfl hc5 d_Mo_power_48 rfl ?_
    refine sx_iconst (v := 1) (pc2 := 50) hX d_Mo_power_49 (by decide) rfl ?_
    refine sx_iload_n (pc2 := 51) hX 1 d_Mo_power_50 rfl rfl rfl ?_
    refine sx_ishl (pc2 := 52) hX d_Mo_power_51 rfl ?_
    refine sx_ixor (pc2 := 53) hX d_Mo_power_52 rfl ?_
    obtain ⟨hc6, h⟩ := h
    refine sx_iast (pc2 := 54) hX (kr_68 hK) (fun _ => rfl) hc6 d_Mo_power_53 rfl ?_
    refine sx_nm (fun σ7 e7 => ?_)
    replace h := h σ7 e7
    refine sx_iload_n (pc2 := 55) hX 2 d_Mo_power_54 rfl rfl rfl ?_
    refine sx_if_eq (tgt := 63) (pc2 := 58) hX d_Mo_power_55 (by decide) rfl (fun hc8 => ?_) (fun hc8 => ?_)
    · replace h := sx_t h hc8
      refine sx_sub [(0, .ref (K.2.2.1 50 0 0))] [0] rfl ?_
      exact g_Mo_power_b63 hX hK hE   _ _ h
    · replace h := sx_f h hc8
      refine sx_aload_n (pc2 := 59) hX 0 d_Mo_power_58 rfl rfl rfl ?_
      refine sx_iload_n (pc2 := 60) hX 1 d_Mo_power_59 rfl rfl rfl ?_
      refine cl_Mo_226 (pc2 := 63) hX hK h  ⟨Nat.le_of_ble_eq_true rfl, Nat.le_of_ble_eq_true rfl⟩ (Nat.le_of_ble_eq_true rfl) d_Mo_power_60 rfl (fun σ9 τ9 h => ?_)
      refine sx_sub [(0, .ref (K.2.2.1 50 0 0))] [0] rfl ?_
      exact g_Mo_power_b63 hX hK hE   _ _ h
  · replace h := sx_t h hc3
    refine sx_sub [] [] rfl ?_
    exact g_Mo_power_b35 hX hK hE   _ _ h
set_option maxRecDepth 100000 in
set_option maxHeartbeats 4000000 in
theorem c_Mo_power {l : Launch} {K : sx_K} (hK : kx_F K) (x1 : Int32) (x2 : Int32) (σ : sx_M) (τ : sx_L) (Q : Int32 → sx_M → sx_L → Prop)  (h : wp_Mo_power x1 x2 σ τ Q) : Met l y_Mo_power (sx_wd y_Mo_power prog_13_method_70_code 3 (some .boolean)) rm_Mo_power (sx_Pc K [.ref (K.2.2.1 50 0 0), .int x1, .int x2] σ τ) (sx_Qi K Q) 0 0 (sx_A K) := by
  refine sx_met (by decide) (Nat.le_of_ble_eq_true rfl) (fun X hX hE => ?_)
  replace hX : sx_C X K prog_13_method_70_code 3 "SensorTreeModel" (some .boolean) rm_Mo_power l := hX
  show sx_G X K 3 0 [(0, .ref (K.2.2.1 50 0 0)), (1, .int x1), (2, .int x2)] [] (sx_H K σ τ)
  unfold wp_Mo_power at h
  refine sx_aload_n (pc2 := 1) hX 0 d_Mo_power_0 rfl rfl rfl ?_
  refine sx_iload_n (pc2 := 2) hX 1 d_Mo_power_1 rfl rfl rfl ?_
  refine cl_Mo_311 (pc2 := 5) hX hK h  ⟨Nat.le_of_ble_eq_true rfl, Nat.le_of_ble_eq_true rfl⟩ (Nat.le_of_ble_eq_true rfl) d_Mo_power_2 rfl (fun r10 σ10 τ10 h => ?_)
  refine sx_if_eq (tgt := 35) (pc2 := 8) hX d_Mo_power_5 (by decide) rfl (fun hc11 => ?_) (fun hc11 => ?_)
  · replace h := sx_t h hc11
    refine sx_sub [] [] rfl ?_
    exact g_Mo_power_b35 hX hK hE   _ _ h
  · replace h := sx_f h hc11
    refine sx_iload_n (pc2 := 9) hX 1 d_Mo_power_8 rfl rfl rfl ?_
    refine sx_if_eq (tgt := 35) (pc2 := 12) hX d_Mo_power_9 (by decide) rfl (fun hc12 => ?_) (fun hc12 => ?_)
    · replace h := sx_t h hc12
      refine sx_sub [] [] rfl ?_
      exact g_Mo_power_b35 hX hK hE   _ _ h
    · replace h := sx_f h hc12
      refine sx_aload_n (pc2 := 13) hX 0 d_Mo_power_12 rfl rfl rfl ?_
      refine fg_Mo_68 (pc2 := 16) hX (kr_50 hK) d_Mo_power_13 rfl ?_
      refine sx_bipush (v := 9) (pc2 := 18) hX d_Mo_power_16 (by decide) rfl ?_
      obtain ⟨hc13, h⟩ := h
      refine sx_iald (pc2 := 19) hX (kr_67 hK) rfl hc13 d_Mo_power_18 rfl ?_
      refine sx_iload_n (pc2 := 20) hX 1 d_Mo_power_19 rfl rfl rfl ?_
      refine sx_ishr (pc2 := 21) hX d_Mo_power_20 rfl ?_
      refine sx_iconst (v := 1) (pc2 := 22) hX d_Mo_power_21 (by decide) rfl ?_
      refine sx_iand (pc2 := 23) hX d_Mo_power_22 rfl ?_
      refine sx_iload_n (pc2 := 24) hX 2 d_Mo_power_23 rfl rfl rfl ?_
      refine sx_if_eq (tgt := 31) (pc2 := 27) hX d_Mo_power_24 (by decide) rfl (fun hc14 => ?_) (fun hc14 => ?_)
      · replace h := sx_t h hc14
        refine sx_iconst (v := 0) (pc2 := 32) hX d_Mo_power_31 (by decide) rfl ?_
        exact g_Mo_power_b32 hX hK hE   x1 x2 (((σ10 67 0 0 (9 : Int32).toNatClampNeg) >>> (x1 &&& 31)) &&& 1) 0 _ _ h
      · replace h := sx_f h hc14
        refine sx_iconst (v := 1) (pc2 := 28) hX d_Mo_power_27 (by decide) rfl ?_
        refine sx_goto (tgt := 32) hX d_Mo_power_28 (by decide) ?_
        exact g_Mo_power_b32 hX hK hE   x1 x2 (((σ10 67 0 0 (9 : Int32).toNatClampNeg) >>> (x1 &&& 31)) &&& 1) 1 _ _ h
def y_Mo_repair : MethodName := ⟨"SensorTreeModel", "repair", "()I"⟩
theorem hy_Mo_repair : y_Mo_repair.cls ≠ "java/lang/invoke/MethodHandle" ∧ y_Mo_repair.cls ≠ "java/lang/invoke/VarHandle" ∧ (parseMethodDescriptor y_Mo_repair.desc).map (fun d => d.parameters.length) = some 0 := by decide +kernel
theorem d_Mo_repair_0 : decode prog_13_method_71_code 0 = .ok (.aload_n 0, 1) := by decide +kernel
theorem d_Mo_repair_1 : decode prog_13_method_71_code 1 = .ok (.getfield 40, 3) := by decide +kernel
theorem d_Mo_repair_4 : decode prog_13_method_71_code 4 = .ok (.aload_n 0, 1) := by decide +kernel
theorem d_Mo_repair_5 : decode prog_13_method_71_code 5 = .ok (.getfield 170, 3) := by decide +kernel
theorem d_Mo_repair_8 : decode prog_13_method_71_code 8 = .ok (.iaload, 1) := by decide +kernel
theorem d_Mo_repair_9 : decode prog_13_method_71_code 9 = .ok (.ifCond .eq 15, 3) := by decide +kernel
theorem d_Mo_repair_12 : decode prog_13_method_71_code 12 = .ok (.aload_n 0, 1) := by decide +kernel
theorem d_Mo_repair_13 : decode prog_13_method_71_code 13 = .ok (.getfield 68, 3) := by decide +kernel
theorem d_Mo_repair_16 : decode prog_13_method_71_code 16 = .ok (.bipush 26, 2) := by decide +kernel
theorem d_Mo_repair_18 : decode prog_13_method_71_code 18 = .ok (.iaload, 1) := by decide +kernel
theorem d_Mo_repair_19 : decode prog_13_method_71_code 19 = .ok (.bipush 99, 2) := by decide +kernel
theorem d_Mo_repair_21 : decode prog_13_method_71_code 21 = .ok (.if_icmp .ne 5, 3) := by decide +kernel
theorem d_Mo_repair_24 : decode prog_13_method_71_code 24 = .ok (.iconst (-1), 1) := by decide +kernel
theorem d_Mo_repair_25 : decode prog_13_method_71_code 25 = .ok (.ireturn, 1) := by decide +kernel
theorem d_Mo_repair_26 : decode prog_13_method_71_code 26 = .ok (.aload_n 0, 1) := by decide +kernel
theorem d_Mo_repair_27 : decode prog_13_method_71_code 27 = .ok (.invokevirtual 320, 3) := by decide +kernel
theorem d_Mo_repair_30 : decode prog_13_method_71_code 30 = .ok (.aload_n 0, 1) := by decide +kernel
theorem d_Mo_repair_31 : decode prog_13_method_71_code 31 = .ok (.iconst 0, 1) := by decide +kernel
theorem d_Mo_repair_32 : decode prog_13_method_71_code 32 = .ok (.iconst 0, 1) := by decide +kernel
theorem d_Mo_repair_33 : decode prog_13_method_71_code 33 = .ok (.aload_n 0, 1) := by decide +kernel
theorem d_Mo_repair_34 : decode prog_13_method_71_code 34 = .ok (.iconst 0, 1) := by decide +kernel
theorem d_Mo_repair_35 : decode prog_13_method_71_code 35 = .ok (.iconst 0, 1) := by decide +kernel
theorem d_Mo_repair_36 : decode prog_13_method_71_code 36 = .ok (.invokevirtual 246, 3) := by decide +kernel
theorem d_Mo_repair_39 : decode prog_13_method_71_code 39 = .ok (.iconst 1, 1) := by decide +kernel
theorem d_Mo_repair_40 : decode prog_13_method_71_code 40 = .ok (.iadd, 1) := by decide +kernel
theorem d_Mo_repair_41 : decode prog_13_method_71_code 41 = .ok (.invokevirtual 229, 3) := by decide +kernel
theorem d_Mo_repair_44 : decode prog_13_method_71_code 44 = .ok (.aload_n 0, 1) := by decide +kernel
theorem d_Mo_repair_45 : decode prog_13_method_71_code 45 = .ok (.iconst 0, 1) := by decide +kernel
theorem d_Mo_repair_46 : decode prog_13_method_71_code 46 = .ok (.invokevirtual 274, 3) := by decide +kernel
theorem d_Mo_repair_49 : decode prog_13_method_71_code 49 = .ok (.aload_n 0, 1) := by decide +kernel
theorem d_Mo_repair_50 : decode prog_13_method_71_code 50 = .ok (.invokevirtual 103, 3) := by decide +kernel
theorem d_Mo_repair_53 : decode prog_13_method_71_code 53 = .ok (.aload_n 0, 1) := by decide +kernel
theorem d_Mo_repair_54 : decode prog_13_method_71_code 54 = .ok (.iconst 0, 1) := by decide +kernel
theorem d_Mo_repair_55 : decode prog_13_method_71_code 55 = .ok (.iconst 0, 1) := by decide +kernel
theorem d_Mo_repair_56 : decode prog_13_method_71_code 56 = .ok (.invokevirtual 246, 3) := by decide +kernel
theorem d_Mo_repair_59 : decode prog_13_method_71_code 59 = .ok (.ireturn, 1) := by decide +kernel
def wp_Mo_repair_b24   (Q : Int32 → sx_M → sx_L → Prop)  (σ : sx_M) (τ : sx_L) : Prop := Q (-1) σ τ
def wp_Mo_repair  (σ : sx_M) (τ : sx_L) (Q : Int32 → sx_M → sx_L → Prop) : Prop := vp_in (σ 50 0 0 17) 2 ∧ (if σ 58 0 0 (σ 50 0 0 17).toNatClampNeg = 0 then (wp_Mo_repair_b24 Q σ τ) else (vp_in 26 643 ∧ (if σ 67 0 0 (26 : Int32).toNatClampNeg = 99 then (wp_Mo_repair_b24 Q σ τ) else (wp_Mo_marks σ τ (fun σ5 τ5 => wp_Mo_of (0 : Int32) (0 : Int32) σ5 τ5 (fun r6 σ6 τ6 => wp_Mo_keeps (0 : Int32) (0 : Int32) (r6 + 1) σ6 τ6 (fun σ7 τ7 => wp_Mo_beginsAnew (0 : Int32) σ7 τ7 (fun σ8 τ8 => wp_Mo_keepsRow σ8 τ8 (fun σ9 τ9 => wp_Mo_of (0 : Int32) (0 : Int32) σ9 τ9 (fun r10 σ10 τ10 => Q r10 σ10 τ10))))))))))
abbrev rm_Mo_repair : Room := { frames := 4, cells := 0, slots := 0, locals := 87 }
set_option maxRecDepth 100000 in
set_option maxHeartbeats 4000000 in
theorem g_Mo_repair_b24 {l : Launch} {K : sx_K} {X : sx_T}   {Q : Int32 → sx_M → sx_L → Prop} (hX : sx_C X K prog_13_method_71_code 1 "SensorTreeModel" (some .int) rm_Mo_repair l) (hK : kx_F K) (hE : sx_E X K (sx_Qi K Q))   (σ : sx_M) (τ : sx_L)  (h : wp_Mo_repair_b24 Q  σ τ) : sx_G X K 1 24 [] [] (sx_H K σ τ) := by
  unfold wp_Mo_repair_b24 at h
  refine sx_iconst (v := (-1)) (pc2 := 25) hX d_Mo_repair_24 (by decide) rfl ?_
  exact sx_iret hX hE h d_Mo_repair_25
set_option maxRecDepth 100000 in
set_option maxHeartbeats 4000000 in
theorem c_Mo_repair {l : Launch} {K : sx_K} (hK : kx_F K)  (σ : sx_M) (τ : sx_L) (Q : Int32 → sx_M → sx_L → Prop)  (h : wp_Mo_repair σ τ Q) : Met l y_Mo_repair (sx_wd y_Mo_repair prog_13_method_71_code 1 (some .int)) rm_Mo_repair (sx_Pc K [.ref (K.2.2.1 50 0 0)] σ τ) (sx_Qi K Q) 0 0 (sx_A K) := by
  refine sx_met (by decide) (Nat.le_of_ble_eq_true rfl) (fun X hX hE => ?_)
  replace hX : sx_C X K prog_13_method_71_code 1 "SensorTreeModel" (some .int) rm_Mo_repair l := hX
  show sx_G X K 1 0 [(0, .ref (K.2.2.1 50 0 0))] [] (sx_H K σ τ)
  unfold wp_Mo_repair at h
  refine sx_aload_n (pc2 := 1) hX 0 d_Mo_repair_0 rfl rfl rfl ?_
  refine fg_Mo_40 (pc2 := 4) hX (kr_50 hK) d_Mo_repair_1 rfl ?_
  refine sx_aload_n (pc2 := 5) hX 0 d_Mo_repair_4 rfl rfl rfl ?_
  refine fg_Mo_170 (pc2 := 8) hX (kr_50 hK) d_Mo_repair_5 rfl ?_
  obtain ⟨hc1, h⟩ := h
  refine sx_iald (pc2 := 9) hX (kr_58 hK) rfl hc1 d_Mo_repair_8 rfl ?_
  refine sx_if_eq (tgt := 24) (pc2 := 12) hX d_Mo_repair_9 (by decide) rfl (fun hc2 => ?_) (fun hc2 => ?_)
  · replace h := sx_t h hc2
    refine sx_sub [] [] rfl ?_
    exact g_Mo_repair_b24 hX hK hE   _ _ h
  · replace h := sx_f h hc2
    refine sx_aload_n (pc2 := 13) hX 0 d_Mo_repair_12 rfl rfl rfl ?_
    refine fg_Mo_68 (pc2 := 16) hX (kr_50 hK) d_Mo_repair_13 rfl ?_
    refine sx_bipush (v := 26) (pc2 := 18) hX d_Mo_repair_16 (by decide) rfl ?_
    obtain ⟨hc3, h⟩ := h
    refine sx_iald (pc2 := 19) hX (kr_67 hK) rfl hc3 d_Mo_repair_18 rfl ?_
    refine sx_bipush (v := 99) (pc2 := 21) hX d_Mo_repair_19 (by decide) rfl ?_
    refine sx_icmp_ne (tgt := 26) (pc2 := 24) hX d_Mo_repair_21 (by decide) rfl (fun hc4 => ?_) (fun hc4 => ?_)
    · replace h := sx_f h hc4
      refine sx_aload_n (pc2 := 27) hX 0 d_Mo_repair_26 rfl rfl rfl ?_
      refine cl_Mo_320 (pc2 := 30) hX hK h  ⟨Nat.le_of_ble_eq_true rfl, Nat.le_of_ble_eq_true rfl⟩ (Nat.le_of_ble_eq_true rfl) d_Mo_repair_27 rfl (fun σ5 τ5 h => ?_)
      refine sx_aload_n (pc2 := 31) hX 0 d_Mo_repair_30 rfl rfl rfl ?_
      refine sx_iconst (v := 0) (pc2 := 32) hX d_Mo_repair_31 (by decide) rfl ?_
      refine sx_iconst (v := 0) (pc2 := 33) hX d_Mo_repair_32 (by decide) rfl ?_
      refine sx_aload_n (pc2 := 34) hX 0 d_Mo_repair_33 rfl rfl rfl ?_
      refine sx_iconst (v := 0) (pc2 := 35) hX d_Mo_repair_34 (by decide) rfl ?_
      refine sx_iconst (v := 0) (pc2 := 36) hX d_Mo_repair_35 (by decide) rfl ?_
      refine cl_Mo_246 (pc2 := 39) hX hK h  ⟨Nat.le_of_ble_eq_true rfl, Nat.le_of_ble_eq_true rfl⟩ (Nat.le_of_ble_eq_true rfl) d_Mo_repair_36 rfl (fun r6 σ6 τ6 h => ?_)
      refine sx_iconst (v := 1) (pc2 := 40) hX d_Mo_repair_39 (by decide) rfl ?_
      refine sx_iadd (pc2 := 41) hX d_Mo_repair_40 rfl ?_
      refine cl_Mo_229 (pc2 := 44) hX hK h  ⟨Nat.le_of_ble_eq_true rfl, Nat.le_of_ble_eq_true rfl⟩ (Nat.le_of_ble_eq_true rfl) d_Mo_repair_41 rfl (fun σ7 τ7 h => ?_)
      refine sx_aload_n (pc2 := 45) hX 0 d_Mo_repair_44 rfl rfl rfl ?_
      refine sx_iconst (v := 0) (pc2 := 46) hX d_Mo_repair_45 (by decide) rfl ?_
      refine cl_Mo_274 (pc2 := 49) hX hK h  ⟨Nat.le_of_ble_eq_true rfl, Nat.le_of_ble_eq_true rfl⟩ (Nat.le_of_ble_eq_true rfl) d_Mo_repair_46 rfl (fun σ8 τ8 h => ?_)
      refine sx_aload_n (pc2 := 50) hX 0 d_Mo_repair_49 rfl rfl rfl ?_
      refine cl_Mo_103 (pc2 := 53) hX hK h  ⟨Nat.le_of_ble_eq_true rfl, Nat.le_of_ble_eq_true rfl⟩ (Nat.le_of_ble_eq_true rfl) d_Mo_repair_50 rfl (fun σ9 τ9 h => ?_)
      refine sx_aload_n (pc2 := 54) hX 0 d_Mo_repair_53 rfl rfl rfl ?_
      refine sx_iconst (v := 0) (pc2 := 55) hX d_Mo_repair_54 (by decide) rfl ?_
      refine sx_iconst (v := 0) (pc2 := 56) hX d_Mo_repair_55 (by decide) rfl ?_
      refine cl_Mo_246 (pc2 := 59) hX hK h  ⟨Nat.le_of_ble_eq_true rfl, Nat.le_of_ble_eq_true rfl⟩ (Nat.le_of_ble_eq_true rfl) d_Mo_repair_56 rfl (fun r10 σ10 τ10 h => ?_)
      exact sx_iret hX hE h d_Mo_repair_59
    · replace h := sx_t h hc4
      refine sx_sub [] [] rfl ?_
      exact g_Mo_repair_b24 hX hK hE   _ _ h
def y_Mo_send : MethodName := ⟨"SensorTreeModel", "send", "(II)I"⟩
theorem hy_Mo_send : y_Mo_send.cls ≠ "java/lang/invoke/MethodHandle" ∧ y_Mo_send.cls ≠ "java/lang/invoke/VarHandle" ∧ (parseMethodDescriptor y_Mo_send.desc).map (fun d => d.parameters.length) = some 2 := by decide +kernel
theorem d_Mo_send_0 : decode prog_13_method_72_code 0 = .ok (.aload_n 0, 1) := by decide +kernel
theorem d_Mo_send_1 : decode prog_13_method_72_code 1 = .ok (.iload_n 1, 1) := by decide +kernel
theorem d_Mo_send_2 : decode prog_13_method_72_code 2 = .ok (.iload_n 2, 1) := by decide +kernel
theorem d_Mo_send_3 : decode prog_13_method_72_code 3 = .ok (.invokevirtual 332, 3) := by decide +kernel
theorem d_Mo_send_6 : decode prog_13_method_72_code 6 = .ok (.ifCond .ne 5, 3) := by decide +kernel
theorem d_Mo_send_9 : decode prog_13_method_72_code 9 = .ok (.iconst (-1), 1) := by decide +kernel
theorem d_Mo_send_10 : decode prog_13_method_72_code 10 = .ok (.ireturn, 1) := by decide +kernel
theorem d_Mo_send_11 : decode prog_13_method_72_code 11 = .ok (.aload_n 0, 1) := by decide +kernel
theorem d_Mo_send_12 : decode prog_13_method_72_code 12 = .ok (.invokevirtual 320, 3) := by decide +kernel
theorem d_Mo_send_15 : decode prog_13_method_72_code 15 = .ok (.aload_n 0, 1) := by decide +kernel
theorem d_Mo_send_16 : decode prog_13_method_72_code 16 = .ok (.iload_n 1, 1) := by decide +kernel
theorem d_Mo_send_17 : decode prog_13_method_72_code 17 = .ok (.iload_n 2, 1) := by decide +kernel
theorem d_Mo_send_18 : decode prog_13_method_72_code 18 = .ok (.invokevirtual 335, 3) := by decide +kernel
theorem d_Mo_send_21 : decode prog_13_method_72_code 21 = .ok (.istore_n 3, 1) := by decide +kernel
theorem d_Mo_send_22 : decode prog_13_method_72_code 22 = .ok (.aload_n 0, 1) := by decide +kernel
theorem d_Mo_send_23 : decode prog_13_method_72_code 23 = .ok (.invokevirtual 103, 3) := by decide +kernel
theorem d_Mo_send_26 : decode prog_13_method_72_code 26 = .ok (.iload_n 3, 1) := by decide +kernel
theorem d_Mo_send_27 : decode prog_13_method_72_code 27 = .ok (.ireturn, 1) := by decide +kernel
def wp_Mo_send (x1 : Int32) (x2 : Int32) (σ : sx_M) (τ : sx_L) (Q : Int32 → sx_M → sx_L → Prop) : Prop := wp_Mo_canSend x1 x2 σ τ (fun r1 σ1 τ1 => if r1 = 0 then (Q (-1) σ1 τ1) else (wp_Mo_marks σ1 τ1 (fun σ3 τ3 => wp_Mo_sends x1 x2 σ3 τ3 (fun r4 σ4 τ4 => wp_Mo_keepsRow σ4 τ4 (fun σ5 τ5 => Q r4 σ5 τ5)))))
abbrev rm_Mo_send : Room := { frames := 5, cells := 0, slots := 0, locals := 114 }
set_option maxRecDepth 100000 in
set_option maxHeartbeats 4000000 in
theorem c_Mo_send {l : Launch} {K : sx_K} (hK : kx_F K) (x1 : Int32) (x2 : Int32) (σ : sx_M) (τ : sx_L) (Q : Int32 → sx_M → sx_L → Prop)  (h : wp_Mo_send x1 x2 σ τ Q) : Met l y_Mo_send (sx_wd y_Mo_send prog_13_method_72_code 4 (some .int)) rm_Mo_send (sx_Pc K [.ref (K.2.2.1 50 0 0), .int x1, .int x2] σ τ) (sx_Qi K Q) 0 0 (sx_A K) := by
  refine sx_met (by decide) (Nat.le_of_ble_eq_true rfl) (fun X hX hE => ?_)
  replace hX : sx_C X K prog_13_method_72_code 4 "SensorTreeModel" (some .int) rm_Mo_send l := hX
  show sx_G X K 4 0 [(0, .ref (K.2.2.1 50 0 0)), (1, .int x1), (2, .int x2)] [] (sx_H K σ τ)
  unfold wp_Mo_send at h
  refine sx_aload_n (pc2 := 1) hX 0 d_Mo_send_0 rfl rfl rfl ?_
  refine sx_iload_n (pc2 := 2) hX 1 d_Mo_send_1 rfl rfl rfl ?_
  refine sx_iload_n (pc2 := 3) hX 2 d_Mo_send_2 rfl rfl rfl ?_
  refine cl_Mo_332 (pc2 := 6) hX hK h  ⟨Nat.le_of_ble_eq_true rfl, Nat.le_of_ble_eq_true rfl⟩ (Nat.le_of_ble_eq_true rfl) d_Mo_send_3 rfl (fun r1 σ1 τ1 h => ?_)
  refine sx_if_ne (tgt := 11) (pc2 := 9) hX d_Mo_send_6 (by decide) rfl (fun hc2 => ?_) (fun hc2 => ?_)
  · replace h := sx_f h hc2
    refine sx_aload_n (pc2 := 12) hX 0 d_Mo_send_11 rfl rfl rfl ?_
    refine cl_Mo_320 (pc2 := 15) hX hK h  ⟨Nat.le_of_ble_eq_true rfl, Nat.le_of_ble_eq_true rfl⟩ (Nat.le_of_ble_eq_true rfl) d_Mo_send_12 rfl (fun σ3 τ3 h => ?_)
    refine sx_aload_n (pc2 := 16) hX 0 d_Mo_send_15 rfl rfl rfl ?_
    refine sx_iload_n (pc2 := 17) hX 1 d_Mo_send_16 rfl rfl rfl ?_
    refine sx_iload_n (pc2 := 18) hX 2 d_Mo_send_17 rfl rfl rfl ?_
    refine cl_Mo_335 (pc2 := 21) hX hK h  ⟨Nat.le_of_ble_eq_true rfl, Nat.le_of_ble_eq_true rfl⟩ (Nat.le_of_ble_eq_true rfl) d_Mo_send_18 rfl (fun r4 σ4 τ4 h => ?_)
    refine sx_istore_n (pc2 := 22) hX _ [(0, .ref (K.2.2.1 50 0 0)), (1, .int x1), (2, .int x2), (3, .int r4)] [1, 2, 3, 0] d_Mo_send_21 rfl (by decide) rfl rfl rfl ?_
    refine sx_aload_n (pc2 := 23) hX 0 d_Mo_send_22 rfl rfl rfl ?_
    refine cl_Mo_103 (pc2 := 26) hX hK h  ⟨Nat.le_of_ble_eq_true rfl, Nat.le_of_ble_eq_true rfl⟩ (Nat.le_of_ble_eq_true rfl) d_Mo_send_23 rfl (fun σ5 τ5 h => ?_)
    refine sx_iload_n (pc2 := 27) hX 3 d_Mo_send_26 rfl rfl rfl ?_
    exact sx_iret hX hE h d_Mo_send_27
  · replace h := sx_t h hc2
    refine sx_iconst (v := (-1)) (pc2 := 10) hX d_Mo_send_9 (by decide) rfl ?_
    exact sx_iret hX hE h d_Mo_send_10
def y_Mo_undo : MethodName := ⟨"SensorTreeModel", "undo", "()Z"⟩
theorem hy_Mo_undo : y_Mo_undo.cls ≠ "java/lang/invoke/MethodHandle" ∧ y_Mo_undo.cls ≠ "java/lang/invoke/VarHandle" ∧ (parseMethodDescriptor y_Mo_undo.desc).map (fun d => d.parameters.length) = some 0 := by decide +kernel
theorem d_Mo_undo_0 : decode prog_13_method_73_code 0 = .ok (.aload_n 0, 1) := by decide +kernel
theorem d_Mo_undo_1 : decode prog_13_method_73_code 1 = .ok (.getfield 179, 3) := by decide +kernel
theorem d_Mo_undo_4 : decode prog_13_method_73_code 4 = .ok (.ifCond .ne 5, 3) := by decide +kernel
theorem d_Mo_undo_7 : decode prog_13_method_73_code 7 = .ok (.iconst 0, 1) := by decide +kernel
theorem d_Mo_undo_8 : decode prog_13_method_73_code 8 = .ok (.ireturn, 1) := by decide +kernel
theorem d_Mo_undo_9 : decode prog_13_method_73_code 9 = .ok (.aload_n 0, 1) := by decide +kernel
theorem d_Mo_undo_10 : decode prog_13_method_73_code 10 = .ok (.dup, 1) := by decide +kernel
theorem d_Mo_undo_11 : decode prog_13_method_73_code 11 = .ok (.getfield 179, 3) := by decide +kernel
theorem d_Mo_undo_14 : decode prog_13_method_73_code 14 = .ok (.iconst 1, 1) := by decide +kernel
theorem d_Mo_undo_15 : decode prog_13_method_73_code 15 = .ok (.isub, 1) := by decide +kernel
theorem d_Mo_undo_16 : decode prog_13_method_73_code 16 = .ok (.putfield 179, 3) := by decide +kernel
theorem d_Mo_undo_19 : decode prog_13_method_73_code 19 = .ok (.aload_n 0, 1) := by decide +kernel
theorem d_Mo_undo_20 : decode prog_13_method_73_code 20 = .ok (.getfield 80, 3) := by decide +kernel
theorem d_Mo_undo_23 : decode prog_13_method_73_code 23 = .ok (.sipush 643, 3) := by decide +kernel
theorem d_Mo_undo_26 : decode prog_13_method_73_code 26 = .ok (.aload_n 0, 1) := by decide +kernel
theorem d_Mo_undo_27 : decode prog_13_method_73_code 27 = .ok (.getfield 314, 3) := by decide +kernel
theorem d_Mo_undo_30 : decode prog_13_method_73_code 30 = .ok (.aload_n 0, 1) := by decide +kernel
theorem d_Mo_undo_31 : decode prog_13_method_73_code 31 = .ok (.getfield 179, 3) := by decide +kernel
theorem d_Mo_undo_34 : decode prog_13_method_73_code 34 = .ok (.iadd, 1) := by decide +kernel
theorem d_Mo_undo_35 : decode prog_13_method_73_code 35 = .ok (.bipush 20, 2) := by decide +kernel
theorem d_Mo_undo_37 : decode prog_13_method_73_code 37 = .ok (.irem, 1) := by decide +kernel
theorem d_Mo_undo_38 : decode prog_13_method_73_code 38 = .ok (.imul, 1) := by decide +kernel
theorem d_Mo_undo_39 : decode prog_13_method_73_code 39 = .ok (.aload_n 0, 1) := by decide +kernel
theorem d_Mo_undo_40 : decode prog_13_method_73_code 40 = .ok (.getfield 68, 3) := by decide +kernel
theorem d_Mo_undo_43 : decode prog_13_method_73_code 43 = .ok (.iconst 0, 1) := by decide +kernel
theorem d_Mo_undo_44 : decode prog_13_method_73_code 44 = .ok (.invokestatic 220, 3) := by decide +kernel
theorem d_Mo_undo_47 : decode prog_13_method_73_code 47 = .ok (.iconst 1, 1) := by decide +kernel
theorem d_Mo_undo_48 : decode prog_13_method_73_code 48 = .ok (.ireturn, 1) := by decide +kernel
def wp_Mo_undo  (σ : sx_M) (τ : sx_L) (Q : Int32 → sx_M → sx_L → Prop) : Prop := if σ 50 0 0 37 = 0 then (Q 0 σ τ) else (∀ σ2 : sx_M, σ2 = sx_u σ 50 0 0 37 ((σ 50 0 0 37) - 1) → (wp_Mo_lays2_earlier_now (643 * (((σ2 50 0 0 36) + (σ2 50 0 0 37)) - ((σ2 50 0 0 36) + (σ2 50 0 0 37)) / 20 * 20)) (0 : Int32) σ2 τ (fun σ3 τ3 => Q 1 σ3 τ3)))
abbrev rm_Mo_undo : Room := { frames := 1, cells := 0, slots := 0, locals := 25 }
set_option maxRecDepth 100000 in
set_option maxHeartbeats 4000000 in
theorem c_Mo_undo {l : Launch} {K : sx_K} (hK : kx_F K)  (σ : sx_M) (τ : sx_L) (Q : Int32 → sx_M → sx_L → Prop)  (h : wp_Mo_undo σ τ Q) : Met l y_Mo_undo (sx_wd y_Mo_undo prog_13_method_73_code 1 (some .boolean)) rm_Mo_undo (sx_Pc K [.ref (K.2.2.1 50 0 0)] σ τ) (sx_Qi K Q) 0 0 (sx_A K) := by
  refine sx_met (by decide) (Nat.le_of_ble_eq_true rfl) (fun X hX hE => ?_)
  replace hX : sx_C X K prog_13_method_73_code 1 "SensorTreeModel" (some .boolean) rm_Mo_undo l := hX
  show sx_G X K 1 0 [(0, .ref (K.2.2.1 50 0 0))] [] (sx_H K σ τ)
  unfold wp_Mo_undo at h
  refine sx_aload_n (pc2 := 1) hX 0 d_Mo_undo_0 rfl rfl rfl ?_
  refine fg_Mo_179 (pc2 := 4) hX (kr_50 hK) d_Mo_undo_1 rfl ?_
  refine sx_if_ne (tgt := 9) (pc2 := 7) hX d_Mo_undo_4 (by decide) rfl (fun hc1 => ?_) (fun hc1 => ?_)
  · replace h := sx_f h hc1
    refine sx_aload_n (pc2 := 10) hX 0 d_Mo_undo_9 rfl rfl rfl ?_
    refine sx_dup (pc2 := 11) hX d_Mo_undo_10 rfl rfl ?_
    refine fg_Mo_179 (pc2 := 14) hX (kr_50 hK) d_Mo_undo_11 rfl ?_
    refine sx_iconst (v := 1) (pc2 := 15) hX d_Mo_undo_14 (by decide) rfl ?_
    refine sx_isub (pc2 := 16) hX d_Mo_undo_15 rfl ?_
    refine fp_Mo_179 (pc2 := 19) hX (kr_50 hK) d_Mo_undo_16 rfl ?_
    refine sx_nm (fun σ2 e2 => ?_)
    replace h := h σ2 e2
    refine sx_aload_n (pc2 := 20) hX 0 d_Mo_undo_19 rfl rfl rfl ?_
    refine fg_Mo_80 (pc2 := 23) hX (kr_50 hK) d_Mo_undo_20 rfl ?_
    refine sx_sipush (v := 643) (pc2 := 26) hX d_Mo_undo_23 (by decide) rfl ?_
    refine sx_aload_n (pc2 := 27) hX 0 d_Mo_undo_26 rfl rfl rfl ?_
    refine fg_Mo_314 (pc2 := 30) hX (kr_50 hK) d_Mo_undo_27 rfl ?_
    refine sx_aload_n (pc2 := 31) hX 0 d_Mo_undo_30 rfl rfl rfl ?_
    refine fg_Mo_179 (pc2 := 34) hX (kr_50 hK) d_Mo_undo_31 rfl ?_
    refine sx_iadd (pc2 := 35) hX d_Mo_undo_34 rfl ?_
    refine sx_bipush (v := 20) (pc2 := 37) hX d_Mo_undo_35 (by decide) rfl ?_
    refine sx_irem (pc2 := 38) hX d_Mo_undo_37 (by decide) rfl ?_
    refine sx_imul (pc2 := 39) hX d_Mo_undo_38 rfl ?_
    refine sx_aload_n (pc2 := 40) hX 0 d_Mo_undo_39 rfl rfl rfl ?_
    refine fg_Mo_68 (pc2 := 43) hX (kr_50 hK) d_Mo_undo_40 rfl ?_
    refine sx_iconst (v := 0) (pc2 := 44) hX d_Mo_undo_43 (by decide) rfl ?_
    refine cl_Mo_220_earlier_now (pc2 := 47) hX hK h  ⟨Nat.le_of_ble_eq_true rfl, Nat.le_of_ble_eq_true rfl⟩ (Nat.le_of_ble_eq_true rfl) d_Mo_undo_44 rfl (fun σ3 τ3 h => ?_)
    refine sx_iconst (v := 1) (pc2 := 48) hX d_Mo_undo_47 (by decide) rfl ?_
    exact sx_zret hX hE (by decide) h d_Mo_undo_48
  · replace h := sx_t h hc1
    refine sx_iconst (v := 0) (pc2 := 8) hX d_Mo_undo_7 (by decide) rfl ?_
    exact sx_zret hX hE (by decide) h d_Mo_undo_8
def y_Mo_hold : MethodName := ⟨"SensorTreeModel", "hold", "(I)Z"⟩
theorem hy_Mo_hold : y_Mo_hold.cls ≠ "java/lang/invoke/MethodHandle" ∧ y_Mo_hold.cls ≠ "java/lang/invoke/VarHandle" ∧ (parseMethodDescriptor y_Mo_hold.desc).map (fun d => d.parameters.length) = some 1 := by decide +kernel
theorem d_Mo_hold_0 : decode prog_13_method_74_code 0 = .ok (.iload_n 1, 1) := by decide +kernel
theorem d_Mo_hold_1 : decode prog_13_method_74_code 1 = .ok (.iconst 0, 1) := by decide +kernel
theorem d_Mo_hold_2 : decode prog_13_method_74_code 2 = .ok (.iconst 2, 1) := by decide +kernel
theorem d_Mo_hold_3 : decode prog_13_method_74_code 3 = .ok (.invokestatic 216, 3) := by decide +kernel
theorem d_Mo_hold_6 : decode prog_13_method_74_code 6 = .ok (.ifCond .ne 5, 3) := by decide +kernel
theorem d_Mo_hold_9 : decode prog_13_method_74_code 9 = .ok (.iconst 0, 1) := by decide +kernel
theorem d_Mo_hold_10 : decode prog_13_method_74_code 10 = .ok (.ireturn, 1) := by decide +kernel
theorem d_Mo_hold_11 : decode prog_13_method_74_code 11 = .ok (.aload_n 0, 1) := by decide +kernel
theorem d_Mo_hold_12 : decode prog_13_method_74_code 12 = .ok (.getfield 68, 3) := by decide +kernel
theorem d_Mo_hold_15 : decode prog_13_method_74_code 15 = .ok (.iconst 0, 1) := by decide +kernel
theorem d_Mo_hold_16 : decode prog_13_method_74_code 16 = .ok (.aload_n 0, 1) := by decide +kernel
theorem d_Mo_hold_17 : decode prog_13_method_74_code 17 = .ok (.getfield 83, 3) := by decide +kernel
theorem d_Mo_hold_20 : decode prog_13_method_74_code 20 = .ok (.sipush 643, 3) := by decide +kernel
theorem d_Mo_hold_23 : decode prog_13_method_74_code 23 = .ok (.iload_n 1, 1) := by decide +kernel
theorem d_Mo_hold_24 : decode prog_13_method_74_code 24 = .ok (.imul, 1) := by decide +kernel
theorem d_Mo_hold_25 : decode prog_13_method_74_code 25 = .ok (.invokestatic 220, 3) := by decide +kernel
theorem d_Mo_hold_28 : decode prog_13_method_74_code 28 = .ok (.aload_n 0, 1) := by decide +kernel
theorem d_Mo_hold_29 : decode prog_13_method_74_code 29 = .ok (.getfield 86, 3) := by decide +kernel
theorem d_Mo_hold_32 : decode prog_13_method_74_code 32 = .ok (.iload_n 1, 1) := by decide +kernel
theorem d_Mo_hold_33 : decode prog_13_method_74_code 33 = .ok (.iconst 1, 1) := by decide +kernel
theorem d_Mo_hold_34 : decode prog_13_method_74_code 34 = .ok (.bastore, 1) := by decide +kernel
theorem d_Mo_hold_35 : decode prog_13_method_74_code 35 = .ok (.iconst 1, 1) := by decide +kernel
theorem d_Mo_hold_36 : decode prog_13_method_74_code 36 = .ok (.ireturn, 1) := by decide +kernel
def wp_Mo_hold (x1 : Int32) (σ : sx_M) (τ : sx_L) (Q : Int32 → sx_M → sx_L → Prop) : Prop := wp_Mo_in x1 (0 : Int32) (2 : Int32) σ τ (fun r1 σ1 τ1 => if r1 = 0 then (Q 0 σ1 τ1) else (wp_Mo_lays2_now_held (0 : Int32) (643 * x1) σ1 τ1 (fun σ3 τ3 => vp_in x1 3 ∧ (∀ σ5 : sx_M, σ5 = sx_u σ3 73 0 0 x1.toNatClampNeg (vp_nar .boolean 1) → (Q 1 σ5 τ3)))))
abbrev rm_Mo_hold : Room := { frames := 1, cells := 0, slots := 0, locals := 25 }
set_option maxRecDepth 100000 in
set_option maxHeartbeats 4000000 in
theorem c_Mo_hold {l : Launch} {K : sx_K} (hK : kx_F K) (x1 : Int32) (σ : sx_M) (τ : sx_L) (Q : Int32 → sx_M → sx_L → Prop)  (h : wp_Mo_hold x1 σ τ Q) : Met l y_Mo_hold (sx_wd y_Mo_hold prog_13_method_74_code 2 (some .boolean)) rm_Mo_hold (sx_Pc K [.ref (K.2.2.1 50 0 0), .int x1] σ τ) (sx_Qi K Q) 0 0 (sx_A K) := by
  refine sx_met (by decide) (Nat.le_of_ble_eq_true rfl) (fun X hX hE => ?_)
  replace hX : sx_C X K prog_13_method_74_code 2 "SensorTreeModel" (some .boolean) rm_Mo_hold l := hX
  show sx_G X K 2 0 [(0, .ref (K.2.2.1 50 0 0)), (1, .int x1)] [] (sx_H K σ τ)
  unfold wp_Mo_hold at h
  refine sx_iload_n (pc2 := 1) hX 1 d_Mo_hold_0 rfl rfl rfl ?_
  refine sx_iconst (v := 0) (pc2 := 2) hX d_Mo_hold_1 (by decide) rfl ?_
  refine sx_iconst (v := 2) (pc2 := 3) hX d_Mo_hold_2 (by decide) rfl ?_
  refine cl_Mo_216 (pc2 := 6) hX hK h  ⟨Nat.le_of_ble_eq_true rfl, Nat.le_of_ble_eq_true rfl⟩ (Nat.le_of_ble_eq_true rfl) d_Mo_hold_3 rfl (fun r1 σ1 τ1 h => ?_)
  refine sx_if_ne (tgt := 11) (pc2 := 9) hX d_Mo_hold_6 (by decide) rfl (fun hc2 => ?_) (fun hc2 => ?_)
  · replace h := sx_f h hc2
    refine sx_aload_n (pc2 := 12) hX 0 d_Mo_hold_11 rfl rfl rfl ?_
    refine fg_Mo_68 (pc2 := 15) hX (kr_50 hK) d_Mo_hold_12 rfl ?_
    refine sx_iconst (v := 0) (pc2 := 16) hX d_Mo_hold_15 (by decide) rfl ?_
    refine sx_aload_n (pc2 := 17) hX 0 d_Mo_hold_16 rfl rfl rfl ?_
    refine fg_Mo_83 (pc2 := 20) hX (kr_50 hK) d_Mo_hold_17 rfl ?_
    refine sx_sipush (v := 643) (pc2 := 23) hX d_Mo_hold_20 (by decide) rfl ?_
    refine sx_iload_n (pc2 := 24) hX 1 d_Mo_hold_23 rfl rfl rfl ?_
    refine sx_imul (pc2 := 25) hX d_Mo_hold_24 rfl ?_
    refine cl_Mo_220_now_held (pc2 := 28) hX hK h  ⟨Nat.le_of_ble_eq_true rfl, Nat.le_of_ble_eq_true rfl⟩ (Nat.le_of_ble_eq_true rfl) d_Mo_hold_25 rfl (fun σ3 τ3 h => ?_)
    refine sx_aload_n (pc2 := 29) hX 0 d_Mo_hold_28 rfl rfl rfl ?_
    refine fg_Mo_86 (pc2 := 32) hX (kr_50 hK) d_Mo_hold_29 rfl ?_
    refine sx_iload_n (pc2 := 33) hX 1 d_Mo_hold_32 rfl rfl rfl ?_
    refine sx_iconst (v := 1) (pc2 := 34) hX d_Mo_hold_33 (by decide) rfl ?_
    obtain ⟨hc4, h⟩ := h
    refine sx_zast (pc2 := 35) hX (kr_73 hK) (fun _ => rfl) hc4 d_Mo_hold_34 rfl ?_
    refine sx_nm (fun σ5 e5 => ?_)
    replace h := h σ5 e5
    refine sx_iconst (v := 1) (pc2 := 36) hX d_Mo_hold_35 (by decide) rfl ?_
    exact sx_zret hX hE (by decide) h d_Mo_hold_36
  · replace h := sx_t h hc2
    refine sx_iconst (v := 0) (pc2 := 10) hX d_Mo_hold_9 (by decide) rfl ?_
    exact sx_zret hX hE (by decide) h d_Mo_hold_10
def y_Mo_restore : MethodName := ⟨"SensorTreeModel", "restore", "(I)Z"⟩
theorem hy_Mo_restore : y_Mo_restore.cls ≠ "java/lang/invoke/MethodHandle" ∧ y_Mo_restore.cls ≠ "java/lang/invoke/VarHandle" ∧ (parseMethodDescriptor y_Mo_restore.desc).map (fun d => d.parameters.length) = some 1 := by decide +kernel
theorem d_Mo_restore_0 : decode prog_13_method_75_code 0 = .ok (.iload_n 1, 1) := by decide +kernel
theorem d_Mo_restore_1 : decode prog_13_method_75_code 1 = .ok (.iconst 0, 1) := by decide +kernel
theorem d_Mo_restore_2 : decode prog_13_method_75_code 2 = .ok (.iconst 2, 1) := by decide +kernel
theorem d_Mo_restore_3 : decode prog_13_method_75_code 3 = .ok (.invokestatic 216, 3) := by decide +kernel
theorem d_Mo_restore_6 : decode prog_13_method_75_code 6 = .ok (.ifCond .eq 12, 3) := by decide +kernel
theorem d_Mo_restore_9 : decode prog_13_method_75_code 9 = .ok (.aload_n 0, 1) := by decide +kernel
theorem d_Mo_restore_10 : decode prog_13_method_75_code 10 = .ok (.getfield 86, 3) := by decide +kernel
theorem d_Mo_restore_13 : decode prog_13_method_75_code 13 = .ok (.iload_n 1, 1) := by decide +kernel
theorem d_Mo_restore_14 : decode prog_13_method_75_code 14 = .ok (.baload, 1) := by decide +kernel
theorem d_Mo_restore_15 : decode prog_13_method_75_code 15 = .ok (.ifCond .ne 5, 3) := by decide +kernel
theorem d_Mo_restore_18 : decode prog_13_method_75_code 18 = .ok (.iconst 0, 1) := by decide +kernel
theorem d_Mo_restore_19 : decode prog_13_method_75_code 19 = .ok (.ireturn, 1) := by decide +kernel
theorem d_Mo_restore_20 : decode prog_13_method_75_code 20 = .ok (.aload_n 0, 1) := by decide +kernel
theorem d_Mo_restore_21 : decode prog_13_method_75_code 21 = .ok (.getfield 83, 3) := by decide +kernel
theorem d_Mo_restore_24 : decode prog_13_method_75_code 24 = .ok (.sipush 643, 3) := by decide +kernel
theorem d_Mo_restore_27 : decode prog_13_method_75_code 27 = .ok (.iload_n 1, 1) := by decide +kernel
theorem d_Mo_restore_28 : decode prog_13_method_75_code 28 = .ok (.imul, 1) := by decide +kernel
theorem d_Mo_restore_29 : decode prog_13_method_75_code 29 = .ok (.aload_n 0, 1) := by decide +kernel
theorem d_Mo_restore_30 : decode prog_13_method_75_code 30 = .ok (.getfield 68, 3) := by decide +kernel
theorem d_Mo_restore_33 : decode prog_13_method_75_code 33 = .ok (.iconst 0, 1) := by decide +kernel
theorem d_Mo_restore_34 : decode prog_13_method_75_code 34 = .ok (.invokestatic 220, 3) := by decide +kernel
theorem d_Mo_restore_37 : decode prog_13_method_75_code 37 = .ok (.aload_n 0, 1) := by decide +kernel
theorem d_Mo_restore_38 : decode prog_13_method_75_code 38 = .ok (.iconst 0, 1) := by decide +kernel
theorem d_Mo_restore_39 : decode prog_13_method_75_code 39 = .ok (.putfield 179, 3) := by decide +kernel
theorem d_Mo_restore_42 : decode prog_13_method_75_code 42 = .ok (.iconst 1, 1) := by decide +kernel
theorem d_Mo_restore_43 : decode prog_13_method_75_code 43 = .ok (.ireturn, 1) := by decide +kernel
def wp_Mo_restore_b18   (Q : Int32 → sx_M → sx_L → Prop)  (σ : sx_M) (τ : sx_L) : Prop := Q 0 σ τ
def wp_Mo_restore (x1 : Int32) (σ : sx_M) (τ : sx_L) (Q : Int32 → sx_M → sx_L → Prop) : Prop := wp_Mo_in x1 (0 : Int32) (2 : Int32) σ τ (fun r1 σ1 τ1 => if r1 = 0 then (wp_Mo_restore_b18 Q σ1 τ1) else (vp_in x1 3 ∧ (if σ1 73 0 0 x1.toNatClampNeg = 0 then (wp_Mo_restore_b18 Q σ1 τ1) else (wp_Mo_lays2_held_now (643 * x1) (0 : Int32) σ1 τ1 (fun σ5 τ5 => ∀ σ6 : sx_M, σ6 = sx_u σ5 50 0 0 37 0 → (Q 1 σ6 τ5))))))
abbrev rm_Mo_restore : Room := { frames := 1, cells := 0, slots := 0, locals := 25 }
set_option maxRecDepth 100000 in
set_option maxHeartbeats 4000000 in
theorem g_Mo_restore_b18 {l : Launch} {K : sx_K} {X : sx_T}   {Q : Int32 → sx_M → sx_L → Prop} (hX : sx_C X K prog_13_method_75_code 2 "SensorTreeModel" (some .boolean) rm_Mo_restore l) (hK : kx_F K) (hE : sx_E X K (sx_Qi K Q))   (σ : sx_M) (τ : sx_L)  (h : wp_Mo_restore_b18 Q  σ τ) : sx_G X K 2 18 [] [] (sx_H K σ τ) := by
  unfold wp_Mo_restore_b18 at h
  refine sx_iconst (v := 0) (pc2 := 19) hX d_Mo_restore_18 (by decide) rfl ?_
  exact sx_zret hX hE (by decide) h d_Mo_restore_19
set_option maxRecDepth 100000 in
set_option maxHeartbeats 4000000 in
theorem c_Mo_restore {l : Launch} {K : sx_K} (hK : kx_F K) (x1 : Int32) (σ : sx_M) (τ : sx_L) (Q : Int32 → sx_M → sx_L → Prop)  (h : wp_Mo_restore x1 σ τ Q) : Met l y_Mo_restore (sx_wd y_Mo_restore prog_13_method_75_code 2 (some .boolean)) rm_Mo_restore (sx_Pc K [.ref (K.2.2.1 50 0 0), .int x1] σ τ) (sx_Qi K Q) 0 0 (sx_A K) := by
  refine sx_met (by decide) (Nat.le_of_ble_eq_true rfl) (fun X hX hE => ?_)
  replace hX : sx_C X K prog_13_method_75_code 2 "SensorTreeModel" (some .boolean) rm_Mo_restore l := hX
  show sx_G X K 2 0 [(0, .ref (K.2.2.1 50 0 0)), (1, .int x1)] [] (sx_H K σ τ)
  unfold wp_Mo_restore at h
  refine sx_iload_n (pc2 := 1) hX 1 d_Mo_restore_0 rfl rfl rfl ?_
  refine sx_iconst (v := 0) (pc2 := 2) hX d_Mo_restore_1 (by decide) rfl ?_
  refine sx_iconst (v := 2) (pc2 := 3) hX d_Mo_restore_2 (by decide) rfl ?_
  refine cl_Mo_216 (pc2 := 6) hX hK h  ⟨Nat.le_of_ble_eq_true rfl, Nat.le_of_ble_eq_true rfl⟩ (Nat.le_of_ble_eq_true rfl) d_Mo_restore_3 rfl (fun r1 σ1 τ1 h => ?_)
  refine sx_if_eq (tgt := 18) (pc2 := 9) hX d_Mo_restore_6 (by decide) rfl (fun hc2 => ?_) (fun hc2 => ?_)
  · replace h := sx_t h hc2
    refine sx_sub [] [] rfl ?_
    exact g_Mo_restore_b18 hX hK hE   _ _ h
  · replace h := sx_f h hc2
    refine sx_aload_n (pc2 := 10) hX 0 d_Mo_restore_9 rfl rfl rfl ?_
    refine fg_Mo_86 (pc2 := 13) hX (kr_50 hK) d_Mo_restore_10 rfl ?_
    refine sx_iload_n (pc2 := 14) hX 1 d_Mo_restore_13 rfl rfl rfl ?_
    obtain ⟨hc3, h⟩ := h
    refine sx_zald (pc2 := 15) hX (kr_73 hK) rfl hc3 d_Mo_restore_14 rfl ?_
    refine sx_if_ne (tgt := 20) (pc2 := 18) hX d_Mo_restore_15 (by decide) rfl (fun hc4 => ?_) (fun hc4 => ?_)
    · replace h := sx_f h hc4
      refine sx_aload_n (pc2 := 21) hX 0 d_Mo_restore_20 rfl rfl rfl ?_
      refine fg_Mo_83 (pc2 := 24) hX (kr_50 hK) d_Mo_restore_21 rfl ?_
      refine sx_sipush (v := 643) (pc2 := 27) hX d_Mo_restore_24 (by decide) rfl ?_
      refine sx_iload_n (pc2 := 28) hX 1 d_Mo_restore_27 rfl rfl rfl ?_
      refine sx_imul (pc2 := 29) hX d_Mo_restore_28 rfl ?_
      refine sx_aload_n (pc2 := 30) hX 0 d_Mo_restore_29 rfl rfl rfl ?_
      refine fg_Mo_68 (pc2 := 33) hX (kr_50 hK) d_Mo_restore_30 rfl ?_
      refine sx_iconst (v := 0) (pc2 := 34) hX d_Mo_restore_33 (by decide) rfl ?_
      refine cl_Mo_220_held_now (pc2 := 37) hX hK h  ⟨Nat.le_of_ble_eq_true rfl, Nat.le_of_ble_eq_true rfl⟩ (Nat.le_of_ble_eq_true rfl) d_Mo_restore_34 rfl (fun σ5 τ5 h => ?_)
      refine sx_aload_n (pc2 := 38) hX 0 d_Mo_restore_37 rfl rfl rfl ?_
      refine sx_iconst (v := 0) (pc2 := 39) hX d_Mo_restore_38 (by decide) rfl ?_
      refine fp_Mo_179 (pc2 := 42) hX (kr_50 hK) d_Mo_restore_39 rfl ?_
      refine sx_nm (fun σ6 e6 => ?_)
      replace h := h σ6 e6
      refine sx_iconst (v := 1) (pc2 := 43) hX d_Mo_restore_42 (by decide) rfl ?_
      exact sx_zret hX hE (by decide) h d_Mo_restore_43
    · replace h := sx_t h hc4
      refine sx_sub [] [] rfl ?_
      exact g_Mo_restore_b18 hX hK hE   _ _ h
def y_Mo_nowOf : MethodName := ⟨"SensorTreeModel", "nowOf", "(II)I"⟩
theorem hy_Mo_nowOf : y_Mo_nowOf.cls ≠ "java/lang/invoke/MethodHandle" ∧ y_Mo_nowOf.cls ≠ "java/lang/invoke/VarHandle" ∧ (parseMethodDescriptor y_Mo_nowOf.desc).map (fun d => d.parameters.length) = some 2 := by decide +kernel
theorem d_Mo_nowOf_0 : decode prog_13_method_76_code 0 = .ok (.aload_n 0, 1) := by decide +kernel
theorem d_Mo_nowOf_1 : decode prog_13_method_76_code 1 = .ok (.getfield 68, 3) := by decide +kernel
theorem d_Mo_nowOf_4 : decode prog_13_method_76_code 4 = .ok (.bipush 26, 2) := by decide +kernel
theorem d_Mo_nowOf_6 : decode prog_13_method_76_code 6 = .ok (.bipush 10, 2) := by decide +kernel
theorem d_Mo_nowOf_8 : decode prog_13_method_76_code 8 = .ok (.iload_n 1, 1) := by decide +kernel
theorem d_Mo_nowOf_9 : decode prog_13_method_76_code 9 = .ok (.imul, 1) := by decide +kernel
theorem d_Mo_nowOf_10 : decode prog_13_method_76_code 10 = .ok (.iadd, 1) := by decide +kernel
theorem d_Mo_nowOf_11 : decode prog_13_method_76_code 11 = .ok (.iload_n 2, 1) := by decide +kernel
theorem d_Mo_nowOf_12 : decode prog_13_method_76_code 12 = .ok (.iadd, 1) := by decide +kernel
theorem d_Mo_nowOf_13 : decode prog_13_method_76_code 13 = .ok (.iaload, 1) := by decide +kernel
theorem d_Mo_nowOf_14 : decode prog_13_method_76_code 14 = .ok (.ireturn, 1) := by decide +kernel
def wp_Mo_nowOf (x1 : Int32) (x2 : Int32) (σ : sx_M) (τ : sx_L) (Q : Int32 → sx_M → sx_L → Prop) : Prop := vp_in ((26 + (10 * x1)) + x2) 643 ∧ (Q (σ 67 0 0 ((26 + (10 * x1)) + x2).toNatClampNeg) σ τ)
abbrev rm_Mo_nowOf : Room := { frames := 0, cells := 0, slots := 0, locals := 0 }
set_option maxRecDepth 100000 in
set_option maxHeartbeats 4000000 in
theorem c_Mo_nowOf {l : Launch} {K : sx_K} (hK : kx_F K) (x1 : Int32) (x2 : Int32) (σ : sx_M) (τ : sx_L) (Q : Int32 → sx_M → sx_L → Prop)  (h : wp_Mo_nowOf x1 x2 σ τ Q) : Met l y_Mo_nowOf (sx_wd y_Mo_nowOf prog_13_method_76_code 3 (some .int)) rm_Mo_nowOf (sx_Pc K [.ref (K.2.2.1 50 0 0), .int x1, .int x2] σ τ) (sx_Qi K Q) 0 0 (sx_A K) := by
  refine sx_met (by decide) (Nat.le_of_ble_eq_true rfl) (fun X hX hE => ?_)
  replace hX : sx_C X K prog_13_method_76_code 3 "SensorTreeModel" (some .int) rm_Mo_nowOf l := hX
  show sx_G X K 3 0 [(0, .ref (K.2.2.1 50 0 0)), (1, .int x1), (2, .int x2)] [] (sx_H K σ τ)
  unfold wp_Mo_nowOf at h
  refine sx_aload_n (pc2 := 1) hX 0 d_Mo_nowOf_0 rfl rfl rfl ?_
  refine fg_Mo_68 (pc2 := 4) hX (kr_50 hK) d_Mo_nowOf_1 rfl ?_
  refine sx_bipush (v := 26) (pc2 := 6) hX d_Mo_nowOf_4 (by decide) rfl ?_
  refine sx_bipush (v := 10) (pc2 := 8) hX d_Mo_nowOf_6 (by decide) rfl ?_
  refine sx_iload_n (pc2 := 9) hX 1 d_Mo_nowOf_8 rfl rfl rfl ?_
  refine sx_imul (pc2 := 10) hX d_Mo_nowOf_9 rfl ?_
  refine sx_iadd (pc2 := 11) hX d_Mo_nowOf_10 rfl ?_
  refine sx_iload_n (pc2 := 12) hX 2 d_Mo_nowOf_11 rfl rfl rfl ?_
  refine sx_iadd (pc2 := 13) hX d_Mo_nowOf_12 rfl ?_
  obtain ⟨hc1, h⟩ := h
  refine sx_iald (pc2 := 14) hX (kr_67 hK) rfl hc1 d_Mo_nowOf_13 rfl ?_
  exact sx_iret hX hE h d_Mo_nowOf_14
theorem cl_Mo_338 {X : sx_T} {K : sx_K} {cc : ByteArray} {nL : Nat} {ret : Option FieldType} {rm : Room} {l : Launch} {pc pc2 : Nat} {lv : List (Nat × Value)} {st : List Value} {σ : sx_M} {τ : sx_L} {x1 : Int32} {x2 : Int32} {Q : Int32 → sx_M → sx_L → Prop} (hX : sx_C X K cc nL "SensorTreeModel" ret rm l) (hK : kx_F K) (h : wp_Mo_nowOf x1 x2 σ τ Q)  (hR : rm_Mo_nowOf.frames + 1 ≤ rm.frames ∧ 8 + (3 + 11) + rm_Mo_nowOf.locals ≤ rm.locals) (hst : (st.map fun v => v.category).sum ≤ 8) (hd : decode cc pc = .ok (.invokevirtual 338, 3)) (hpc : pc + 3 = pc2) (kk : ∀ (r : Int32) (σ2 : sx_M) (τ2 : sx_L), Q r σ2 τ2 → sx_G X K nL pc2 lv (.int r :: st) (sx_H K σ2 τ2)) : sx_G X K nL pc lv (.int x2 :: .int x1 :: .ref (K.2.2.1 50 0 0) :: st) (sx_H K σ τ) :=
  sx_callVi (Q := Q) (As := [.int x1, .int x2]) hX (c_Mo_nowOf hK x1 x2 σ τ Q  h) (kr_50 hK) rfl rfl lk_544 ls_88 hy_Mo_nowOf lk_542 lk_364 lk_543 ⟨rfl, rfl⟩ hR hst rfl hd hpc kk
def y_Mo_isNowOn : MethodName := ⟨"SensorTreeModel", "isNowOn", "(I)Z"⟩
theorem hy_Mo_isNowOn : y_Mo_isNowOn.cls ≠ "java/lang/invoke/MethodHandle" ∧ y_Mo_isNowOn.cls ≠ "java/lang/invoke/VarHandle" ∧ (parseMethodDescriptor y_Mo_isNowOn.desc).map (fun d => d.parameters.length) = some 1 := by decide +kernel
theorem d_Mo_isNowOn_0 : decode prog_13_method_77_code 0 = .ok (.aload_n 0, 1) := by decide +kernel
theorem d_Mo_isNowOn_1 : decode prog_13_method_77_code 1 = .ok (.iload_n 1, 1) := by decide +kernel
theorem d_Mo_isNowOn_2 : decode prog_13_method_77_code 2 = .ok (.invokevirtual 311, 3) := by decide +kernel
theorem d_Mo_isNowOn_5 : decode prog_13_method_77_code 5 = .ok (.ifCond .eq 22, 3) := by decide +kernel
theorem d_Mo_isNowOn_8 : decode prog_13_method_77_code 8 = .ok (.aload_n 0, 1) := by decide +kernel
theorem d_Mo_isNowOn_9 : decode prog_13_method_77_code 9 = .ok (.getfield 68, 3) := by decide +kernel
theorem d_Mo_isNowOn_12 : decode prog_13_method_77_code 12 = .ok (.bipush 9, 2) := by decide +kernel
theorem d_Mo_isNowOn_14 : decode prog_13_method_77_code 14 = .ok (.iaload, 1) := by decide +kernel
theorem d_Mo_isNowOn_15 : decode prog_13_method_77_code 15 = .ok (.iload_n 1, 1) := by decide +kernel
theorem d_Mo_isNowOn_16 : decode prog_13_method_77_code 16 = .ok (.ishr, 1) := by decide +kernel
theorem d_Mo_isNowOn_17 : decode prog_13_method_77_code 17 = .ok (.iconst 1, 1) := by decide +kernel
theorem d_Mo_isNowOn_18 : decode prog_13_method_77_code 18 = .ok (.iand, 1) := by decide +kernel
theorem d_Mo_isNowOn_19 : decode prog_13_method_77_code 19 = .ok (.iconst 1, 1) := by decide +kernel
theorem d_Mo_isNowOn_20 : decode prog_13_method_77_code 20 = .ok (.if_icmp .ne 7, 3) := by decide +kernel
theorem d_Mo_isNowOn_23 : decode prog_13_method_77_code 23 = .ok (.iconst 1, 1) := by decide +kernel
theorem d_Mo_isNowOn_24 : decode prog_13_method_77_code 24 = .ok (.goto 4, 3) := by decide +kernel
theorem d_Mo_isNowOn_27 : decode prog_13_method_77_code 27 = .ok (.iconst 0, 1) := by decide +kernel
theorem d_Mo_isNowOn_28 : decode prog_13_method_77_code 28 = .ok (.ireturn, 1) := by decide +kernel
def wp_Mo_isNowOn_b28   (Q : Int32 → sx_M → sx_L → Prop) (w0 : Int32) (σ : sx_M) (τ : sx_L) : Prop := (w0 = 0 ∨ w0 = 1) ∧ (Q w0 σ τ)
def wp_Mo_isNowOn_b27   (Q : Int32 → sx_M → sx_L → Prop)  (σ : sx_M) (τ : sx_L) : Prop := wp_Mo_isNowOn_b28 Q 0 σ τ
def wp_Mo_isNowOn (x1 : Int32) (σ : sx_M) (τ : sx_L) (Q : Int32 → sx_M → sx_L → Prop) : Prop := wp_Mo_isPost x1 σ τ (fun r2 σ2 τ2 => if r2 = 0 then (wp_Mo_isNowOn_b27 Q σ2 τ2) else (vp_in 9 643 ∧ (if ((σ2 67 0 0 (9 : Int32).toNatClampNeg) >>> (x1 &&& 31)) &&& 1 = 1 then (wp_Mo_isNowOn_b28 Q 1 σ2 τ2) else (wp_Mo_isNowOn_b27 Q σ2 τ2))))
abbrev rm_Mo_isNowOn : Room := { frames := 2, cells := 0, slots := 0, locals := 43 }
set_option maxRecDepth 100000 in
set_option maxHeartbeats 4000000 in
theorem g_Mo_isNowOn_b28 {l : Launch} {K : sx_K} {X : sx_T}   {Q : Int32 → sx_M → sx_L → Prop} (hX : sx_C X K prog_13_method_77_code 2 "SensorTreeModel" (some .boolean) rm_Mo_isNowOn l) (hK : kx_F K) (hE : sx_E X K (sx_Qi K Q))  (w0 : Int32) (σ : sx_M) (τ : sx_L)  (h : wp_Mo_isNowOn_b28 Q  w0 σ τ) : sx_G X K 2 28 [] [.int w0] (sx_H K σ τ) := by
  unfold wp_Mo_isNowOn_b28 at h
  obtain ⟨hc1, h⟩ := h
  exact sx_zret hX hE hc1 h d_Mo_isNowOn_28
set_option maxRecDepth 100000 in
set_option maxHeartbeats 4000000 in
theorem g_Mo_isNowOn_b27 {l : Launch} {K : sx_K} {X : sx_T}   {Q : Int32 → sx_M → sx_L → Prop} (hX : sx_C X K prog_13_method_77_code 2 "SensorTreeModel" (some .boolean) rm_Mo_isNowOn l) (hK : kx_F K) (hE : sx_E X K (sx_Qi K Q))   (σ : sx_M) (τ : sx_L)  (h : wp_Mo_isNowOn_b27 Q  σ τ) : sx_G X K 2 27 [] [] (sx_H K σ τ) := by
  unfold wp_Mo_isNowOn_b27 at h
  refine sx_iconst (v := 0) (pc2 := 28) hX d_Mo_isNowOn_27 (by decide) rfl ?_
  exact g_Mo_isNowOn_b28 hX hK hE   0 _ _ h
set_option maxRecDepth 100000 in
set_option maxHeartbeats 4000000 in
theorem c_Mo_isNowOn {l : Launch} {K : sx_K} (hK : kx_F K) (x1 : Int32) (σ : sx_M) (τ : sx_L) (Q : Int32 → sx_M → sx_L → Prop)  (h : wp_Mo_isNowOn x1 σ τ Q) : Met l y_Mo_isNowOn (sx_wd y_Mo_isNowOn prog_13_method_77_code 2 (some .boolean)) rm_Mo_isNowOn (sx_Pc K [.ref (K.2.2.1 50 0 0), .int x1] σ τ) (sx_Qi K Q) 0 0 (sx_A K) := by
  refine sx_met (by decide) (Nat.le_of_ble_eq_true rfl) (fun X hX hE => ?_)
  replace hX : sx_C X K prog_13_method_77_code 2 "SensorTreeModel" (some .boolean) rm_Mo_isNowOn l := hX
  show sx_G X K 2 0 [(0, .ref (K.2.2.1 50 0 0)), (1, .int x1)] [] (sx_H K σ τ)
  unfold wp_Mo_isNowOn at h
  refine sx_aload_n (pc2 := 1) hX 0 d_Mo_isNowOn_0 rfl rfl rfl ?_
  refine sx_iload_n (pc2 := 2) hX 1 d_Mo_isNowOn_1 rfl rfl rfl ?_
  refine cl_Mo_311 (pc2 := 5) hX hK h  ⟨Nat.le_of_ble_eq_true rfl, Nat.le_of_ble_eq_true rfl⟩ (Nat.le_of_ble_eq_true rfl) d_Mo_isNowOn_2 rfl (fun r2 σ2 τ2 h => ?_)
  refine sx_if_eq (tgt := 27) (pc2 := 8) hX d_Mo_isNowOn_5 (by decide) rfl (fun hc3 => ?_) (fun hc3 => ?_)
  · replace h := sx_t h hc3
    refine sx_sub [] [] rfl ?_
    exact g_Mo_isNowOn_b27 hX hK hE   _ _ h
  · replace h := sx_f h hc3
    refine sx_aload_n (pc2 := 9) hX 0 d_Mo_isNowOn_8 rfl rfl rfl ?_
    refine fg_Mo_68 (pc2 := 12) hX (kr_50 hK) d_Mo_isNowOn_9 rfl ?_
    refine sx_bipush (v := 9) (pc2 := 14) hX d_Mo_isNowOn_12 (by decide) rfl ?_
    obtain ⟨hc4, h⟩ := h
    refine sx_iald (pc2 := 15) hX (kr_67 hK) rfl hc4 d_Mo_isNowOn_14 rfl ?_
    refine sx_iload_n (pc2 := 16) hX 1 d_Mo_isNowOn_15 rfl rfl rfl ?_
    refine sx_ishr (pc2 := 17) hX d_Mo_isNowOn_16 rfl ?_
    refine sx_iconst (v := 1) (pc2 := 18) hX d_Mo_isNowOn_17 (by decide) rfl ?_
    refine sx_iand (pc2 := 19) hX d_Mo_isNowOn_18 rfl ?_
    refine sx_iconst (v := 1) (pc2 := 20) hX d_Mo_isNowOn_19 (by decide) rfl ?_
    refine sx_icmp_ne (tgt := 27) (pc2 := 23) hX d_Mo_isNowOn_20 (by decide) rfl (fun hc5 => ?_) (fun hc5 => ?_)
    · replace h := sx_f h hc5
      refine sx_sub [] [] rfl ?_
      exact g_Mo_isNowOn_b27 hX hK hE   _ _ h
    · replace h := sx_t h hc5
      refine sx_iconst (v := 1) (pc2 := 24) hX d_Mo_isNowOn_23 (by decide) rfl ?_
      refine sx_goto (tgt := 28) hX d_Mo_isNowOn_24 (by decide) ?_
      refine sx_sub [] [] rfl ?_
      exact g_Mo_isNowOn_b28 hX hK hE   1 _ _ h
theorem cl_Mo_341 {X : sx_T} {K : sx_K} {cc : ByteArray} {nL : Nat} {ret : Option FieldType} {rm : Room} {l : Launch} {pc pc2 : Nat} {lv : List (Nat × Value)} {st : List Value} {σ : sx_M} {τ : sx_L} {x1 : Int32} {Q : Int32 → sx_M → sx_L → Prop} (hX : sx_C X K cc nL "SensorTreeModel" ret rm l) (hK : kx_F K) (h : wp_Mo_isNowOn x1 σ τ Q)  (hR : rm_Mo_isNowOn.frames + 1 ≤ rm.frames ∧ 8 + (2 + 11) + rm_Mo_isNowOn.locals ≤ rm.locals) (hst : (st.map fun v => v.category).sum ≤ 8) (hd : decode cc pc = .ok (.invokevirtual 341, 3)) (hpc : pc + 3 = pc2) (kk : ∀ (r : Int32) (σ2 : sx_M) (τ2 : sx_L), Q r σ2 τ2 → sx_G X K nL pc2 lv (.int r :: st) (sx_H K σ2 τ2)) : sx_G X K nL pc lv (.int x1 :: .ref (K.2.2.1 50 0 0) :: st) (sx_H K σ τ) :=
  sx_callVi (Q := Q) (As := [.int x1]) hX (c_Mo_isNowOn hK x1 σ τ Q  h) (kr_50 hK) rfl rfl lk_547 ls_89 hy_Mo_isNowOn lk_545 lk_364 lk_546 ⟨rfl, rfl⟩ hR hst rfl hd hpc kk
def y_Mo_post : MethodName := ⟨"SensorTreeModel", "post", "(II)I"⟩
theorem hy_Mo_post : y_Mo_post.cls ≠ "java/lang/invoke/MethodHandle" ∧ y_Mo_post.cls ≠ "java/lang/invoke/VarHandle" ∧ (parseMethodDescriptor y_Mo_post.desc).map (fun d => d.parameters.length) = some 2 := by decide +kernel
theorem d_Mo_post_0 : decode prog_13_method_78_code 0 = .ok (.aload_n 0, 1) := by decide +kernel
theorem d_Mo_post_1 : decode prog_13_method_78_code 1 = .ok (.iload_n 1, 1) := by decide +kernel
theorem d_Mo_post_2 : decode prog_13_method_78_code 2 = .ok (.invokevirtual 311, 3) := by decide +kernel
theorem d_Mo_post_5 : decode prog_13_method_78_code 5 = .ok (.ifCond .eq 13, 3) := by decide +kernel
theorem d_Mo_post_8 : decode prog_13_method_78_code 8 = .ok (.iload_n 2, 1) := by decide +kernel
theorem d_Mo_post_9 : decode prog_13_method_78_code 9 = .ok (.iconst 0, 1) := by decide +kernel
theorem d_Mo_post_10 : decode prog_13_method_78_code 10 = .ok (.bipush 10, 2) := by decide +kernel
theorem d_Mo_post_12 : decode prog_13_method_78_code 12 = .ok (.invokestatic 216, 3) := by decide +kernel
theorem d_Mo_post_15 : decode prog_13_method_78_code 15 = .ok (.ifCond .ne 5, 3) := by decide +kernel
theorem d_Mo_post_18 : decode prog_13_method_78_code 18 = .ok (.iconst (-1), 1) := by decide +kernel
theorem d_Mo_post_19 : decode prog_13_method_78_code 19 = .ok (.ireturn, 1) := by decide +kernel
theorem d_Mo_post_20 : decode prog_13_method_78_code 20 = .ok (.iload_n 2, 1) := by decide +kernel
theorem d_Mo_post_21 : decode prog_13_method_78_code 21 = .ok (.ifCond .ne 17, 3) := by decide +kernel
theorem d_Mo_post_24 : decode prog_13_method_78_code 24 = .ok (.aload_n 0, 1) := by decide +kernel
theorem d_Mo_post_25 : decode prog_13_method_78_code 25 = .ok (.getfield 68, 3) := by decide +kernel
theorem d_Mo_post_28 : decode prog_13_method_78_code 28 = .ok (.bipush 9, 2) := by decide +kernel
theorem d_Mo_post_30 : decode prog_13_method_78_code 30 = .ok (.iaload, 1) := by decide +kernel
theorem d_Mo_post_31 : decode prog_13_method_78_code 31 = .ok (.iload_n 1, 1) := by decide +kernel
theorem d_Mo_post_32 : decode prog_13_method_78_code 32 = .ok (.ishr, 1) := by decide +kernel
theorem d_Mo_post_33 : decode prog_13_method_78_code 33 = .ok (.iconst 1, 1) := by decide +kernel
theorem d_Mo_post_34 : decode prog_13_method_78_code 34 = .ok (.iand, 1) := by decide +kernel
theorem d_Mo_post_35 : decode prog_13_method_78_code 35 = .ok (.goto 11, 3) := by decide +kernel
theorem d_Mo_post_38 : decode prog_13_method_78_code 38 = .ok (.aload_n 0, 1) := by decide +kernel
theorem d_Mo_post_39 : decode prog_13_method_78_code 39 = .ok (.iload_n 1, 1) := by decide +kernel
theorem d_Mo_post_40 : decode prog_13_method_78_code 40 = .ok (.iload_n 2, 1) := by decide +kernel
theorem d_Mo_post_41 : decode prog_13_method_78_code 41 = .ok (.iconst 1, 1) := by decide +kernel
theorem d_Mo_post_42 : decode prog_13_method_78_code 42 = .ok (.isub, 1) := by decide +kernel
theorem d_Mo_post_43 : decode prog_13_method_78_code 43 = .ok (.invokevirtual 338, 3) := by decide +kernel
theorem d_Mo_post_46 : decode prog_13_method_78_code 46 = .ok (.ireturn, 1) := by decide +kernel
def wp_Mo_post_b46   (Q : Int32 → sx_M → sx_L → Prop) (w0 : Int32) (σ : sx_M) (τ : sx_L) : Prop := Q w0 σ τ
def wp_Mo_post_b18   (Q : Int32 → sx_M → sx_L → Prop)  (σ : sx_M) (τ : sx_L) : Prop := Q (-1) σ τ
def wp_Mo_post (x1 : Int32) (x2 : Int32) (σ : sx_M) (τ : sx_L) (Q : Int32 → sx_M → sx_L → Prop) : Prop := wp_Mo_isPost x1 σ τ (fun r1 σ1 τ1 => if r1 = 0 then (wp_Mo_post_b18 Q σ1 τ1) else (wp_Mo_in x2 (0 : Int32) (10 : Int32) σ1 τ1 (fun r3 σ3 τ3 => if r3 = 0 then (wp_Mo_post_b18 Q σ3 τ3) else (if x2 = 0 then (vp_in 9 643 ∧ (wp_Mo_post_b46 Q (((σ3 67 0 0 (9 : Int32).toNatClampNeg) >>> (x1 &&& 31)) &&& 1) σ3 τ3)) else (wp_Mo_nowOf x1 (x2 - 1) σ3 τ3 (fun r6 σ6 τ6 => wp_Mo_post_b46 Q r6 σ6 τ6))))))
abbrev rm_Mo_post : Room := { frames := 2, cells := 0, slots := 0, locals := 43 }
set_option maxRecDepth 100000 in
set_option maxHeartbeats 4000000 in
theorem g_Mo_post_b46 {l : Launch} {K : sx_K} {X : sx_T}   {Q : Int32 → sx_M → sx_L → Prop} (hX : sx_C X K prog_13_method_78_code 3 "SensorTreeModel" (some .int) rm_Mo_post l) (hK : kx_F K) (hE : sx_E X K (sx_Qi K Q))  (w0 : Int32) (σ : sx_M) (τ : sx_L)  (h : wp_Mo_post_b46 Q  w0 σ τ) : sx_G X K 3 46 [] [.int w0] (sx_H K σ τ) := by
  unfold wp_Mo_post_b46 at h
  exact sx_iret hX hE h d_Mo_post_46
set_option maxRecDepth 100000 in
set_option maxHeartbeats 4000000 in
theorem g_Mo_post_b18 {l : Launch} {K : sx_K} {X : sx_T}   {Q : Int32 → sx_M → sx_L → Prop} (hX : sx_C X K prog_13_method_78_code 3 "SensorTreeModel" (some .int) rm_Mo_post l) (hK : kx_F K) (hE : sx_E X K (sx_Qi K Q))   (σ : sx_M) (τ : sx_L)  (h : wp_Mo_post_b18 Q  σ τ) : sx_G X K 3 18 [] [] (sx_H K σ τ) := by
  unfold wp_Mo_post_b18 at h
  refine sx_iconst (v := (-1)) (pc2 := 19) hX d_Mo_post_18 (by decide) rfl ?_
  exact sx_iret hX hE h d_Mo_post_19
set_option maxRecDepth 100000 in
set_option maxHeartbeats 4000000 in
theorem c_Mo_post {l : Launch} {K : sx_K} (hK : kx_F K) (x1 : Int32) (x2 : Int32) (σ : sx_M) (τ : sx_L) (Q : Int32 → sx_M → sx_L → Prop)  (h : wp_Mo_post x1 x2 σ τ Q) : Met l y_Mo_post (sx_wd y_Mo_post prog_13_method_78_code 3 (some .int)) rm_Mo_post (sx_Pc K [.ref (K.2.2.1 50 0 0), .int x1, .int x2] σ τ) (sx_Qi K Q) 0 0 (sx_A K) := by
  refine sx_met (by decide) (Nat.le_of_ble_eq_true rfl) (fun X hX hE => ?_)
  replace hX : sx_C X K prog_13_method_78_code 3 "SensorTreeModel" (some .int) rm_Mo_post l := hX
  show sx_G X K 3 0 [(0, .ref (K.2.2.1 50 0 0)), (1, .int x1), (2, .int x2)] [] (sx_H K σ τ)
  unfold wp_Mo_post at h
  refine sx_aload_n (pc2 := 1) hX 0 d_Mo_post_0 rfl rfl rfl ?_
  refine sx_iload_n (pc2 := 2) hX 1 d_Mo_post_1 rfl rfl rfl ?_
  refine cl_Mo_311 (pc2 := 5) hX hK h  ⟨Nat.le_of_ble_eq_true rfl, Nat.le_of_ble_eq_true rfl⟩ (Nat.le_of_ble_eq_true rfl) d_Mo_post_2 rfl (fun r1 σ1 τ1 h => ?_)
  refine sx_if_eq (tgt := 18) (pc2 := 8) hX d_Mo_post_5 (by decide) rfl (fun hc2 => ?_) (fun hc2 => ?_)
  · replace h := sx_t h hc2
    refine sx_sub [] [] rfl ?_
    exact g_Mo_post_b18 hX hK hE   _ _ h
  · replace h := sx_f h hc2
    refine sx_iload_n (pc2 := 9) hX 2 d_Mo_post_8 rfl rfl rfl ?_
    refine sx_iconst (v := 0) (pc2 := 10) hX d_Mo_post_9 (by decide) rfl ?_
    refine sx_bipush (v := 10) (pc2 := 12) hX d_Mo_post_10 (by decide) rfl ?_
    refine cl_Mo_216 (pc2 := 15) hX hK h  ⟨Nat.le_of_ble_eq_true rfl, Nat.le_of_ble_eq_true rfl⟩ (Nat.le_of_ble_eq_true rfl) d_Mo_post_12 rfl (fun r3 σ3 τ3 h => ?_)
    refine sx_if_ne (tgt := 20) (pc2 := 18) hX d_Mo_post_15 (by decide) rfl (fun hc4 => ?_) (fun hc4 => ?_)
    · replace h := sx_f h hc4
      refine sx_iload_n (pc2 := 21) hX 2 d_Mo_post_20 rfl rfl rfl ?_
      refine sx_if_ne (tgt := 38) (pc2 := 24) hX d_Mo_post_21 (by decide) rfl (fun hc5 => ?_) (fun hc5 => ?_)
      · replace h := sx_f h hc5
        refine sx_aload_n (pc2 := 39) hX 0 d_Mo_post_38 rfl rfl rfl ?_
        refine sx_iload_n (pc2 := 40) hX 1 d_Mo_post_39 rfl rfl rfl ?_
        refine sx_iload_n (pc2 := 41) hX 2 d_Mo_post_40 rfl rfl rfl ?_
        refine sx_iconst (v := 1) (pc2 := 42) hX d_Mo_post_41 (by decide) rfl ?_
        refine sx_isub (pc2 := 43) hX d_Mo_post_42 rfl ?_
        refine cl_Mo_338 (pc2 := 46) hX hK h  ⟨Nat.le_of_ble_eq_true rfl, Nat.le_of_ble_eq_true rfl⟩ (Nat.le_of_ble_eq_true rfl) d_Mo_post_43 rfl (fun r6 σ6 τ6 h => ?_)
        refine sx_sub [] [] rfl ?_
        exact g_Mo_post_b46 hX hK hE   r6 _ _ h
      · replace h := sx_t h hc5
        refine sx_aload_n (pc2 := 25) hX 0 d_Mo_post_24 rfl rfl rfl ?_
        refine fg_Mo_68 (pc2 := 28) hX (kr_50 hK) d_Mo_post_25 rfl ?_
        refine sx_bipush (v := 9) (pc2 := 30) hX d_Mo_post_28 (by decide) rfl ?_
        obtain ⟨hc7, h⟩ := h
        refine sx_iald (pc2 := 31) hX (kr_67 hK) rfl hc7 d_Mo_post_30 rfl ?_
        refine sx_iload_n (pc2 := 32) hX 1 d_Mo_post_31 rfl rfl rfl ?_
        refine sx_ishr (pc2 := 33) hX d_Mo_post_32 rfl ?_
        refine sx_iconst (v := 1) (pc2 := 34) hX d_Mo_post_33 (by decide) rfl ?_
        refine sx_iand (pc2 := 35) hX d_Mo_post_34 rfl ?_
        refine sx_goto (tgt := 46) hX d_Mo_post_35 (by decide) ?_
        refine sx_sub [] [] rfl ?_
        exact g_Mo_post_b46 hX hK hE   (((σ3 67 0 0 (9 : Int32).toNatClampNeg) >>> (x1 &&& 31)) &&& 1) _ _ h
    · replace h := sx_t h hc4
      refine sx_sub [] [] rfl ?_
      exact g_Mo_post_b18 hX hK hE   _ _ h
def y_Mo_heard : MethodName := ⟨"SensorTreeModel", "heard", "(II)I"⟩
theorem hy_Mo_heard : y_Mo_heard.cls ≠ "java/lang/invoke/MethodHandle" ∧ y_Mo_heard.cls ≠ "java/lang/invoke/VarHandle" ∧ (parseMethodDescriptor y_Mo_heard.desc).map (fun d => d.parameters.length) = some 2 := by decide +kernel
theorem d_Mo_heard_0 : decode prog_13_method_79_code 0 = .ok (.aload_n 0, 1) := by decide +kernel
theorem d_Mo_heard_1 : decode prog_13_method_79_code 1 = .ok (.iload_n 1, 1) := by decide +kernel
theorem d_Mo_heard_2 : decode prog_13_method_79_code 2 = .ok (.invokevirtual 311, 3) := by decide +kernel
theorem d_Mo_heard_5 : decode prog_13_method_79_code 5 = .ok (.ifCond .eq 33, 3) := by decide +kernel
theorem d_Mo_heard_8 : decode prog_13_method_79_code 8 = .ok (.aload_n 0, 1) := by decide +kernel
theorem d_Mo_heard_9 : decode prog_13_method_79_code 9 = .ok (.iload_n 2, 1) := by decide +kernel
theorem d_Mo_heard_10 : decode prog_13_method_79_code 10 = .ok (.invokevirtual 311, 3) := by decide +kernel
theorem d_Mo_heard_13 : decode prog_13_method_79_code 13 = .ok (.ifCond .eq 25, 3) := by decide +kernel
theorem d_Mo_heard_16 : decode prog_13_method_79_code 16 = .ok (.iload_n 1, 1) := by decide +kernel
theorem d_Mo_heard_17 : decode prog_13_method_79_code 17 = .ok (.iload_n 2, 1) := by decide +kernel
theorem d_Mo_heard_18 : decode prog_13_method_79_code 18 = .ok (.if_icmp .eq 20, 3) := by decide +kernel
theorem d_Mo_heard_21 : decode prog_13_method_79_code 21 = .ok (.aload_n 0, 1) := by decide +kernel
theorem d_Mo_heard_22 : decode prog_13_method_79_code 22 = .ok (.getfield 68, 3) := by decide +kernel
theorem d_Mo_heard_25 : decode prog_13_method_79_code 25 = .ok (.bipush 96, 2) := by decide +kernel
theorem d_Mo_heard_27 : decode prog_13_method_79_code 27 = .ok (.bipush 7, 2) := by decide +kernel
theorem d_Mo_heard_29 : decode prog_13_method_79_code 29 = .ok (.iload_n 1, 1) := by decide +kernel
theorem d_Mo_heard_30 : decode prog_13_method_79_code 30 = .ok (.imul, 1) := by decide +kernel
theorem d_Mo_heard_31 : decode prog_13_method_79_code 31 = .ok (.iadd, 1) := by decide +kernel
theorem d_Mo_heard_32 : decode prog_13_method_79_code 32 = .ok (.iload_n 2, 1) := by decide +kernel
theorem d_Mo_heard_33 : decode prog_13_method_79_code 33 = .ok (.iadd, 1) := by decide +kernel
theorem d_Mo_heard_34 : decode prog_13_method_79_code 34 = .ok (.iaload, 1) := by decide +kernel
theorem d_Mo_heard_35 : decode prog_13_method_79_code 35 = .ok (.goto 4, 3) := by decide +kernel
theorem d_Mo_heard_38 : decode prog_13_method_79_code 38 = .ok (.iconst (-1), 1) := by decide +kernel
theorem d_Mo_heard_39 : decode prog_13_method_79_code 39 = .ok (.ireturn, 1) := by decide +kernel
def wp_Mo_heard_b39   (Q : Int32 → sx_M → sx_L → Prop) (w0 : Int32) (σ : sx_M) (τ : sx_L) : Prop := Q w0 σ τ
def wp_Mo_heard_b38   (Q : Int32 → sx_M → sx_L → Prop)  (σ : sx_M) (τ : sx_L) : Prop := wp_Mo_heard_b39 Q (-1) σ τ
def wp_Mo_heard (x1 : Int32) (x2 : Int32) (σ : sx_M) (τ : sx_L) (Q : Int32 → sx_M → sx_L → Prop) : Prop := wp_Mo_isPost x1 σ τ (fun r1 σ1 τ1 => if r1 = 0 then (wp_Mo_heard_b38 Q σ1 τ1) else (wp_Mo_isPost x2 σ1 τ1 (fun r3 σ3 τ3 => if r3 = 0 then (wp_Mo_heard_b38 Q σ3 τ3) else (if x1 = x2 then (wp_Mo_heard_b38 Q σ3 τ3) else (vp_in ((96 + (7 * x1)) + x2) 643 ∧ (wp_Mo_heard_b39 Q (σ3 67 0 0 ((96 + (7 * x1)) + x2).toNatClampNeg) σ3 τ3))))))
abbrev rm_Mo_heard : Room := { frames := 2, cells := 0, slots := 0, locals := 43 }
set_option maxRecDepth 100000 in
set_option maxHeartbeats 4000000 in
theorem g_Mo_heard_b39 {l : Launch} {K : sx_K} {X : sx_T}   {Q : Int32 → sx_M → sx_L → Prop} (hX : sx_C X K prog_13_method_79_code 3 "SensorTreeModel" (some .int) rm_Mo_heard l) (hK : kx_F K) (hE : sx_E X K (sx_Qi K Q))  (w0 : Int32) (σ : sx_M) (τ : sx_L)  (h : wp_Mo_heard_b39 Q  w0 σ τ) : sx_G X K 3 39 [] [.int w0] (sx_H K σ τ) := by
  unfold wp_Mo_heard_b39 at h
  exact sx_iret hX hE h d_Mo_heard_39
set_option maxRecDepth 100000 in
set_option maxHeartbeats 4000000 in
theorem g_Mo_heard_b38 {l : Launch} {K : sx_K} {X : sx_T}   {Q : Int32 → sx_M → sx_L → Prop} (hX : sx_C X K prog_13_method_79_code 3 "SensorTreeModel" (some .int) rm_Mo_heard l) (hK : kx_F K) (hE : sx_E X K (sx_Qi K Q))   (σ : sx_M) (τ : sx_L)  (h : wp_Mo_heard_b38 Q  σ τ) : sx_G X K 3 38 [] [] (sx_H K σ τ) := by
  unfold wp_Mo_heard_b38 at h
  refine sx_iconst (v := (-1)) (pc2 := 39) hX d_Mo_heard_38 (by decide) rfl ?_
  exact g_Mo_heard_b39 hX hK hE   (-1) _ _ h
set_option maxRecDepth 100000 in
set_option maxHeartbeats 4000000 in
theorem c_Mo_heard {l : Launch} {K : sx_K} (hK : kx_F K) (x1 : Int32) (x2 : Int32) (σ : sx_M) (τ : sx_L) (Q : Int32 → sx_M → sx_L → Prop)  (h : wp_Mo_heard x1 x2 σ τ Q) : Met l y_Mo_heard (sx_wd y_Mo_heard prog_13_method_79_code 3 (some .int)) rm_Mo_heard (sx_Pc K [.ref (K.2.2.1 50 0 0), .int x1, .int x2] σ τ) (sx_Qi K Q) 0 0 (sx_A K) := by
  refine sx_met (by decide) (Nat.le_of_ble_eq_true rfl) (fun X hX hE => ?_)
  replace hX : sx_C X K prog_13_method_79_code 3 "SensorTreeModel" (some .int) rm_Mo_heard l := hX
  show sx_G X K 3 0 [(0, .ref (K.2.2.1 50 0 0)), (1, .int x1), (2, .int x2)] [] (sx_H K σ τ)
  unfold wp_Mo_heard at h
  refine sx_aload_n (pc2 := 1) hX 0 d_Mo_heard_0 rfl rfl rfl ?_
  refine sx_iload_n (pc2 := 2) hX 1 d_Mo_heard_1 rfl rfl rfl ?_
  refine cl_Mo_311 (pc2 := 5) hX hK h  ⟨Nat.le_of_ble_eq_true rfl, Nat.le_of_ble_eq_true rfl⟩ (Nat.le_of_ble_eq_true rfl) d_Mo_heard_2 rfl (fun r1 σ1 τ1 h => ?_)
  refine sx_if_eq (tgt := 38) (pc2 := 8) hX d_Mo_heard_5 (by decide) rfl (fun hc2 => ?_) (fun hc2 => ?_)
  · replace h := sx_t h hc2
    refine sx_sub [] [] rfl ?_
    exact g_Mo_heard_b38 hX hK hE   _ _ h
  · replace h := sx_f h hc2
    refine sx_aload_n (pc2 := 9) hX 0 d_Mo_heard_8 rfl rfl rfl ?_
    refine sx_iload_n (pc2 := 10) hX 2 d_Mo_heard_9 rfl rfl rfl ?_
    refine cl_Mo_311 (pc2 := 13) hX hK h  ⟨Nat.le_of_ble_eq_true rfl, Nat.le_of_ble_eq_true rfl⟩ (Nat.le_of_ble_eq_true rfl) d_Mo_heard_10 rfl (fun r3 σ3 τ3 h => ?_)
    refine sx_if_eq (tgt := 38) (pc2 := 16) hX d_Mo_heard_13 (by decide) rfl (fun hc4 => ?_) (fun hc4 => ?_)
    · replace h := sx_t h hc4
      refine sx_sub [] [] rfl ?_
      exact g_Mo_heard_b38 hX hK hE   _ _ h
    · replace h := sx_f h hc4
      refine sx_iload_n (pc2 := 17) hX 1 d_Mo_heard_16 rfl rfl rfl ?_
      refine sx_iload_n (pc2 := 18) hX 2 d_Mo_heard_17 rfl rfl rfl ?_
      refine sx_icmp_eq (tgt := 38) (pc2 := 21) hX d_Mo_heard_18 (by decide) rfl (fun hc5 => ?_) (fun hc5 => ?_)
      · replace h := sx_t h hc5
        refine sx_sub [] [] rfl ?_
        exact g_Mo_heard_b38 hX hK hE   _ _ h
      · replace h := sx_f h hc5
        refine sx_aload_n (pc2 := 22) hX 0 d_Mo_heard_21 rfl rfl rfl ?_
        refine fg_Mo_68 (pc2 := 25) hX (kr_50 hK) d_Mo_heard_22 rfl ?_
        refine sx_bipush (v := 96) (pc2 := 27) hX d_Mo_heard_25 (by decide) rfl ?_
        refine sx_bipush (v := 7) (pc2 := 29) hX d_Mo_heard_27 (by decide) rfl ?_
        refine sx_iload_n (pc2 := 30) hX 1 d_Mo_heard_29 rfl rfl rfl ?_
        refine sx_imul (pc2 := 31) hX d_Mo_heard_30 rfl ?_
        refine sx_iadd (pc2 := 32) hX d_Mo_heard_31 rfl ?_
        refine sx_iload_n (pc2 := 33) hX 2 d_Mo_heard_32 rfl rfl rfl ?_
        refine sx_iadd (pc2 := 34) hX d_Mo_heard_33 rfl ?_
        obtain ⟨hc6, h⟩ := h
        refine sx_iald (pc2 := 35) hX (kr_67 hK) rfl hc6 d_Mo_heard_34 rfl ?_
        refine sx_goto (tgt := 39) hX d_Mo_heard_35 (by decide) ?_
        refine sx_sub [] [] rfl ?_
        exact g_Mo_heard_b39 hX hK hE   (σ3 67 0 0 ((96 + (7 * x1)) + x2).toNatClampNeg) _ _ h
def y_Mo_route : MethodName := ⟨"SensorTreeModel", "route", "(III)I"⟩
theorem hy_Mo_route : y_Mo_route.cls ≠ "java/lang/invoke/MethodHandle" ∧ y_Mo_route.cls ≠ "java/lang/invoke/VarHandle" ∧ (parseMethodDescriptor y_Mo_route.desc).map (fun d => d.parameters.length) = some 3 := by decide +kernel
theorem d_Mo_route_0 : decode prog_13_method_80_code 0 = .ok (.aload_n 0, 1) := by decide +kernel
theorem d_Mo_route_1 : decode prog_13_method_80_code 1 = .ok (.iload_n 1, 1) := by decide +kernel
theorem d_Mo_route_2 : decode prog_13_method_80_code 2 = .ok (.invokevirtual 311, 3) := by decide +kernel
theorem d_Mo_route_5 : decode prog_13_method_80_code 5 = .ok (.ifCond .eq 25, 3) := by decide +kernel
theorem d_Mo_route_8 : decode prog_13_method_80_code 8 = .ok (.aload_n 0, 1) := by decide +kernel
theorem d_Mo_route_9 : decode prog_13_method_80_code 9 = .ok (.iload_n 2, 1) := by decide +kernel
theorem d_Mo_route_10 : decode prog_13_method_80_code 10 = .ok (.invokevirtual 311, 3) := by decide +kernel
theorem d_Mo_route_13 : decode prog_13_method_80_code 13 = .ok (.ifCond .eq 17, 3) := by decide +kernel
theorem d_Mo_route_16 : decode prog_13_method_80_code 16 = .ok (.iload_n 1, 1) := by decide +kernel
theorem d_Mo_route_17 : decode prog_13_method_80_code 17 = .ok (.iload_n 2, 1) := by decide +kernel
theorem d_Mo_route_18 : decode prog_13_method_80_code 18 = .ok (.if_icmp .eq 12, 3) := by decide +kernel
theorem d_Mo_route_21 : decode prog_13_method_80_code 21 = .ok (.iload_n 3, 1) := by decide +kernel
theorem d_Mo_route_22 : decode prog_13_method_80_code 22 = .ok (.iconst 0, 1) := by decide +kernel
theorem d_Mo_route_23 : decode prog_13_method_80_code 23 = .ok (.iconst 1, 1) := by decide +kernel
theorem d_Mo_route_24 : decode prog_13_method_80_code 24 = .ok (.invokestatic 216, 3) := by decide +kernel
theorem d_Mo_route_27 : decode prog_13_method_80_code 27 = .ok (.ifCond .ne 5, 3) := by decide +kernel
theorem d_Mo_route_30 : decode prog_13_method_80_code 30 = .ok (.iconst (-1), 1) := by decide +kernel
theorem d_Mo_route_31 : decode prog_13_method_80_code 31 = .ok (.ireturn, 1) := by decide +kernel
theorem d_Mo_route_32 : decode prog_13_method_80_code 32 = .ok (.bipush 7, 2) := by decide +kernel
theorem d_Mo_route_34 : decode prog_13_method_80_code 34 = .ok (.iload_n 1, 1) := by decide +kernel
theorem d_Mo_route_35 : decode prog_13_method_80_code 35 = .ok (.imul, 1) := by decide +kernel
theorem d_Mo_route_36 : decode prog_13_method_80_code 36 = .ok (.iload_n 2, 1) := by decide +kernel
theorem d_Mo_route_37 : decode prog_13_method_80_code 37 = .ok (.iadd, 1) := by decide +kernel
theorem d_Mo_route_38 : decode prog_13_method_80_code 38 = .ok (.istore 4, 2) := by decide +kernel
theorem d_Mo_route_40 : decode prog_13_method_80_code 40 = .ok (.aload_n 0, 1) := by decide +kernel
theorem d_Mo_route_41 : decode prog_13_method_80_code 41 = .ok (.getfield 68, 3) := by decide +kernel
theorem d_Mo_route_44 : decode prog_13_method_80_code 44 = .ok (.sipush 145, 3) := by decide +kernel
theorem d_Mo_route_47 : decode prog_13_method_80_code 47 = .ok (.iload 4, 2) := by decide +kernel
theorem d_Mo_route_49 : decode prog_13_method_80_code 49 = .ok (.iadd, 1) := by decide +kernel
theorem d_Mo_route_50 : decode prog_13_method_80_code 50 = .ok (.iaload, 1) := by decide +kernel
theorem d_Mo_route_51 : decode prog_13_method_80_code 51 = .ok (.ifCond .ge 8, 3) := by decide +kernel
theorem d_Mo_route_54 : decode prog_13_method_80_code 54 = .ok (.bipush (-2), 2) := by decide +kernel
theorem d_Mo_route_56 : decode prog_13_method_80_code 56 = .ok (.goto 32, 3) := by decide +kernel
theorem d_Mo_route_59 : decode prog_13_method_80_code 59 = .ok (.iload_n 3, 1) := by decide +kernel
theorem d_Mo_route_60 : decode prog_13_method_80_code 60 = .ok (.ifCond .ne 17, 3) := by decide +kernel
theorem d_Mo_route_63 : decode prog_13_method_80_code 63 = .ok (.aload_n 0, 1) := by decide +kernel
theorem d_Mo_route_64 : decode prog_13_method_80_code 64 = .ok (.getfield 68, 3) := by decide +kernel
theorem d_Mo_route_67 : decode prog_13_method_80_code 67 = .ok (.sipush 145, 3) := by decide +kernel
theorem d_Mo_route_70 : decode prog_13_method_80_code 70 = .ok (.iload 4, 2) := by decide +kernel
theorem d_Mo_route_72 : decode prog_13_method_80_code 72 = .ok (.iadd, 1) := by decide +kernel
theorem d_Mo_route_73 : decode prog_13_method_80_code 73 = .ok (.iaload, 1) := by decide +kernel
theorem d_Mo_route_74 : decode prog_13_method_80_code 74 = .ok (.goto 14, 3) := by decide +kernel
theorem d_Mo_route_77 : decode prog_13_method_80_code 77 = .ok (.aload_n 0, 1) := by decide +kernel
theorem d_Mo_route_78 : decode prog_13_method_80_code 78 = .ok (.getfield 68, 3) := by decide +kernel
theorem d_Mo_route_81 : decode prog_13_method_80_code 81 = .ok (.sipush 194, 3) := by decide +kernel
theorem d_Mo_route_84 : decode prog_13_method_80_code 84 = .ok (.iload 4, 2) := by decide +kernel
theorem d_Mo_route_86 : decode prog_13_method_80_code 86 = .ok (.iadd, 1) := by decide +kernel
theorem d_Mo_route_87 : decode prog_13_method_80_code 87 = .ok (.iaload, 1) := by decide +kernel
theorem d_Mo_route_88 : decode prog_13_method_80_code 88 = .ok (.ireturn, 1) := by decide +kernel
def wp_Mo_route_b88   (Q : Int32 → sx_M → sx_L → Prop) (w0 : Int32) (σ : sx_M) (τ : sx_L) : Prop := Q w0 σ τ
def wp_Mo_route_b30   (Q : Int32 → sx_M → sx_L → Prop)  (σ : sx_M) (τ : sx_L) : Prop := Q (-1) σ τ
def wp_Mo_route (x1 : Int32) (x2 : Int32) (x3 : Int32) (σ : sx_M) (τ : sx_L) (Q : Int32 → sx_M → sx_L → Prop) : Prop := wp_Mo_isPost x1 σ τ (fun r1 σ1 τ1 => if r1 = 0 then (wp_Mo_route_b30 Q σ1 τ1) else (wp_Mo_isPost x2 σ1 τ1 (fun r3 σ3 τ3 => if r3 = 0 then (wp_Mo_route_b30 Q σ3 τ3) else (if x1 = x2 then (wp_Mo_route_b30 Q σ3 τ3) else (wp_Mo_in x3 (0 : Int32) (1 : Int32) σ3 τ3 (fun r6 σ6 τ6 => if r6 = 0 then (wp_Mo_route_b30 Q σ6 τ6) else (vp_in (145 + ((7 * x1) + x2)) 643 ∧ (if 0 ≤ σ6 67 0 0 (145 + ((7 * x1) + x2)).toNatClampNeg then (if x3 = 0 then (vp_in (145 + ((7 * x1) + x2)) 643 ∧ (wp_Mo_route_b88 Q (σ6 67 0 0 (145 + ((7 * x1) + x2)).toNatClampNeg) σ6 τ6)) else (vp_in (194 + ((7 * x1) + x2)) 643 ∧ (wp_Mo_route_b88 Q (σ6 67 0 0 (194 + ((7 * x1) + x2)).toNatClampNeg) σ6 τ6))) else (wp_Mo_route_b88 Q (-2) σ6 τ6)))))))))
abbrev rm_Mo_route : Room := { frames := 2, cells := 0, slots := 0, locals := 43 }
set_option maxRecDepth 100000 in
set_option maxHeartbeats 4000000 in
theorem g_Mo_route_b88 {l : Launch} {K : sx_K} {X : sx_T}   {Q : Int32 → sx_M → sx_L → Prop} (hX : sx_C X K prog_13_method_80_code 5 "SensorTreeModel" (some .int) rm_Mo_route l) (hK : kx_F K) (hE : sx_E X K (sx_Qi K Q))  (w0 : Int32) (σ : sx_M) (τ : sx_L)  (h : wp_Mo_route_b88 Q  w0 σ τ) : sx_G X K 5 88 [] [.int w0] (sx_H K σ τ) := by
  unfold wp_Mo_route_b88 at h
  exact sx_iret hX hE h d_Mo_route_88
set_option maxRecDepth 100000 in
set_option maxHeartbeats 4000000 in
theorem g_Mo_route_b30 {l : Launch} {K : sx_K} {X : sx_T}   {Q : Int32 → sx_M → sx_L → Prop} (hX : sx_C X K prog_13_method_80_code 5 "SensorTreeModel" (some .int) rm_Mo_route l) (hK : kx_F K) (hE : sx_E X K (sx_Qi K Q))   (σ : sx_M) (τ : sx_L)  (h : wp_Mo_route_b30 Q  σ τ) : sx_G X K 5 30 [] [] (sx_H K σ τ) := by
  unfold wp_Mo_route_b30 at h
  refine sx_iconst (v := (-1)) (pc2 := 31) hX d_Mo_route_30 (by decide) rfl ?_
  exact sx_iret hX hE h d_Mo_route_31
set_option maxRecDepth 100000 in
set_option maxHeartbeats 4000000 in
theorem c_Mo_route {l : Launch} {K : sx_K} (hK : kx_F K) (x1 : Int32) (x2 : Int32) (x3 : Int32) (σ : sx_M) (τ : sx_L) (Q : Int32 → sx_M → sx_L → Prop)  (h : wp_Mo_route x1 x2 x3 σ τ Q) : Met l y_Mo_route (sx_wd y_Mo_route prog_13_method_80_code 5 (some .int)) rm_Mo_route (sx_Pc K [.ref (K.2.2.1 50 0 0), .int x1, .int x2, .int x3] σ τ) (sx_Qi K Q) 0 0 (sx_A K) := by
  refine sx_met (by decide) (Nat.le_of_ble_eq_true rfl) (fun X hX hE => ?_)
  replace hX : sx_C X K prog_13_method_80_code 5 "SensorTreeModel" (some .int) rm_Mo_route l := hX
  show sx_G X K 5 0 [(0, .ref (K.2.2.1 50 0 0)), (1, .int x1), (2, .int x2), (3, .int x3)] [] (sx_H K σ τ)
  unfold wp_Mo_route at h
  refine sx_aload_n (pc2 := 1) hX 0 d_Mo_route_0 rfl rfl rfl ?_
  refine sx_iload_n (pc2 := 2) hX 1 d_Mo_route_1 rfl rfl rfl ?_
  refine cl_Mo_311 (pc2 := 5) hX hK h  ⟨Nat.le_of_ble_eq_true rfl, Nat.le_of_ble_eq_true rfl⟩ (Nat.le_of_ble_eq_true rfl) d_Mo_route_2 rfl (fun r1 σ1 τ1 h => ?_)
  refine sx_if_eq (tgt := 30) (pc2 := 8) hX d_Mo_route_5 (by decide) rfl (fun hc2 => ?_) (fun hc2 => ?_)
  · replace h := sx_t h hc2
    refine sx_sub [] [] rfl ?_
    exact g_Mo_route_b30 hX hK hE   _ _ h
  · replace h := sx_f h hc2
    refine sx_aload_n (pc2 := 9) hX 0 d_Mo_route_8 rfl rfl rfl ?_
    refine sx_iload_n (pc2 := 10) hX 2 d_Mo_route_9 rfl rfl rfl ?_
    refine cl_Mo_311 (pc2 := 13) hX hK h  ⟨Nat.le_of_ble_eq_true rfl, Nat.le_of_ble_eq_true rfl⟩ (Nat.le_of_ble_eq_true rfl) d_Mo_route_10 rfl (fun r3 σ3 τ3 h => ?_)
    refine sx_if_eq (tgt := 30) (pc2 := 16) hX d_Mo_route_13 (by decide) rfl (fun hc4 => ?_) (fun hc4 => ?_)
    · replace h := sx_t h hc4
      refine sx_sub [] [] rfl ?_
      exact g_Mo_route_b30 hX hK hE   _ _ h
    · replace h := sx_f h hc4
      refine sx_iload_n (pc2 := 17) hX 1 d_Mo_route_16 rfl rfl rfl ?_
      refine sx_iload_n (pc2 := 18) hX 2 d_Mo_route_17 rfl rfl rfl ?_
      refine sx_icmp_eq (tgt := 30) (pc2 := 21) hX d_Mo_route_18 (by decide) rfl (fun hc5 => ?_) (fun hc5 => ?_)
      · replace h := sx_t h hc5
        refine sx_sub [] [] rfl ?_
        exact g_Mo_route_b30 hX hK hE   _ _ h
      · replace h := sx_f h hc5
        refine sx_iload_n (pc2 := 22) hX 3 d_Mo_route_21 rfl rfl rfl ?_
        refine sx_iconst (v := 0) (pc2 := 23) hX d_Mo_route_22 (by decide) rfl ?_
        refine sx_iconst (v := 1) (pc2 := 24) hX d_Mo_route_23 (by decide) rfl ?_
        refine cl_Mo_216 (pc2 := 27) hX hK h  ⟨Nat.le_of_ble_eq_true rfl, Nat.le_of_ble_eq_true rfl⟩ (Nat.le_of_ble_eq_true rfl) d_Mo_route_24 rfl (fun r6 σ6 τ6 h => ?_)
        refine sx_if_ne (tgt := 32) (pc2 := 30) hX d_Mo_route_27 (by decide) rfl (fun hc7 => ?_) (fun hc7 => ?_)
        · replace h := sx_f h hc7
          refine sx_bipush (v := 7) (pc2 := 34) hX d_Mo_route_32 (by decide) rfl ?_
          refine sx_iload_n (pc2 := 35) hX 1 d_Mo_route_34 rfl rfl rfl ?_
          refine sx_imul (pc2 := 36) hX d_Mo_route_35 rfl ?_
          refine sx_iload_n (pc2 := 37) hX 2 d_Mo_route_36 rfl rfl rfl ?_
          refine sx_iadd (pc2 := 38) hX d_Mo_route_37 rfl ?_
          refine sx_istore (pc2 := 40) hX _ [(0, .ref (K.2.2.1 50 0 0)), (1, .int x1), (2, .int x2), (3, .int x3), (4, .int ((7 * x1) + x2))] [1, 2, 3, 4, 0] d_Mo_route_38 (by decide) rfl rfl rfl ?_
          refine sx_aload_n (pc2 := 41) hX 0 d_Mo_route_40 rfl rfl rfl ?_
          refine fg_Mo_68 (pc2 := 44) hX (kr_50 hK) d_Mo_route_41 rfl ?_
          refine sx_sipush (v := 145) (pc2 := 47) hX d_Mo_route_44 (by decide) rfl ?_
          refine sx_iload (pc2 := 49) hX 4 d_Mo_route_47 rfl rfl ?_
          refine sx_iadd (pc2 := 50) hX d_Mo_route_49 rfl ?_
          obtain ⟨hc8, h⟩ := h
          refine sx_iald (pc2 := 51) hX (kr_67 hK) rfl hc8 d_Mo_route_50 rfl ?_
          refine sx_if_ge (tgt := 59) (pc2 := 54) hX d_Mo_route_51 (by decide) rfl (fun hc9 => ?_) (fun hc9 => ?_)
          · replace h := sx_t h hc9
            refine sx_iload_n (pc2 := 60) hX 3 d_Mo_route_59 rfl rfl rfl ?_
            refine sx_if_ne (tgt := 77) (pc2 := 63) hX d_Mo_route_60 (by decide) rfl (fun hc10 => ?_) (fun hc10 => ?_)
            · replace h := sx_f h hc10
              refine sx_aload_n (pc2 := 78) hX 0 d_Mo_route_77 rfl rfl rfl ?_
              refine fg_Mo_68 (pc2 := 81) hX (kr_50 hK) d_Mo_route_78 rfl ?_
              refine sx_sipush (v := 194) (pc2 := 84) hX d_Mo_route_81 (by decide) rfl ?_
              refine sx_iload (pc2 := 86) hX 4 d_Mo_route_84 rfl rfl ?_
              refine sx_iadd (pc2 := 87) hX d_Mo_route_86 rfl ?_
              obtain ⟨hc11, h⟩ := h
              refine sx_iald (pc2 := 88) hX (kr_67 hK) rfl hc11 d_Mo_route_87 rfl ?_
              refine sx_sub [] [] rfl ?_
              exact g_Mo_route_b88 hX hK hE   (σ6 67 0 0 (194 + ((7 * x1) + x2)).toNatClampNeg) _ _ h
            · replace h := sx_t h hc10
              refine sx_aload_n (pc2 := 64) hX 0 d_Mo_route_63 rfl rfl rfl ?_
              refine fg_Mo_68 (pc2 := 67) hX (kr_50 hK) d_Mo_route_64 rfl ?_
              refine sx_sipush (v := 145) (pc2 := 70) hX d_Mo_route_67 (by decide) rfl ?_
              refine sx_iload (pc2 := 72) hX 4 d_Mo_route_70 rfl rfl ?_
              refine sx_iadd (pc2 := 73) hX d_Mo_route_72 rfl ?_
              obtain ⟨hc12, h⟩ := h
              refine sx_iald (pc2 := 74) hX (kr_67 hK) rfl hc12 d_Mo_route_73 rfl ?_
              refine sx_goto (tgt := 88) hX d_Mo_route_74 (by decide) ?_
              refine sx_sub [] [] rfl ?_
              exact g_Mo_route_b88 hX hK hE   (σ6 67 0 0 (145 + ((7 * x1) + x2)).toNatClampNeg) _ _ h
          · replace h := sx_f h hc9
            refine sx_bipush (v := (-2)) (pc2 := 56) hX d_Mo_route_54 (by decide) rfl ?_
            refine sx_goto (tgt := 88) hX d_Mo_route_56 (by decide) ?_
            refine sx_sub [] [] rfl ?_
            exact g_Mo_route_b88 hX hK hE   (-2) _ _ h
        · replace h := sx_t h hc7
          refine sx_sub [] [] rfl ?_
          exact g_Mo_route_b30 hX hK hE   _ _ h
def y_Mo_link : MethodName := ⟨"SensorTreeModel", "link", "(II)I"⟩
theorem hy_Mo_link : y_Mo_link.cls ≠ "java/lang/invoke/MethodHandle" ∧ y_Mo_link.cls ≠ "java/lang/invoke/VarHandle" ∧ (parseMethodDescriptor y_Mo_link.desc).map (fun d => d.parameters.length) = some 2 := by decide +kernel
theorem d_Mo_link_0 : decode prog_13_method_81_code 0 = .ok (.aload_n 0, 1) := by decide +kernel
theorem d_Mo_link_1 : decode prog_13_method_81_code 1 = .ok (.iload_n 1, 1) := by decide +kernel
theorem d_Mo_link_2 : decode prog_13_method_81_code 2 = .ok (.invokevirtual 326, 3) := by decide +kernel
theorem d_Mo_link_5 : decode prog_13_method_81_code 5 = .ok (.ifCond .ne 5, 3) := by decide +kernel
theorem d_Mo_link_8 : decode prog_13_method_81_code 8 = .ok (.iconst (-1), 1) := by decide +kernel
theorem d_Mo_link_9 : decode prog_13_method_81_code 9 = .ok (.ireturn, 1) := by decide +kernel
theorem d_Mo_link_10 : decode prog_13_method_81_code 10 = .ok (.iload_n 2, 1) := by decide +kernel
theorem d_Mo_link_11 : decode prog_13_method_81_code 11 = .ok (.tableswitch 115 0 4 #[33, 48, 63, 73, 85], 33) := by decide +kernel
theorem d_Mo_link_44 : decode prog_13_method_81_code 44 = .ok (.aload_n 0, 1) := by decide +kernel
theorem d_Mo_link_45 : decode prog_13_method_81_code 45 = .ok (.getfield 49, 3) := by decide +kernel
theorem d_Mo_link_48 : decode prog_13_method_81_code 48 = .ok (.bipush 16, 2) := by decide +kernel
theorem d_Mo_link_50 : decode prog_13_method_81_code 50 = .ok (.aload_n 0, 1) := by decide +kernel
theorem d_Mo_link_51 : decode prog_13_method_81_code 51 = .ok (.getfield 170, 3) := by decide +kernel
theorem d_Mo_link_54 : decode prog_13_method_81_code 54 = .ok (.imul, 1) := by decide +kernel
theorem d_Mo_link_55 : decode prog_13_method_81_code 55 = .ok (.iload_n 1, 1) := by decide +kernel
theorem d_Mo_link_56 : decode prog_13_method_81_code 56 = .ok (.iadd, 1) := by decide +kernel
theorem d_Mo_link_57 : decode prog_13_method_81_code 57 = .ok (.iaload, 1) := by decide +kernel
theorem d_Mo_link_58 : decode prog_13_method_81_code 58 = .ok (.ireturn, 1) := by decide +kernel
theorem d_Mo_link_59 : decode prog_13_method_81_code 59 = .ok (.aload_n 0, 1) := by decide +kernel
theorem d_Mo_link_60 : decode prog_13_method_81_code 60 = .ok (.getfield 52, 3) := by decide +kernel
theorem d_Mo_link_63 : decode prog_13_method_81_code 63 = .ok (.bipush 16, 2) := by decide +kernel
theorem d_Mo_link_65 : decode prog_13_method_81_code 65 = .ok (.aload_n 0, 1) := by decide +kernel
theorem d_Mo_link_66 : decode prog_13_method_81_code 66 = .ok (.getfield 170, 3) := by decide +kernel
theorem d_Mo_link_69 : decode prog_13_method_81_code 69 = .ok (.imul, 1) := by decide +kernel
theorem d_Mo_link_70 : decode prog_13_method_81_code 70 = .ok (.iload_n 1, 1) := by decide +kernel
theorem d_Mo_link_71 : decode prog_13_method_81_code 71 = .ok (.iadd, 1) := by decide +kernel
theorem d_Mo_link_72 : decode prog_13_method_81_code 72 = .ok (.iaload, 1) := by decide +kernel
theorem d_Mo_link_73 : decode prog_13_method_81_code 73 = .ok (.ireturn, 1) := by decide +kernel
theorem d_Mo_link_74 : decode prog_13_method_81_code 74 = .ok (.aload_n 0, 1) := by decide +kernel
theorem d_Mo_link_75 : decode prog_13_method_81_code 75 = .ok (.getfield 68, 3) := by decide +kernel
theorem d_Mo_link_78 : decode prog_13_method_81_code 78 = .ok (.bipush 10, 2) := by decide +kernel
theorem d_Mo_link_80 : decode prog_13_method_81_code 80 = .ok (.iload_n 1, 1) := by decide +kernel
theorem d_Mo_link_81 : decode prog_13_method_81_code 81 = .ok (.iadd, 1) := by decide +kernel
theorem d_Mo_link_82 : decode prog_13_method_81_code 82 = .ok (.iaload, 1) := by decide +kernel
theorem d_Mo_link_83 : decode prog_13_method_81_code 83 = .ok (.ireturn, 1) := by decide +kernel
theorem d_Mo_link_84 : decode prog_13_method_81_code 84 = .ok (.aload_n 0, 1) := by decide +kernel
theorem d_Mo_link_85 : decode prog_13_method_81_code 85 = .ok (.getfield 68, 3) := by decide +kernel
theorem d_Mo_link_88 : decode prog_13_method_81_code 88 = .ok (.bipush 8, 2) := by decide +kernel
theorem d_Mo_link_90 : decode prog_13_method_81_code 90 = .ok (.iaload, 1) := by decide +kernel
theorem d_Mo_link_91 : decode prog_13_method_81_code 91 = .ok (.iload_n 1, 1) := by decide +kernel
theorem d_Mo_link_92 : decode prog_13_method_81_code 92 = .ok (.ishr, 1) := by decide +kernel
theorem d_Mo_link_93 : decode prog_13_method_81_code 93 = .ok (.iconst 1, 1) := by decide +kernel
theorem d_Mo_link_94 : decode prog_13_method_81_code 94 = .ok (.iand, 1) := by decide +kernel
theorem d_Mo_link_95 : decode prog_13_method_81_code 95 = .ok (.ireturn, 1) := by decide +kernel
theorem d_Mo_link_96 : decode prog_13_method_81_code 96 = .ok (.aload_n 0, 1) := by decide +kernel
theorem d_Mo_link_97 : decode prog_13_method_81_code 97 = .ok (.getfield 61, 3) := by decide +kernel
theorem d_Mo_link_100 : decode prog_13_method_81_code 100 = .ok (.aload_n 0, 1) := by decide +kernel
theorem d_Mo_link_101 : decode prog_13_method_81_code 101 = .ok (.getfield 170, 3) := by decide +kernel
theorem d_Mo_link_104 : decode prog_13_method_81_code 104 = .ok (.baload, 1) := by decide +kernel
theorem d_Mo_link_105 : decode prog_13_method_81_code 105 = .ok (.ifCond .eq 18, 3) := by decide +kernel
theorem d_Mo_link_108 : decode prog_13_method_81_code 108 = .ok (.bipush 10, 2) := by decide +kernel
theorem d_Mo_link_110 : decode prog_13_method_81_code 110 = .ok (.aload_n 0, 1) := by decide +kernel
theorem d_Mo_link_111 : decode prog_13_method_81_code 111 = .ok (.getfield 68, 3) := by decide +kernel
theorem d_Mo_link_114 : decode prog_13_method_81_code 114 = .ok (.bipush 10, 2) := by decide +kernel
theorem d_Mo_link_116 : decode prog_13_method_81_code 116 = .ok (.iload_n 1, 1) := by decide +kernel
theorem d_Mo_link_117 : decode prog_13_method_81_code 117 = .ok (.iadd, 1) := by decide +kernel
theorem d_Mo_link_118 : decode prog_13_method_81_code 118 = .ok (.iaload, 1) := by decide +kernel
theorem d_Mo_link_119 : decode prog_13_method_81_code 119 = .ok (.imul, 1) := by decide +kernel
theorem d_Mo_link_120 : decode prog_13_method_81_code 120 = .ok (.goto 5, 3) := by decide +kernel
theorem d_Mo_link_123 : decode prog_13_method_81_code 123 = .ok (.bipush 10, 2) := by decide +kernel
theorem d_Mo_link_125 : decode prog_13_method_81_code 125 = .ok (.ireturn, 1) := by decide +kernel
theorem d_Mo_link_126 : decode prog_13_method_81_code 126 = .ok (.iconst (-1), 1) := by decide +kernel
theorem d_Mo_link_127 : decode prog_13_method_81_code 127 = .ok (.ireturn, 1) := by decide +kernel
def wp_Mo_link_b125   (Q : Int32 → sx_M → sx_L → Prop) (w0 : Int32) (σ : sx_M) (τ : sx_L) : Prop := Q w0 σ τ
def wp_Mo_link (x1 : Int32) (x2 : Int32) (σ : sx_M) (τ : sx_L) (Q : Int32 → sx_M → sx_L → Prop) : Prop := wp_Mo_isLink x1 σ τ (fun r1 σ1 τ1 => if r1 = 0 then (Q (-1) σ1 τ1) else (if x2 = 0 then (vp_in ((16 * (σ1 50 0 0 17)) + x1) 32 ∧ (Q (σ1 61 0 0 ((16 * (σ1 50 0 0 17)) + x1).toNatClampNeg) σ1 τ1)) else (if x2 = 1 then (vp_in ((16 * (σ1 50 0 0 17)) + x1) 32 ∧ (Q (σ1 62 0 0 ((16 * (σ1 50 0 0 17)) + x1).toNatClampNeg) σ1 τ1)) else (if x2 = 2 then (vp_in (10 + x1) 643 ∧ (Q (σ1 67 0 0 (10 + x1).toNatClampNeg) σ1 τ1)) else (if x2 = 3 then (vp_in 8 643 ∧ (Q (((σ1 67 0 0 (8 : Int32).toNatClampNeg) >>> (x1 &&& 31)) &&& 1) σ1 τ1)) else (if x2 = 4 then (vp_in (σ1 50 0 0 17) 2 ∧ (if σ1 65 0 0 (σ1 50 0 0 17).toNatClampNeg = 0 then (wp_Mo_link_b125 Q 10 σ1 τ1) else (vp_in (10 + x1) 643 ∧ (wp_Mo_link_b125 Q (10 * (σ1 67 0 0 (10 + x1).toNatClampNeg)) σ1 τ1)))) else (Q (-1) σ1 τ1)))))))
abbrev rm_Mo_link : Room := { frames := 2, cells := 0, slots := 0, locals := 43 }
set_option maxRecDepth 100000 in
set_option maxHeartbeats 4000000 in
theorem g_Mo_link_b125 {l : Launch} {K : sx_K} {X : sx_T}   {Q : Int32 → sx_M → sx_L → Prop} (hX : sx_C X K prog_13_method_81_code 3 "SensorTreeModel" (some .int) rm_Mo_link l) (hK : kx_F K) (hE : sx_E X K (sx_Qi K Q))  (w0 : Int32) (σ : sx_M) (τ : sx_L)  (h : wp_Mo_link_b125 Q  w0 σ τ) : sx_G X K 3 125 [] [.int w0] (sx_H K σ τ) := by
  unfold wp_Mo_link_b125 at h
  exact sx_iret hX hE h d_Mo_link_125
set_option maxRecDepth 100000 in
set_option maxHeartbeats 4000000 in
theorem c_Mo_link {l : Launch} {K : sx_K} (hK : kx_F K) (x1 : Int32) (x2 : Int32) (σ : sx_M) (τ : sx_L) (Q : Int32 → sx_M → sx_L → Prop)  (h : wp_Mo_link x1 x2 σ τ Q) : Met l y_Mo_link (sx_wd y_Mo_link prog_13_method_81_code 3 (some .int)) rm_Mo_link (sx_Pc K [.ref (K.2.2.1 50 0 0), .int x1, .int x2] σ τ) (sx_Qi K Q) 0 0 (sx_A K) := by
  refine sx_met (by decide) (Nat.le_of_ble_eq_true rfl) (fun X hX hE => ?_)
  replace hX : sx_C X K prog_13_method_81_code 3 "SensorTreeModel" (some .int) rm_Mo_link l := hX
  show sx_G X K 3 0 [(0, .ref (K.2.2.1 50 0 0)), (1, .int x1), (2, .int x2)] [] (sx_H K σ τ)
  unfold wp_Mo_link at h
  refine sx_aload_n (pc2 := 1) hX 0 d_Mo_link_0 rfl rfl rfl ?_
  refine sx_iload_n (pc2 := 2) hX 1 d_Mo_link_1 rfl rfl rfl ?_
  refine cl_Mo_326 (pc2 := 5) hX hK h  ⟨Nat.le_of_ble_eq_true rfl, Nat.le_of_ble_eq_true rfl⟩ (Nat.le_of_ble_eq_true rfl) d_Mo_link_2 rfl (fun r1 σ1 τ1 h => ?_)
  refine sx_if_ne (tgt := 10) (pc2 := 8) hX d_Mo_link_5 (by decide) rfl (fun hc2 => ?_) (fun hc2 => ?_)
  · replace h := sx_f h hc2
    refine sx_iload_n (pc2 := 11) hX 2 d_Mo_link_10 rfl rfl rfl ?_
    by_cases hc3 : x2 = 0
    · replace h := sx_t h hc3
      refine sx_swi (tgt := 44) hX 0 hc3 d_Mo_link_11 (by decide) (by decide) rfl (by decide) ?_
      refine sx_aload_n (pc2 := 45) hX 0 d_Mo_link_44 rfl rfl rfl ?_
      refine fg_Mo_49 (pc2 := 48) hX (kr_50 hK) d_Mo_link_45 rfl ?_
      refine sx_bipush (v := 16) (pc2 := 50) hX d_Mo_link_48 (by decide) rfl ?_
      refine sx_aload_n (pc2 := 51) hX 0 d_Mo_link_50 rfl rfl rfl ?_
      refine fg_Mo_170 (pc2 := 54) hX (kr_50 hK) d_Mo_link_51 rfl ?_
      refine sx_imul (pc2 := 55) hX d_Mo_link_54 rfl ?_
      refine sx_iload_n (pc2 := 56) hX 1 d_Mo_link_55 rfl rfl rfl ?_
      refine sx_iadd (pc2 := 57) hX d_Mo_link_56 rfl ?_
      obtain ⟨hc4, h⟩ := h
      refine sx_iald (pc2 := 58) hX (kr_61 hK) rfl hc4 d_Mo_link_57 rfl ?_
      exact sx_iret hX hE h d_Mo_link_58
    · replace h := sx_f h hc3
      by_cases hc5 : x2 = 1
      · replace h := sx_t h hc5
        refine sx_swi (tgt := 59) hX 1 hc5 d_Mo_link_11 (by decide) (by decide) rfl (by decide) ?_
        refine sx_aload_n (pc2 := 60) hX 0 d_Mo_link_59 rfl rfl rfl ?_
        refine fg_Mo_52 (pc2 := 63) hX (kr_50 hK) d_Mo_link_60 rfl ?_
        refine sx_bipush (v := 16) (pc2 := 65) hX d_Mo_link_63 (by decide) rfl ?_
        refine sx_aload_n (pc2 := 66) hX 0 d_Mo_link_65 rfl rfl rfl ?_
        refine fg_Mo_170 (pc2 := 69) hX (kr_50 hK) d_Mo_link_66 rfl ?_
        refine sx_imul (pc2 := 70) hX d_Mo_link_69 rfl ?_
        refine sx_iload_n (pc2 := 71) hX 1 d_Mo_link_70 rfl rfl rfl ?_
        refine sx_iadd (pc2 := 72) hX d_Mo_link_71 rfl ?_
        obtain ⟨hc6, h⟩ := h
        refine sx_iald (pc2 := 73) hX (kr_62 hK) rfl hc6 d_Mo_link_72 rfl ?_
        exact sx_iret hX hE h d_Mo_link_73
      · replace h := sx_f h hc5
        by_cases hc7 : x2 = 2
        · replace h := sx_t h hc7
          refine sx_swi (tgt := 74) hX 2 hc7 d_Mo_link_11 (by decide) (by decide) rfl (by decide) ?_
          refine sx_aload_n (pc2 := 75) hX 0 d_Mo_link_74 rfl rfl rfl ?_
          refine fg_Mo_68 (pc2 := 78) hX (kr_50 hK) d_Mo_link_75 rfl ?_
          refine sx_bipush (v := 10) (pc2 := 80) hX d_Mo_link_78 (by decide) rfl ?_
          refine sx_iload_n (pc2 := 81) hX 1 d_Mo_link_80 rfl rfl rfl ?_
          refine sx_iadd (pc2 := 82) hX d_Mo_link_81 rfl ?_
          obtain ⟨hc8, h⟩ := h
          refine sx_iald (pc2 := 83) hX (kr_67 hK) rfl hc8 d_Mo_link_82 rfl ?_
          exact sx_iret hX hE h d_Mo_link_83
        · replace h := sx_f h hc7
          by_cases hc9 : x2 = 3
          · replace h := sx_t h hc9
            refine sx_swi (tgt := 84) hX 3 hc9 d_Mo_link_11 (by decide) (by decide) rfl (by decide) ?_
            refine sx_aload_n (pc2 := 85) hX 0 d_Mo_link_84 rfl rfl rfl ?_
            refine fg_Mo_68 (pc2 := 88) hX (kr_50 hK) d_Mo_link_85 rfl ?_
            refine sx_bipush (v := 8) (pc2 := 90) hX d_Mo_link_88 (by decide) rfl ?_
            obtain ⟨hc10, h⟩ := h
            refine sx_iald (pc2 := 91) hX (kr_67 hK) rfl hc10 d_Mo_link_90 rfl ?_
            refine sx_iload_n (pc2 := 92) hX 1 d_Mo_link_91 rfl rfl rfl ?_
            refine sx_ishr (pc2 := 93) hX d_Mo_link_92 rfl ?_
            refine sx_iconst (v := 1) (pc2 := 94) hX d_Mo_link_93 (by decide) rfl ?_
            refine sx_iand (pc2 := 95) hX d_Mo_link_94 rfl ?_
            exact sx_iret hX hE h d_Mo_link_95
          · replace h := sx_f h hc9
            by_cases hc11 : x2 = 4
            · replace h := sx_t h hc11
              refine sx_swi (tgt := 96) hX 4 hc11 d_Mo_link_11 (by decide) (by decide) rfl (by decide) ?_
              refine sx_aload_n (pc2 := 97) hX 0 d_Mo_link_96 rfl rfl rfl ?_
              refine fg_Mo_61 (pc2 := 100) hX (kr_50 hK) d_Mo_link_97 rfl ?_
              refine sx_aload_n (pc2 := 101) hX 0 d_Mo_link_100 rfl rfl rfl ?_
              refine fg_Mo_170 (pc2 := 104) hX (kr_50 hK) d_Mo_link_101 rfl ?_
              obtain ⟨hc12, h⟩ := h
              refine sx_zald (pc2 := 105) hX (kr_65 hK) rfl hc12 d_Mo_link_104 rfl ?_
              refine sx_if_eq (tgt := 123) (pc2 := 108) hX d_Mo_link_105 (by decide) rfl (fun hc13 => ?_) (fun hc13 => ?_)
              · replace h := sx_t h hc13
                refine sx_bipush (v := 10) (pc2 := 125) hX d_Mo_link_123 (by decide) rfl ?_
                refine sx_sub [] [] rfl ?_
                exact g_Mo_link_b125 hX hK hE   10 _ _ h
              · replace h := sx_f h hc13
                refine sx_bipush (v := 10) (pc2 := 110) hX d_Mo_link_108 (by decide) rfl ?_
                refine sx_aload_n (pc2 := 111) hX 0 d_Mo_link_110 rfl rfl rfl ?_
                refine fg_Mo_68 (pc2 := 114) hX (kr_50 hK) d_Mo_link_111 rfl ?_
                refine sx_bipush (v := 10) (pc2 := 116) hX d_Mo_link_114 (by decide) rfl ?_
                refine sx_iload_n (pc2 := 117) hX 1 d_Mo_link_116 rfl rfl rfl ?_
                refine sx_iadd (pc2 := 118) hX d_Mo_link_117 rfl ?_
                obtain ⟨hc14, h⟩ := h
                refine sx_iald (pc2 := 119) hX (kr_67 hK) rfl hc14 d_Mo_link_118 rfl ?_
                refine sx_imul (pc2 := 120) hX d_Mo_link_119 rfl ?_
                refine sx_goto (tgt := 125) hX d_Mo_link_120 (by decide) ?_
                refine sx_sub [] [] rfl ?_
                exact g_Mo_link_b125 hX hK hE   (10 * (σ1 67 0 0 (10 + x1).toNatClampNeg)) _ _ h
            · replace h := sx_f h hc11
              refine sx_swo (tgt := 126) hX d_Mo_link_11 (sx_out x2 4 (fun j hj => match j, hj with | 0, _ => hc3 | 1, _ => hc5 | 2, _ => hc7 | 3, _ => hc9 | 4, _ => hc11 | j + 5, hj => absurd hj (by omega)) (by decide)) (by decide) ?_
              refine sx_iconst (v := (-1)) (pc2 := 127) hX d_Mo_link_126 (by decide) rfl ?_
              exact sx_iret hX hE h d_Mo_link_127
  · replace h := sx_t h hc2
    refine sx_iconst (v := (-1)) (pc2 := 9) hX d_Mo_link_8 (by decide) rfl ?_
    exact sx_iret hX hE h d_Mo_link_9
def y_Mo_neighbours : MethodName := ⟨"SensorTreeModel", "neighbours", "(I)I"⟩
theorem hy_Mo_neighbours : y_Mo_neighbours.cls ≠ "java/lang/invoke/MethodHandle" ∧ y_Mo_neighbours.cls ≠ "java/lang/invoke/VarHandle" ∧ (parseMethodDescriptor y_Mo_neighbours.desc).map (fun d => d.parameters.length) = some 1 := by decide +kernel
theorem d_Mo_neighbours_0 : decode prog_13_method_82_code 0 = .ok (.aload_n 0, 1) := by decide +kernel
theorem d_Mo_neighbours_1 : decode prog_13_method_82_code 1 = .ok (.iload_n 1, 1) := by decide +kernel
theorem d_Mo_neighbours_2 : decode prog_13_method_82_code 2 = .ok (.invokevirtual 311, 3) := by decide +kernel
theorem d_Mo_neighbours_5 : decode prog_13_method_82_code 5 = .ok (.ifCond .ne 5, 3) := by decide +kernel
theorem d_Mo_neighbours_8 : decode prog_13_method_82_code 8 = .ok (.iconst (-1), 1) := by decide +kernel
theorem d_Mo_neighbours_9 : decode prog_13_method_82_code 9 = .ok (.ireturn, 1) := by decide +kernel
theorem d_Mo_neighbours_10 : decode prog_13_method_82_code 10 = .ok (.aload_n 0, 1) := by decide +kernel
theorem d_Mo_neighbours_11 : decode prog_13_method_82_code 11 = .ok (.invokevirtual 317, 3) := by decide +kernel
theorem d_Mo_neighbours_14 : decode prog_13_method_82_code 14 = .ok (.iconst 0, 1) := by decide +kernel
theorem d_Mo_neighbours_15 : decode prog_13_method_82_code 15 = .ok (.istore_n 2, 1) := by decide +kernel
theorem d_Mo_neighbours_16 : decode prog_13_method_82_code 16 = .ok (.iconst 0, 1) := by decide +kernel
theorem d_Mo_neighbours_17 : decode prog_13_method_82_code 17 = .ok (.istore_n 3, 1) := by decide +kernel
theorem d_Mo_neighbours_18 : decode prog_13_method_82_code 18 = .ok (.iload_n 3, 1) := by decide +kernel
theorem d_Mo_neighbours_19 : decode prog_13_method_82_code 19 = .ok (.aload_n 0, 1) := by decide +kernel
theorem d_Mo_neighbours_20 : decode prog_13_method_82_code 20 = .ok (.getfield 40, 3) := by decide +kernel
theorem d_Mo_neighbours_23 : decode prog_13_method_82_code 23 = .ok (.aload_n 0, 1) := by decide +kernel
theorem d_Mo_neighbours_24 : decode prog_13_method_82_code 24 = .ok (.getfield 170, 3) := by decide +kernel
theorem d_Mo_neighbours_27 : decode prog_13_method_82_code 27 = .ok (.iaload, 1) := by decide +kernel
theorem d_Mo_neighbours_28 : decode prog_13_method_82_code 28 = .ok (.if_icmp .ge 24, 3) := by decide +kernel
theorem d_Mo_neighbours_31 : decode prog_13_method_82_code 31 = .ok (.aload_n 0, 1) := by decide +kernel
theorem d_Mo_neighbours_32 : decode prog_13_method_82_code 32 = .ok (.iload_n 1, 1) := by decide +kernel
theorem d_Mo_neighbours_33 : decode prog_13_method_82_code 33 = .ok (.iload_n 3, 1) := by decide +kernel
theorem d_Mo_neighbours_34 : decode prog_13_method_82_code 34 = .ok (.invokevirtual 258, 3) := by decide +kernel
theorem d_Mo_neighbours_37 : decode prog_13_method_82_code 37 = .ok (.ifCond .eq 9, 3) := by decide +kernel
theorem d_Mo_neighbours_40 : decode prog_13_method_82_code 40 = .ok (.iload_n 2, 1) := by decide +kernel
theorem d_Mo_neighbours_41 : decode prog_13_method_82_code 41 = .ok (.iconst 1, 1) := by decide +kernel
theorem d_Mo_neighbours_42 : decode prog_13_method_82_code 42 = .ok (.iload_n 3, 1) := by decide +kernel
theorem d_Mo_neighbours_43 : decode prog_13_method_82_code 43 = .ok (.ishl, 1) := by decide +kernel
theorem d_Mo_neighbours_44 : decode prog_13_method_82_code 44 = .ok (.ior, 1) := by decide +kernel
theorem d_Mo_neighbours_45 : decode prog_13_method_82_code 45 = .ok (.istore_n 2, 1) := by decide +kernel
theorem d_Mo_neighbours_46 : decode prog_13_method_82_code 46 = .ok (.iinc 3 1, 3) := by decide +kernel
theorem d_Mo_neighbours_49 : decode prog_13_method_82_code 49 = .ok (.goto (-31), 3) := by decide +kernel
theorem d_Mo_neighbours_52 : decode prog_13_method_82_code 52 = .ok (.iload_n 2, 1) := by decide +kernel
theorem d_Mo_neighbours_53 : decode prog_13_method_82_code 53 = .ok (.ireturn, 1) := by decide +kernel
def wp_Mo_neighbours_b46  (k18 : Int32 → Int32 → Int32 → sx_M → sx_L → Prop) (Q : Int32 → sx_M → sx_L → Prop) (v1 : Int32) (v2 : Int32) (v3 : Int32) (σ : sx_M) (τ : sx_L) : Prop := k18 v1 v2 (v3 + 1) σ τ
def wp_Mo_neighbours_b18   (Q : Int32 → sx_M → sx_L → Prop) : Nat → Int32 → Int32 → Int32 → sx_M → sx_L → Prop
  | 0, _, _, _, _, _ => False
  | f + 1, v1, v2, v3, σ, τ => vp_in (σ 50 0 0 17) 2 ∧ (if σ 58 0 0 (σ 50 0 0 17).toNatClampNeg ≤ v3 then (Q v2 σ τ) else (wp_Mo_areNear v1 v3 σ τ (fun r3 σ3 τ3 => if r3 = 0 then (wp_Mo_neighbours_b46 (wp_Mo_neighbours_b18 Q f) Q v1 v2 v3 σ3 τ3) else (wp_Mo_neighbours_b46 (wp_Mo_neighbours_b18 Q f) Q v1 (v2 ||| (1 <<< (v3 &&& 31))) v3 σ3 τ3))))
def wp_Mo_neighbours (x1 : Int32) (σ : sx_M) (τ : sx_L) (Q : Int32 → sx_M → sx_L → Prop) : Prop := wp_Mo_isPost x1 σ τ (fun r5 σ5 τ5 => if r5 = 0 then (Q (-1) σ5 τ5) else (wp_Mo_copies σ5 τ5 (fun σ7 τ7 => ∃ f18, wp_Mo_neighbours_b18 Q f18 x1 0 0 σ7 τ7)))
abbrev rm_Mo_neighbours : Room := { frames := 2, cells := 0, slots := 0, locals := 45 }
set_option maxRecDepth 100000 in
set_option maxHeartbeats 4000000 in
theorem g_Mo_neighbours_b46 {l : Launch} {K : sx_K} {X : sx_T}  {k18 : Int32 → Int32 → Int32 → sx_M → sx_L → Prop} {Q : Int32 → sx_M → sx_L → Prop} (hX : sx_C X K prog_13_method_82_code 4 "SensorTreeModel" (some .int) rm_Mo_neighbours l) (hK : kx_F K) (hE : sx_E X K (sx_Qi K Q))  (hk18 : ∀ (v1 : Int32) (v2 : Int32) (v3 : Int32) (σ : sx_M) (τ : sx_L) , k18 v1 v2 v3 σ τ → sx_G X K 4 18 [(0, .ref (K.2.2.1 50 0 0)), (1, .int v1), (2, .int v2), (3, .int v3)] [] (sx_H K σ τ)) (v1 : Int32) (v2 : Int32) (v3 : Int32) (σ : sx_M) (τ : sx_L)  (h : wp_Mo_neighbours_b46 k18 Q  v1 v2 v3 σ τ) : sx_G X K 4 46 [(0, .ref (K.2.2.1 50 0 0)), (1, .int v1), (2, .int v2), (3, .int v3)] [] (sx_H K σ τ) := by
  unfold wp_Mo_neighbours_b46 at h
  refine sx_iinc (pc2 := 49) hX 3 _ [(0, .ref (K.2.2.1 50 0 0)), (1, .int v1), (2, .int v2), (3, .int (v3 + 1))] [1, 2, 3, 0] d_Mo_neighbours_46 rfl (v3 + 1) rfl (by decide) rfl rfl rfl ?_
  refine sx_goto (tgt := 18) hX d_Mo_neighbours_49 (by decide) ?_
  exact hk18 v1 v2 (v3 + 1) _ _ h
set_option maxRecDepth 100000 in
set_option maxHeartbeats 4000000 in
theorem g_Mo_neighbours_b18 {l : Launch} {K : sx_K} {X : sx_T}   {Q : Int32 → sx_M → sx_L → Prop} (hX : sx_C X K prog_13_method_82_code 4 "SensorTreeModel" (some .int) rm_Mo_neighbours l) (hK : kx_F K) (hE : sx_E X K (sx_Qi K Q))  : ∀ (f : Nat) (v1 : Int32) (v2 : Int32) (v3 : Int32) (σ : sx_M) (τ : sx_L) , wp_Mo_neighbours_b18 Q f v1 v2 v3 σ τ → sx_G X K 4 18 [(0, .ref (K.2.2.1 50 0 0)), (1, .int v1), (2, .int v2), (3, .int v3)] [] (sx_H K σ τ) := by
  intro f
  induction f with
  | zero => intro v1 v2 v3 σ τ h; exact (show False from h).elim
  | succ f ih =>
    intro v1 v2 v3 σ τ h
    rw [wp_Mo_neighbours_b18] at h
    refine sx_iload_n (pc2 := 19) hX 3 d_Mo_neighbours_18 rfl rfl rfl ?_
    refine sx_aload_n (pc2 := 20) hX 0 d_Mo_neighbours_19 rfl rfl rfl ?_
    refine fg_Mo_40 (pc2 := 23) hX (kr_50 hK) d_Mo_neighbours_20 rfl ?_
    refine sx_aload_n (pc2 := 24) hX 0 d_Mo_neighbours_23 rfl rfl rfl ?_
    refine fg_Mo_170 (pc2 := 27) hX (kr_50 hK) d_Mo_neighbours_24 rfl ?_
    obtain ⟨hc1, h⟩ := h
    refine sx_iald (pc2 := 28) hX (kr_58 hK) rfl hc1 d_Mo_neighbours_27 rfl ?_
    refine sx_icmp_ge (tgt := 52) (pc2 := 31) hX d_Mo_neighbours_28 (by decide) rfl (fun hc2 => ?_) (fun hc2 => ?_)
    · replace h := sx_t h hc2
      refine sx_iload_n (pc2 := 53) hX 2 d_Mo_neighbours_52 rfl rfl rfl ?_
      exact sx_iret hX hE h d_Mo_neighbours_53
    · replace h := sx_f h hc2
      refine sx_aload_n (pc2 := 32) hX 0 d_Mo_neighbours_31 rfl rfl rfl ?_
      refine sx_iload_n (pc2 := 33) hX 1 d_Mo_neighbours_32 rfl rfl rfl ?_
      refine sx_iload_n (pc2 := 34) hX 3 d_Mo_neighbours_33 rfl rfl rfl ?_
      refine cl_Mo_258 (pc2 := 37) hX hK h  ⟨Nat.le_of_ble_eq_true rfl, Nat.le_of_ble_eq_true rfl⟩ (Nat.le_of_ble_eq_true rfl) d_Mo_neighbours_34 rfl (fun r3 σ3 τ3 h => ?_)
      refine sx_if_eq (tgt := 46) (pc2 := 40) hX d_Mo_neighbours_37 (by decide) rfl (fun hc4 => ?_) (fun hc4 => ?_)
      · replace h := sx_t h hc4
        exact g_Mo_neighbours_b46 hX hK hE  ih v1 v2 v3 _ _ h
      · replace h := sx_f h hc4
        refine sx_iload_n (pc2 := 41) hX 2 d_Mo_neighbours_40 rfl rfl rfl ?_
        refine sx_iconst (v := 1) (pc2 := 42) hX d_Mo_neighbours_41 (by decide) rfl ?_
        refine sx_iload_n (pc2 := 43) hX 3 d_Mo_neighbours_42 rfl rfl rfl ?_
        refine sx_ishl (pc2 := 44) hX d_Mo_neighbours_43 rfl ?_
        refine sx_ior (pc2 := 45) hX d_Mo_neighbours_44 rfl ?_
        refine sx_istore_n (pc2 := 46) hX _ [(0, .ref (K.2.2.1 50 0 0)), (1, .int v1), (2, .int (v2 ||| (1 <<< (v3 &&& 31)))), (3, .int v3)] [1, 2, 0, 3] d_Mo_neighbours_45 rfl (by decide) rfl rfl rfl ?_
        exact g_Mo_neighbours_b46 hX hK hE  ih v1 (v2 ||| (1 <<< (v3 &&& 31))) v3 _ _ h
set_option maxRecDepth 100000 in
set_option maxHeartbeats 4000000 in
theorem c_Mo_neighbours {l : Launch} {K : sx_K} (hK : kx_F K) (x1 : Int32) (σ : sx_M) (τ : sx_L) (Q : Int32 → sx_M → sx_L → Prop)  (h : wp_Mo_neighbours x1 σ τ Q) : Met l y_Mo_neighbours (sx_wd y_Mo_neighbours prog_13_method_82_code 4 (some .int)) rm_Mo_neighbours (sx_Pc K [.ref (K.2.2.1 50 0 0), .int x1] σ τ) (sx_Qi K Q) 0 0 (sx_A K) := by
  refine sx_met (by decide) (Nat.le_of_ble_eq_true rfl) (fun X hX hE => ?_)
  replace hX : sx_C X K prog_13_method_82_code 4 "SensorTreeModel" (some .int) rm_Mo_neighbours l := hX
  show sx_G X K 4 0 [(0, .ref (K.2.2.1 50 0 0)), (1, .int x1)] [] (sx_H K σ τ)
  unfold wp_Mo_neighbours at h
  refine sx_aload_n (pc2 := 1) hX 0 d_Mo_neighbours_0 rfl rfl rfl ?_
  refine sx_iload_n (pc2 := 2) hX 1 d_Mo_neighbours_1 rfl rfl rfl ?_
  refine cl_Mo_311 (pc2 := 5) hX hK h  ⟨Nat.le_of_ble_eq_true rfl, Nat.le_of_ble_eq_true rfl⟩ (Nat.le_of_ble_eq_true rfl) d_Mo_neighbours_2 rfl (fun r5 σ5 τ5 h => ?_)
  refine sx_if_ne (tgt := 10) (pc2 := 8) hX d_Mo_neighbours_5 (by decide) rfl (fun hc6 => ?_) (fun hc6 => ?_)
  · replace h := sx_f h hc6
    refine sx_aload_n (pc2 := 11) hX 0 d_Mo_neighbours_10 rfl rfl rfl ?_
    refine cl_Mo_317 (pc2 := 14) hX hK h  ⟨Nat.le_of_ble_eq_true rfl, Nat.le_of_ble_eq_true rfl⟩ (Nat.le_of_ble_eq_true rfl) d_Mo_neighbours_11 rfl (fun σ7 τ7 h => ?_)
    refine sx_iconst (v := 0) (pc2 := 15) hX d_Mo_neighbours_14 (by decide) rfl ?_
    refine sx_istore_n (pc2 := 16) hX _ [(0, .ref (K.2.2.1 50 0 0)), (1, .int x1), (2, .int 0)] [1, 2, 0] d_Mo_neighbours_15 rfl (by decide) rfl rfl rfl ?_
    refine sx_iconst (v := 0) (pc2 := 17) hX d_Mo_neighbours_16 (by decide) rfl ?_
    refine sx_istore_n (pc2 := 18) hX _ [(0, .ref (K.2.2.1 50 0 0)), (1, .int x1), (2, .int 0), (3, .int 0)] [1, 2, 3, 0] d_Mo_neighbours_17 rfl (by decide) rfl rfl rfl ?_
    obtain ⟨f18, h⟩ := h
    exact g_Mo_neighbours_b18 hX hK hE   f18 x1 0 0 _ _ h
  · replace h := sx_t h hc6
    refine sx_iconst (v := (-1)) (pc2 := 9) hX d_Mo_neighbours_8 (by decide) rfl ?_
    exact sx_iret hX hE h d_Mo_neighbours_9
