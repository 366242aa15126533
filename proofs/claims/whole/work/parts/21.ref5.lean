def y_Mo_year : MethodName := ⟨"SensorTreeModel", "year", "(II)I"⟩
theorem hy_Mo_year : y_Mo_year.cls ≠ "java/lang/invoke/MethodHandle" ∧ y_Mo_year.cls ≠ "java/lang/invoke/VarHandle" ∧ (parseMethodDescriptor y_Mo_year.desc).map (fun d => d.parameters.length) = some 2 := by decide +kernel
theorem d_Mo_year_0 : decode prog_13_method_105_code 0 = .ok (.iload_n 1, 1) := by decide +kernel
theorem d_Mo_year_1 : decode prog_13_method_105_code 1 = .ok (.iconst 0, 1) := by decide +kernel
theorem d_Mo_year_2 : decode prog_13_method_105_code 2 = .ok (.sipush 200, 3) := by decide +kernel
theorem d_Mo_year_5 : decode prog_13_method_105_code 5 = .ok (.invokestatic 216, 3) := by decide +kernel
theorem d_Mo_year_8 : decode prog_13_method_105_code 8 = .ok (.ifCond .eq 13, 3) := by decide +kernel
theorem d_Mo_year_11 : decode prog_13_method_105_code 11 = .ok (.iload_n 2, 1) := by decide +kernel
theorem d_Mo_year_12 : decode prog_13_method_105_code 12 = .ok (.iconst 1, 1) := by decide +kernel
theorem d_Mo_year_13 : decode prog_13_method_105_code 13 = .ok (.bipush 10, 2) := by decide +kernel
theorem d_Mo_year_15 : decode prog_13_method_105_code 15 = .ok (.invokestatic 216, 3) := by decide +kernel
theorem d_Mo_year_18 : decode prog_13_method_105_code 18 = .ok (.ifCond .ne 5, 3) := by decide +kernel
theorem d_Mo_year_21 : decode prog_13_method_105_code 21 = .ok (.iconst (-1), 1) := by decide +kernel
theorem d_Mo_year_22 : decode prog_13_method_105_code 22 = .ok (.ireturn, 1) := by decide +kernel
theorem d_Mo_year_23 : decode prog_13_method_105_code 23 = .ok (.iconst 0, 1) := by decide +kernel
theorem d_Mo_year_24 : decode prog_13_method_105_code 24 = .ok (.istore_n 3, 1) := by decide +kernel
theorem d_Mo_year_25 : decode prog_13_method_105_code 25 = .ok (.iconst 0, 1) := by decide +kernel
theorem d_Mo_year_26 : decode prog_13_method_105_code 26 = .ok (.istore 4, 2) := by decide +kernel
theorem d_Mo_year_28 : decode prog_13_method_105_code 28 = .ok (.iload 4, 2) := by decide +kernel
theorem d_Mo_year_30 : decode prog_13_method_105_code 30 = .ok (.iload_n 2, 1) := by decide +kernel
theorem d_Mo_year_31 : decode prog_13_method_105_code 31 = .ok (.if_icmp .ge 34, 3) := by decide +kernel
theorem d_Mo_year_34 : decode prog_13_method_105_code 34 = .ok (.aload_n 0, 1) := by decide +kernel
theorem d_Mo_year_35 : decode prog_13_method_105_code 35 = .ok (.invokevirtual 317, 3) := by decide +kernel
theorem d_Mo_year_38 : decode prog_13_method_105_code 38 = .ok (.aload_n 0, 1) := by decide +kernel
theorem d_Mo_year_39 : decode prog_13_method_105_code 39 = .ok (.iload 4, 2) := by decide +kernel
theorem d_Mo_year_41 : decode prog_13_method_105_code 41 = .ok (.putfield 223, 3) := by decide +kernel
theorem d_Mo_year_44 : decode prog_13_method_105_code 44 = .ok (.aload_n 0, 1) := by decide +kernel
theorem d_Mo_year_45 : decode prog_13_method_105_code 45 = .ok (.iload_n 1, 1) := by decide +kernel
theorem d_Mo_year_46 : decode prog_13_method_105_code 46 = .ok (.invokevirtual 323, 3) := by decide +kernel
theorem d_Mo_year_49 : decode prog_13_method_105_code 49 = .ok (.aload_n 0, 1) := by decide +kernel
theorem d_Mo_year_50 : decode prog_13_method_105_code 50 = .ok (.invokevirtual 350, 3) := by decide +kernel
theorem d_Mo_year_53 : decode prog_13_method_105_code 53 = .ok (.ifCond .eq 6, 3) := by decide +kernel
theorem d_Mo_year_56 : decode prog_13_method_105_code 56 = .ok (.iinc 3 1, 3) := by decide +kernel
theorem d_Mo_year_59 : decode prog_13_method_105_code 59 = .ok (.iinc 4 1, 3) := by decide +kernel
theorem d_Mo_year_62 : decode prog_13_method_105_code 62 = .ok (.goto (-34), 3) := by decide +kernel
theorem d_Mo_year_65 : decode prog_13_method_105_code 65 = .ok (.aload_n 0, 1) := by decide +kernel
theorem d_Mo_year_66 : decode prog_13_method_105_code 66 = .ok (.iconst 0, 1) := by decide +kernel
theorem d_Mo_year_67 : decode prog_13_method_105_code 67 = .ok (.putfield 223, 3) := by decide +kernel
theorem d_Mo_year_70 : decode prog_13_method_105_code 70 = .ok (.iload_n 3, 1) := by decide +kernel
theorem d_Mo_year_71 : decode prog_13_method_105_code 71 = .ok (.ireturn, 1) := by decide +kernel
def wp_Mo_year_b59  (k28 : Int32 → Int32 → Int32 → Int32 → sx_M → sx_L → Prop) (Q : Int32 → sx_M → sx_L → Prop) (v1 : Int32) (v2 : Int32) (v3 : Int32) (v4 : Int32) (σ : sx_M) (τ : sx_L) : Prop := k28 v1 v2 v3 (v4 + 1) σ τ
def wp_Mo_year_b28   (Q : Int32 → sx_M → sx_L → Prop) : Nat → Int32 → Int32 → Int32 → Int32 → sx_M → sx_L → Prop
  | 0, _, _, _, _, _, _ => False
  | f + 1, v1, v2, v3, v4, σ, τ => if v2 ≤ v4 then (∀ σ2 : sx_M, σ2 = sx_u σ 50 0 0 31 0 → (Q v3 σ2 τ)) else (wp_Mo_copies σ τ (fun σ3 τ3 => ∀ σ4 : sx_M, σ4 = sx_u σ3 50 0 0 31 v4 → (wp_Mo_goes v1 σ4 τ3 (fun σ5 τ5 => wp_Mo_isRight σ5 τ5 (fun r6 σ6 τ6 => if r6 = 0 then (wp_Mo_year_b59 (wp_Mo_year_b28 Q f) Q v1 v2 v3 v4 σ6 τ6) else (wp_Mo_year_b59 (wp_Mo_year_b28 Q f) Q v1 v2 (v3 + 1) v4 σ6 τ6))))))
def wp_Mo_year_b21   (Q : Int32 → sx_M → sx_L → Prop)  (σ : sx_M) (τ : sx_L) : Prop := Q (-1) σ τ
def wp_Mo_year (x1 : Int32) (x2 : Int32) (σ : sx_M) (τ : sx_L) (Q : Int32 → sx_M → sx_L → Prop) : Prop := wp_Mo_in x1 (0 : Int32) (200 : Int32) σ τ (fun r8 σ8 τ8 => if r8 = 0 then (wp_Mo_year_b21 Q σ8 τ8) else (wp_Mo_in x2 (1 : Int32) (10 : Int32) σ8 τ8 (fun r10 σ10 τ10 => if r10 = 0 then (wp_Mo_year_b21 Q σ10 τ10) else (∃ f28, wp_Mo_year_b28 Q f28 x1 x2 0 0 σ10 τ10))))
abbrev rm_Mo_year : Room := { frames := 9, cells := 0, slots := 0, locals := 209 }
set_option maxRecDepth 100000 in
set_option maxHeartbeats 4000000 in
theorem g_Mo_year_b59 {l : Launch} {K : sx_K} {X : sx_T}  {k28 : Int32 → Int32 → Int32 → Int32 → sx_M → sx_L → Prop} {Q : Int32 → sx_M → sx_L → Prop} (hX : sx_C X K prog_13_method_105_code 5 "SensorTreeModel" (some .int) rm_Mo_year l) (hK : kx_F K) (hE : sx_E X K (sx_Qi K Q))  (hk28 : ∀ (v1 : Int32) (v2 : Int32) (v3 : Int32) (v4 : Int32) (σ : sx_M) (τ : sx_L) , k28 v1 v2 v3 v4 σ τ → sx_G X K 5 28 [(0, .ref (K.2.2.1 50 0 0)), (1, .int v1), (2, .int v2), (3, .int v3), (4, .int v4)] [] (sx_H K σ τ)) (v1 : Int32) (v2 : Int32) (v3 : Int32) (v4 : Int32) (σ : sx_M) (τ : sx_L)  (h : wp_Mo_year_b59 k28 Q  v1 v2 v3 v4 σ τ) : sx_G X K 5 59 [(0, .ref (K.2.2.1 50 0 0)), (1, .int v1), (2, .int v2), (3, .int v3), (4, .int v4)] [] (sx_H K σ τ) := by
  unfold wp_Mo_year_b59 at h
  refine sx_iinc (pc2 := 62) hX 4 _ [(0, .ref (K.2.2.1 50 0 0)), (1, .int v1), (2, .int v2), (3, .int v3), (4, .int (v4 + 1))] [1, 2, 3, 4, 0] d_Mo_year_59 rfl (v4 + 1) rfl (by decide) rfl rfl rfl ?_
  refine sx_goto (tgt := 28) hX d_Mo_year_62 (by decide) ?_
  exact hk28 v1 v2 v3 (v4 + 1) _ _ h
set_option maxRecDepth 100000 in
set_option maxHeartbeats 4000000 in
theorem g_Mo_year_b28 {l : Launch} {K : sx_K} {X : sx_T}   {Q : Int32 → sx_M → sx_L → Prop} (hX : sx_C X K prog_13_method_105_code 5 "SensorTreeModel" (some .int) rm_Mo_year l) (hK : kx_F K) (hE : sx_E X K (sx_Qi K Q))  : ∀ (f : Nat) (v1 : Int32) (v2 : Int32) (v3 : Int32) (v4 : Int32) (σ : sx_M) (τ : sx_L) , wp_Mo_year_b28 Q f v1 v2 v3 v4 σ τ → sx_G X K 5 28 [(0, .ref (K.2.2.1 50 0 0)), (1, .int v1), (2, .int v2), (3, .int v3), (4, .int v4)] [] (sx_H K σ τ) := by
  intro f
  induction f with
  | zero => intro v1 v2 v3 v4 σ τ h; exact (show False from h).elim
  | succ f ih =>
    intro v1 v2 v3 v4 σ τ h
    rw [wp_Mo_year_b28] at h
    refine sx_iload (pc2 := 30) hX 4 d_Mo_year_28 rfl rfl ?_
    refine sx_iload_n (pc2 := 31) hX 2 d_Mo_year_30 rfl rfl rfl ?_
    refine sx_icmp_ge (tgt := 65) (pc2 := 34) hX d_Mo_year_31 (by decide) rfl (fun hc1 => ?_) (fun hc1 => ?_)
    · replace h := sx_t h hc1
      refine sx_aload_n (pc2 := 66) hX 0 d_Mo_year_65 rfl rfl rfl ?_
      refine sx_iconst (v := 0) (pc2 := 67) hX d_Mo_year_66 (by decide) rfl ?_
      refine fp_Mo_223 (pc2 := 70) hX (kr_50 hK) d_Mo_year_67 rfl ?_
      refine sx_nm (fun σ2 e2 => ?_)
      replace h := h σ2 e2
      refine sx_iload_n (pc2 := 71) hX 3 d_Mo_year_70 rfl rfl rfl ?_
      exact sx_iret hX hE h d_Mo_year_71
    · replace h := sx_f h hc1
      refine sx_aload_n (pc2 := 35) hX 0 d_Mo_year_34 rfl rfl rfl ?_
      refine cl_Mo_317 (pc2 := 38) hX hK h  ⟨Nat.le_of_ble_eq_true rfl, Nat.le_of_ble_eq_true rfl⟩ (Nat.le_of_ble_eq_true rfl) d_Mo_year_35 rfl (fun σ3 τ3 h => ?_)
      refine sx_aload_n (pc2 := 39) hX 0 d_Mo_year_38 rfl rfl rfl ?_
      refine sx_iload (pc2 := 41) hX 4 d_Mo_year_39 rfl rfl ?_
      refine fp_Mo_223 (pc2 := 44) hX (kr_50 hK) d_Mo_year_41 rfl ?_
      refine sx_nm (fun σ4 e4 => ?_)
      replace h := h σ4 e4
      refine sx_aload_n (pc2 := 45) hX 0 d_Mo_year_44 rfl rfl rfl ?_
      refine sx_iload_n (pc2 := 46) hX 1 d_Mo_year_45 rfl rfl rfl ?_
      refine cl_Mo_323 (pc2 := 49) hX hK h  ⟨Nat.le_of_ble_eq_true rfl, Nat.le_of_ble_eq_true rfl⟩ (Nat.le_of_ble_eq_true rfl) d_Mo_year_46 rfl (fun σ5 τ5 h => ?_)
      refine sx_aload_n (pc2 := 50) hX 0 d_Mo_year_49 rfl rfl rfl ?_
      refine cl_Mo_350 (pc2 := 53) hX hK h  ⟨Nat.le_of_ble_eq_true rfl, Nat.le_of_ble_eq_true rfl⟩ (Nat.le_of_ble_eq_true rfl) d_Mo_year_50 rfl (fun r6 σ6 τ6 h => ?_)
      refine sx_if_eq (tgt := 59) (pc2 := 56) hX d_Mo_year_53 (by decide) rfl (fun hc7 => ?_) (fun hc7 => ?_)
      · replace h := sx_t h hc7
        exact g_Mo_year_b59 hX hK hE  ih v1 v2 v3 v4 _ _ h
      · replace h := sx_f h hc7
        refine sx_iinc (pc2 := 59) hX 3 _ [(0, .ref (K.2.2.1 50 0 0)), (1, .int v1), (2, .int v2), (3, .int (v3 + 1)), (4, .int v4)] [1, 2, 3, 0, 4] d_Mo_year_56 rfl (v3 + 1) rfl (by decide) rfl rfl rfl ?_
        exact g_Mo_year_b59 hX hK hE  ih v1 v2 (v3 + 1) v4 _ _ h
set_option maxRecDepth 100000 in
set_option maxHeartbeats 4000000 in
theorem g_Mo_year_b21 {l : Launch} {K : sx_K} {X : sx_T}   {Q : Int32 → sx_M → sx_L → Prop} (hX : sx_C X K prog_13_method_105_code 5 "SensorTreeModel" (some .int) rm_Mo_year l) (hK : kx_F K) (hE : sx_E X K (sx_Qi K Q))   (σ : sx_M) (τ : sx_L)  (h : wp_Mo_year_b21 Q  σ τ) : sx_G X K 5 21 [] [] (sx_H K σ τ) := by
  unfold wp_Mo_year_b21 at h
  refine sx_iconst (v := (-1)) (pc2 := 22) hX d_Mo_year_21 (by decide) rfl ?_
  exact sx_iret hX hE h d_Mo_year_22
set_option maxRecDepth 100000 in
set_option maxHeartbeats 4000000 in
theorem c_Mo_year {l : Launch} {K : sx_K} (hK : kx_F K) (x1 : Int32) (x2 : Int32) (σ : sx_M) (τ : sx_L) (Q : Int32 → sx_M → sx_L → Prop)  (h : wp_Mo_year x1 x2 σ τ Q) : Met l y_Mo_year (sx_wd y_Mo_year prog_13_method_105_code 5 (some .int)) rm_Mo_year (sx_Pc K [.ref (K.2.2.1 50 0 0), .int x1, .int x2] σ τ) (sx_Qi K Q) 0 0 (sx_A K) := by
  refine sx_met (by decide) (Nat.le_of_ble_eq_true rfl) (fun X hX hE => ?_)
  replace hX : sx_C X K prog_13_method_105_code 5 "SensorTreeModel" (some .int) rm_Mo_year l := hX
  show sx_G X K 5 0 [(0, .ref (K.2.2.1 50 0 0)), (1, .int x1), (2, .int x2)] [] (sx_H K σ τ)
  unfold wp_Mo_year at h
  refine sx_iload_n (pc2 := 1) hX 1 d_Mo_year_0 rfl rfl rfl ?_
  refine sx_iconst (v := 0) (pc2 := 2) hX d_Mo_year_1 (by decide) rfl ?_
  refine sx_sipush (v := 200) (pc2 := 5) hX d_Mo_year_2 (by decide) rfl ?_
  refine cl_Mo_216 (pc2 := 8) hX hK h  ⟨Nat.le_of_ble_eq_true rfl, Nat.le_of_ble_eq_true rfl⟩ (Nat.le_of_ble_eq_true rfl) d_Mo_year_5 rfl (fun r8 σ8 τ8 h => ?_)
  refine sx_if_eq (tgt := 21) (pc2 := 11) hX d_Mo_year_8 (by decide) rfl (fun hc9 => ?_) (fun hc9 => ?_)
  · replace h := sx_t h hc9
    refine sx_sub [] [] rfl ?_
    exact g_Mo_year_b21 hX hK hE   _ _ h
  · replace h := sx_f h hc9
    refine sx_iload_n (pc2 := 12) hX 2 d_Mo_year_11 rfl rfl rfl ?_
    refine sx_iconst (v := 1) (pc2 := 13) hX d_Mo_year_12 (by decide) rfl ?_
    refine sx_bipush (v := 10) (pc2 := 15) hX d_Mo_year_13 (by decide) rfl ?_
    refine cl_Mo_216 (pc2 := 18) hX hK h  ⟨Nat.le_of_ble_eq_true rfl, Nat.le_of_ble_eq_true rfl⟩ (Nat.le_of_ble_eq_true rfl) d_Mo_year_15 rfl (fun r10 σ10 τ10 h => ?_)
    refine sx_if_ne (tgt := 23) (pc2 := 21) hX d_Mo_year_18 (by decide) rfl (fun hc11 => ?_) (fun hc11 => ?_)
    · replace h := sx_f h hc11
      refine sx_iconst (v := 0) (pc2 := 24) hX d_Mo_year_23 (by decide) rfl ?_
      refine sx_istore_n (pc2 := 25) hX _ [(0, .ref (K.2.2.1 50 0 0)), (1, .int x1), (2, .int x2), (3, .int 0)] [1, 2, 3, 0] d_Mo_year_24 rfl (by decide) rfl rfl rfl ?_
      refine sx_iconst (v := 0) (pc2 := 26) hX d_Mo_year_25 (by decide) rfl ?_
      refine sx_istore (pc2 := 28) hX _ [(0, .ref (K.2.2.1 50 0 0)), (1, .int x1), (2, .int x2), (3, .int 0), (4, .int 0)] [1, 2, 3, 4, 0] d_Mo_year_26 (by decide) rfl rfl rfl ?_
      obtain ⟨f28, h⟩ := h
      exact g_Mo_year_b28 hX hK hE   f28 x1 x2 0 0 _ _ h
    · replace h := sx_t h hc11
      refine sx_sub [] [] rfl ?_
      exact g_Mo_year_b21 hX hK hE   _ _ h
def y_Mo_count : MethodName := ⟨"SensorTreeModel", "count", "(I)I"⟩
theorem hy_Mo_count : y_Mo_count.cls ≠ "java/lang/invoke/MethodHandle" ∧ y_Mo_count.cls ≠ "java/lang/invoke/VarHandle" ∧ (parseMethodDescriptor y_Mo_count.desc).map (fun d => d.parameters.length) = some 1 := by decide +kernel
theorem d_Mo_count_0 : decode prog_13_method_106_code 0 = .ok (.iconst 0, 1) := by decide +kernel
theorem d_Mo_count_1 : decode prog_13_method_106_code 1 = .ok (.istore_n 2, 1) := by decide +kernel
theorem d_Mo_count_2 : decode prog_13_method_106_code 2 = .ok (.iload_n 1, 1) := by decide +kernel
theorem d_Mo_count_3 : decode prog_13_method_106_code 3 = .ok (.tableswitch 384 0 17 #[85, 95, 105, 112, 120, 120, 120, 131, 163, 168, 173, 181, 226, 233, 240, 248, 300, 338], 85) := by decide +kernel
theorem d_Mo_count_88 : decode prog_13_method_106_code 88 = .ok (.aload_n 0, 1) := by decide +kernel
theorem d_Mo_count_89 : decode prog_13_method_106_code 89 = .ok (.getfield 40, 3) := by decide +kernel
theorem d_Mo_count_92 : decode prog_13_method_106_code 92 = .ok (.aload_n 0, 1) := by decide +kernel
theorem d_Mo_count_93 : decode prog_13_method_106_code 93 = .ok (.getfield 170, 3) := by decide +kernel
theorem d_Mo_count_96 : decode prog_13_method_106_code 96 = .ok (.iaload, 1) := by decide +kernel
theorem d_Mo_count_97 : decode prog_13_method_106_code 97 = .ok (.ireturn, 1) := by decide +kernel
theorem d_Mo_count_98 : decode prog_13_method_106_code 98 = .ok (.aload_n 0, 1) := by decide +kernel
theorem d_Mo_count_99 : decode prog_13_method_106_code 99 = .ok (.getfield 43, 3) := by decide +kernel
theorem d_Mo_count_102 : decode prog_13_method_106_code 102 = .ok (.aload_n 0, 1) := by decide +kernel
theorem d_Mo_count_103 : decode prog_13_method_106_code 103 = .ok (.getfield 170, 3) := by decide +kernel
theorem d_Mo_count_106 : decode prog_13_method_106_code 106 = .ok (.iaload, 1) := by decide +kernel
theorem d_Mo_count_107 : decode prog_13_method_106_code 107 = .ok (.ireturn, 1) := by decide +kernel
theorem d_Mo_count_108 : decode prog_13_method_106_code 108 = .ok (.aload_n 0, 1) := by decide +kernel
theorem d_Mo_count_109 : decode prog_13_method_106_code 109 = .ok (.getfield 68, 3) := by decide +kernel
theorem d_Mo_count_112 : decode prog_13_method_106_code 112 = .ok (.iconst 0, 1) := by decide +kernel
theorem d_Mo_count_113 : decode prog_13_method_106_code 113 = .ok (.iaload, 1) := by decide +kernel
theorem d_Mo_count_114 : decode prog_13_method_106_code 114 = .ok (.ireturn, 1) := by decide +kernel
theorem d_Mo_count_115 : decode prog_13_method_106_code 115 = .ok (.aload_n 0, 1) := by decide +kernel
theorem d_Mo_count_116 : decode prog_13_method_106_code 116 = .ok (.getfield 68, 3) := by decide +kernel
theorem d_Mo_count_119 : decode prog_13_method_106_code 119 = .ok (.bipush 7, 2) := by decide +kernel
theorem d_Mo_count_121 : decode prog_13_method_106_code 121 = .ok (.iaload, 1) := by decide +kernel
theorem d_Mo_count_122 : decode prog_13_method_106_code 122 = .ok (.ireturn, 1) := by decide +kernel
theorem d_Mo_count_123 : decode prog_13_method_106_code 123 = .ok (.aload_n 0, 1) := by decide +kernel
theorem d_Mo_count_124 : decode prog_13_method_106_code 124 = .ok (.getfield 68, 3) := by decide +kernel
theorem d_Mo_count_127 : decode prog_13_method_106_code 127 = .ok (.iconst 1, 1) := by decide +kernel
theorem d_Mo_count_128 : decode prog_13_method_106_code 128 = .ok (.iload_n 1, 1) := by decide +kernel
theorem d_Mo_count_129 : decode prog_13_method_106_code 129 = .ok (.iadd, 1) := by decide +kernel
theorem d_Mo_count_130 : decode prog_13_method_106_code 130 = .ok (.iconst 4, 1) := by decide +kernel
theorem d_Mo_count_131 : decode prog_13_method_106_code 131 = .ok (.isub, 1) := by decide +kernel
theorem d_Mo_count_132 : decode prog_13_method_106_code 132 = .ok (.iaload, 1) := by decide +kernel
theorem d_Mo_count_133 : decode prog_13_method_106_code 133 = .ok (.ireturn, 1) := by decide +kernel
theorem d_Mo_count_134 : decode prog_13_method_106_code 134 = .ok (.iconst 0, 1) := by decide +kernel
theorem d_Mo_count_135 : decode prog_13_method_106_code 135 = .ok (.istore_n 3, 1) := by decide +kernel
theorem d_Mo_count_136 : decode prog_13_method_106_code 136 = .ok (.iload_n 3, 1) := by decide +kernel
theorem d_Mo_count_137 : decode prog_13_method_106_code 137 = .ok (.bipush 49, 2) := by decide +kernel
theorem d_Mo_count_139 : decode prog_13_method_106_code 139 = .ok (.if_icmp .ge 25, 3) := by decide +kernel
theorem d_Mo_count_142 : decode prog_13_method_106_code 142 = .ok (.aload_n 0, 1) := by decide +kernel
theorem d_Mo_count_143 : decode prog_13_method_106_code 143 = .ok (.getfield 68, 3) := by decide +kernel
theorem d_Mo_count_146 : decode prog_13_method_106_code 146 = .ok (.sipush 145, 3) := by decide +kernel
theorem d_Mo_count_149 : decode prog_13_method_106_code 149 = .ok (.iload_n 3, 1) := by decide +kernel
theorem d_Mo_count_150 : decode prog_13_method_106_code 150 = .ok (.iadd, 1) := by decide +kernel
theorem d_Mo_count_151 : decode prog_13_method_106_code 151 = .ok (.iaload, 1) := by decide +kernel
theorem d_Mo_count_152 : decode prog_13_method_106_code 152 = .ok (.ifCond .lt 6, 3) := by decide +kernel
theorem d_Mo_count_155 : decode prog_13_method_106_code 155 = .ok (.iinc 2 1, 3) := by decide +kernel
theorem d_Mo_count_158 : decode prog_13_method_106_code 158 = .ok (.iinc 3 1, 3) := by decide +kernel
theorem d_Mo_count_161 : decode prog_13_method_106_code 161 = .ok (.goto (-25), 3) := by decide +kernel
theorem d_Mo_count_164 : decode prog_13_method_106_code 164 = .ok (.iload_n 2, 1) := by decide +kernel
theorem d_Mo_count_165 : decode prog_13_method_106_code 165 = .ok (.ireturn, 1) := by decide +kernel
theorem d_Mo_count_166 : decode prog_13_method_106_code 166 = .ok (.aload_n 0, 1) := by decide +kernel
theorem d_Mo_count_167 : decode prog_13_method_106_code 167 = .ok (.getfield 106, 3) := by decide +kernel
theorem d_Mo_count_170 : decode prog_13_method_106_code 170 = .ok (.ireturn, 1) := by decide +kernel
theorem d_Mo_count_171 : decode prog_13_method_106_code 171 = .ok (.aload_n 0, 1) := by decide +kernel
theorem d_Mo_count_172 : decode prog_13_method_106_code 172 = .ok (.getfield 179, 3) := by decide +kernel
theorem d_Mo_count_175 : decode prog_13_method_106_code 175 = .ok (.ireturn, 1) := by decide +kernel
theorem d_Mo_count_176 : decode prog_13_method_106_code 176 = .ok (.aload_n 0, 1) := by decide +kernel
theorem d_Mo_count_177 : decode prog_13_method_106_code 177 = .ok (.getfield 68, 3) := by decide +kernel
theorem d_Mo_count_180 : decode prog_13_method_106_code 180 = .ok (.bipush 9, 2) := by decide +kernel
theorem d_Mo_count_182 : decode prog_13_method_106_code 182 = .ok (.iaload, 1) := by decide +kernel
theorem d_Mo_count_183 : decode prog_13_method_106_code 183 = .ok (.ireturn, 1) := by decide +kernel
theorem d_Mo_count_184 : decode prog_13_method_106_code 184 = .ok (.aload_n 0, 1) := by decide +kernel
theorem d_Mo_count_185 : decode prog_13_method_106_code 185 = .ok (.getfield 86, 3) := by decide +kernel
theorem d_Mo_count_188 : decode prog_13_method_106_code 188 = .ok (.iconst 0, 1) := by decide +kernel
theorem d_Mo_count_189 : decode prog_13_method_106_code 189 = .ok (.baload, 1) := by decide +kernel
theorem d_Mo_count_190 : decode prog_13_method_106_code 190 = .ok (.ifCond .eq 7, 3) := by decide +kernel
theorem d_Mo_count_193 : decode prog_13_method_106_code 193 = .ok (.iconst 1, 1) := by decide +kernel
theorem d_Mo_count_194 : decode prog_13_method_106_code 194 = .ok (.goto 4, 3) := by decide +kernel
theorem d_Mo_count_197 : decode prog_13_method_106_code 197 = .ok (.iconst 0, 1) := by decide +kernel
theorem d_Mo_count_198 : decode prog_13_method_106_code 198 = .ok (.aload_n 0, 1) := by decide +kernel
theorem d_Mo_count_199 : decode prog_13_method_106_code 199 = .ok (.getfield 86, 3) := by decide +kernel
theorem d_Mo_count_202 : decode prog_13_method_106_code 202 = .ok (.iconst 1, 1) := by decide +kernel
theorem d_Mo_count_203 : decode prog_13_method_106_code 203 = .ok (.baload, 1) := by decide +kernel
theorem d_Mo_count_204 : decode prog_13_method_106_code 204 = .ok (.ifCond .eq 7, 3) := by decide +kernel
theorem d_Mo_count_207 : decode prog_13_method_106_code 207 = .ok (.iconst 1, 1) := by decide +kernel
theorem d_Mo_count_208 : decode prog_13_method_106_code 208 = .ok (.goto 4, 3) := by decide +kernel
theorem d_Mo_count_211 : decode prog_13_method_106_code 211 = .ok (.iconst 0, 1) := by decide +kernel
theorem d_Mo_count_212 : decode prog_13_method_106_code 212 = .ok (.iadd, 1) := by decide +kernel
theorem d_Mo_count_213 : decode prog_13_method_106_code 213 = .ok (.aload_n 0, 1) := by decide +kernel
theorem d_Mo_count_214 : decode prog_13_method_106_code 214 = .ok (.getfield 86, 3) := by decide +kernel
theorem d_Mo_count_217 : decode prog_13_method_106_code 217 = .ok (.iconst 2, 1) := by decide +kernel
theorem d_Mo_count_218 : decode prog_13_method_106_code 218 = .ok (.baload, 1) := by decide +kernel
theorem d_Mo_count_219 : decode prog_13_method_106_code 219 = .ok (.ifCond .eq 7, 3) := by decide +kernel
theorem d_Mo_count_222 : decode prog_13_method_106_code 222 = .ok (.iconst 1, 1) := by decide +kernel
theorem d_Mo_count_223 : decode prog_13_method_106_code 223 = .ok (.goto 4, 3) := by decide +kernel
theorem d_Mo_count_226 : decode prog_13_method_106_code 226 = .ok (.iconst 0, 1) := by decide +kernel
theorem d_Mo_count_227 : decode prog_13_method_106_code 227 = .ok (.iadd, 1) := by decide +kernel
theorem d_Mo_count_228 : decode prog_13_method_106_code 228 = .ok (.ireturn, 1) := by decide +kernel
theorem d_Mo_count_229 : decode prog_13_method_106_code 229 = .ok (.aload_n 0, 1) := by decide +kernel
theorem d_Mo_count_230 : decode prog_13_method_106_code 230 = .ok (.getfield 68, 3) := by decide +kernel
theorem d_Mo_count_233 : decode prog_13_method_106_code 233 = .ok (.iconst 4, 1) := by decide +kernel
theorem d_Mo_count_234 : decode prog_13_method_106_code 234 = .ok (.iaload, 1) := by decide +kernel
theorem d_Mo_count_235 : decode prog_13_method_106_code 235 = .ok (.ireturn, 1) := by decide +kernel
theorem d_Mo_count_236 : decode prog_13_method_106_code 236 = .ok (.aload_n 0, 1) := by decide +kernel
theorem d_Mo_count_237 : decode prog_13_method_106_code 237 = .ok (.getfield 68, 3) := by decide +kernel
theorem d_Mo_count_240 : decode prog_13_method_106_code 240 = .ok (.iconst 5, 1) := by decide +kernel
theorem d_Mo_count_241 : decode prog_13_method_106_code 241 = .ok (.iaload, 1) := by decide +kernel
theorem d_Mo_count_242 : decode prog_13_method_106_code 242 = .ok (.ireturn, 1) := by decide +kernel
theorem d_Mo_count_243 : decode prog_13_method_106_code 243 = .ok (.aload_n 0, 1) := by decide +kernel
theorem d_Mo_count_244 : decode prog_13_method_106_code 244 = .ok (.getfield 68, 3) := by decide +kernel
theorem d_Mo_count_247 : decode prog_13_method_106_code 247 = .ok (.bipush 6, 2) := by decide +kernel
theorem d_Mo_count_249 : decode prog_13_method_106_code 249 = .ok (.iaload, 1) := by decide +kernel
theorem d_Mo_count_250 : decode prog_13_method_106_code 250 = .ok (.ireturn, 1) := by decide +kernel
theorem d_Mo_count_251 : decode prog_13_method_106_code 251 = .ok (.iconst 0, 1) := by decide +kernel
theorem d_Mo_count_252 : decode prog_13_method_106_code 252 = .ok (.istore_n 3, 1) := by decide +kernel
theorem d_Mo_count_253 : decode prog_13_method_106_code 253 = .ok (.iload_n 3, 1) := by decide +kernel
theorem d_Mo_count_254 : decode prog_13_method_106_code 254 = .ok (.aload_n 0, 1) := by decide +kernel
theorem d_Mo_count_255 : decode prog_13_method_106_code 255 = .ok (.getfield 40, 3) := by decide +kernel
theorem d_Mo_count_258 : decode prog_13_method_106_code 258 = .ok (.aload_n 0, 1) := by decide +kernel
theorem d_Mo_count_259 : decode prog_13_method_106_code 259 = .ok (.getfield 170, 3) := by decide +kernel
theorem d_Mo_count_262 : decode prog_13_method_106_code 262 = .ok (.iaload, 1) := by decide +kernel
theorem d_Mo_count_263 : decode prog_13_method_106_code 263 = .ok (.if_icmp .ge 38, 3) := by decide +kernel
theorem d_Mo_count_266 : decode prog_13_method_106_code 266 = .ok (.aload_n 0, 1) := by decide +kernel
theorem d_Mo_count_267 : decode prog_13_method_106_code 267 = .ok (.iload_n 3, 1) := by decide +kernel
theorem d_Mo_count_268 : decode prog_13_method_106_code 268 = .ok (.iconst 1, 1) := by decide +kernel
theorem d_Mo_count_269 : decode prog_13_method_106_code 269 = .ok (.invokevirtual 338, 3) := by decide +kernel
theorem d_Mo_count_272 : decode prog_13_method_106_code 272 = .ok (.sipush 9999, 3) := by decide +kernel
theorem d_Mo_count_275 : decode prog_13_method_106_code 275 = .ok (.if_icmp .ge 20, 3) := by decide +kernel
theorem d_Mo_count_278 : decode prog_13_method_106_code 278 = .ok (.aload_n 0, 1) := by decide +kernel
theorem d_Mo_count_279 : decode prog_13_method_106_code 279 = .ok (.iload_n 3, 1) := by decide +kernel
theorem d_Mo_count_280 : decode prog_13_method_106_code 280 = .ok (.iconst 1, 1) := by decide +kernel
theorem d_Mo_count_281 : decode prog_13_method_106_code 281 = .ok (.invokevirtual 338, 3) := by decide +kernel
theorem d_Mo_count_284 : decode prog_13_method_106_code 284 = .ok (.iload_n 2, 1) := by decide +kernel
theorem d_Mo_count_285 : decode prog_13_method_106_code 285 = .ok (.if_icmp .le 10, 3) := by decide +kernel
theorem d_Mo_count_288 : decode prog_13_method_106_code 288 = .ok (.aload_n 0, 1) := by decide +kernel
theorem d_Mo_count_289 : decode prog_13_method_106_code 289 = .ok (.iload_n 3, 1) := by decide +kernel
theorem d_Mo_count_290 : decode prog_13_method_106_code 290 = .ok (.iconst 1, 1) := by decide +kernel
theorem d_Mo_count_291 : decode prog_13_method_106_code 291 = .ok (.invokevirtual 338, 3) := by decide +kernel
theorem d_Mo_count_294 : decode prog_13_method_106_code 294 = .ok (.istore_n 2, 1) := by decide +kernel
theorem d_Mo_count_295 : decode prog_13_method_106_code 295 = .ok (.iinc 3 1, 3) := by decide +kernel
theorem d_Mo_count_298 : decode prog_13_method_106_code 298 = .ok (.goto (-45), 3) := by decide +kernel
theorem d_Mo_count_301 : decode prog_13_method_106_code 301 = .ok (.iload_n 2, 1) := by decide +kernel
theorem d_Mo_count_302 : decode prog_13_method_106_code 302 = .ok (.ireturn, 1) := by decide +kernel
theorem d_Mo_count_303 : decode prog_13_method_106_code 303 = .ok (.iconst 0, 1) := by decide +kernel
theorem d_Mo_count_304 : decode prog_13_method_106_code 304 = .ok (.istore_n 3, 1) := by decide +kernel
theorem d_Mo_count_305 : decode prog_13_method_106_code 305 = .ok (.iload_n 3, 1) := by decide +kernel
theorem d_Mo_count_306 : decode prog_13_method_106_code 306 = .ok (.aload_n 0, 1) := by decide +kernel
theorem d_Mo_count_307 : decode prog_13_method_106_code 307 = .ok (.getfield 40, 3) := by decide +kernel
theorem d_Mo_count_310 : decode prog_13_method_106_code 310 = .ok (.aload_n 0, 1) := by decide +kernel
theorem d_Mo_count_311 : decode prog_13_method_106_code 311 = .ok (.getfield 170, 3) := by decide +kernel
theorem d_Mo_count_314 : decode prog_13_method_106_code 314 = .ok (.iaload, 1) := by decide +kernel
theorem d_Mo_count_315 : decode prog_13_method_106_code 315 = .ok (.if_icmp .ge 24, 3) := by decide +kernel
theorem d_Mo_count_318 : decode prog_13_method_106_code 318 = .ok (.aload_n 0, 1) := by decide +kernel
theorem d_Mo_count_319 : decode prog_13_method_106_code 319 = .ok (.iload_n 3, 1) := by decide +kernel
theorem d_Mo_count_320 : decode prog_13_method_106_code 320 = .ok (.iconst 4, 1) := by decide +kernel
theorem d_Mo_count_321 : decode prog_13_method_106_code 321 = .ok (.invokevirtual 338, 3) := by decide +kernel
theorem d_Mo_count_324 : decode prog_13_method_106_code 324 = .ok (.ifCond .le 9, 3) := by decide +kernel
theorem d_Mo_count_327 : decode prog_13_method_106_code 327 = .ok (.iload_n 2, 1) := by decide +kernel
theorem d_Mo_count_328 : decode prog_13_method_106_code 328 = .ok (.iconst 1, 1) := by decide +kernel
theorem d_Mo_count_329 : decode prog_13_method_106_code 329 = .ok (.iload_n 3, 1) := by decide +kernel
theorem d_Mo_count_330 : decode prog_13_method_106_code 330 = .ok (.ishl, 1) := by decide +kernel
theorem d_Mo_count_331 : decode prog_13_method_106_code 331 = .ok (.ior, 1) := by decide +kernel
theorem d_Mo_count_332 : decode prog_13_method_106_code 332 = .ok (.istore_n 2, 1) := by decide +kernel
theorem d_Mo_count_333 : decode prog_13_method_106_code 333 = .ok (.iinc 3 1, 3) := by decide +kernel
theorem d_Mo_count_336 : decode prog_13_method_106_code 336 = .ok (.goto (-31), 3) := by decide +kernel
theorem d_Mo_count_339 : decode prog_13_method_106_code 339 = .ok (.iload_n 2, 1) := by decide +kernel
theorem d_Mo_count_340 : decode prog_13_method_106_code 340 = .ok (.ireturn, 1) := by decide +kernel
theorem d_Mo_count_341 : decode prog_13_method_106_code 341 = .ok (.iconst 1, 1) := by decide +kernel
theorem d_Mo_count_342 : decode prog_13_method_106_code 342 = .ok (.istore_n 3, 1) := by decide +kernel
theorem d_Mo_count_343 : decode prog_13_method_106_code 343 = .ok (.iload_n 3, 1) := by decide +kernel
theorem d_Mo_count_344 : decode prog_13_method_106_code 344 = .ok (.aload_n 0, 1) := by decide +kernel
theorem d_Mo_count_345 : decode prog_13_method_106_code 345 = .ok (.getfield 40, 3) := by decide +kernel
theorem d_Mo_count_348 : decode prog_13_method_106_code 348 = .ok (.aload_n 0, 1) := by decide +kernel
theorem d_Mo_count_349 : decode prog_13_method_106_code 349 = .ok (.getfield 170, 3) := by decide +kernel
theorem d_Mo_count_352 : decode prog_13_method_106_code 352 = .ok (.iaload, 1) := by decide +kernel
theorem d_Mo_count_353 : decode prog_13_method_106_code 353 = .ok (.if_icmp .ge 32, 3) := by decide +kernel
theorem d_Mo_count_356 : decode prog_13_method_106_code 356 = .ok (.aload_n 0, 1) := by decide +kernel
theorem d_Mo_count_357 : decode prog_13_method_106_code 357 = .ok (.iload_n 3, 1) := by decide +kernel
theorem d_Mo_count_358 : decode prog_13_method_106_code 358 = .ok (.invokevirtual 341, 3) := by decide +kernel
theorem d_Mo_count_361 : decode prog_13_method_106_code 361 = .ok (.ifCond .eq 18, 3) := by decide +kernel
theorem d_Mo_count_364 : decode prog_13_method_106_code 364 = .ok (.aload_n 0, 1) := by decide +kernel
theorem d_Mo_count_365 : decode prog_13_method_106_code 365 = .ok (.iload_n 3, 1) := by decide +kernel
theorem d_Mo_count_366 : decode prog_13_method_106_code 366 = .ok (.iconst 2, 1) := by decide +kernel
theorem d_Mo_count_367 : decode prog_13_method_106_code 367 = .ok (.invokevirtual 338, 3) := by decide +kernel
theorem d_Mo_count_370 : decode prog_13_method_106_code 370 = .ok (.ifCond .ge 9, 3) := by decide +kernel
theorem d_Mo_count_373 : decode prog_13_method_106_code 373 = .ok (.iload_n 2, 1) := by decide +kernel
theorem d_Mo_count_374 : decode prog_13_method_106_code 374 = .ok (.iconst 1, 1) := by decide +kernel
theorem d_Mo_count_375 : decode prog_13_method_106_code 375 = .ok (.iload_n 3, 1) := by decide +kernel
theorem d_Mo_count_376 : decode prog_13_method_106_code 376 = .ok (.ishl, 1) := by decide +kernel
theorem d_Mo_count_377 : decode prog_13_method_106_code 377 = .ok (.ior, 1) := by decide +kernel
theorem d_Mo_count_378 : decode prog_13_method_106_code 378 = .ok (.istore_n 2, 1) := by decide +kernel
theorem d_Mo_count_379 : decode prog_13_method_106_code 379 = .ok (.iinc 3 1, 3) := by decide +kernel
theorem d_Mo_count_382 : decode prog_13_method_106_code 382 = .ok (.goto (-39), 3) := by decide +kernel
theorem d_Mo_count_385 : decode prog_13_method_106_code 385 = .ok (.iload_n 2, 1) := by decide +kernel
theorem d_Mo_count_386 : decode prog_13_method_106_code 386 = .ok (.ireturn, 1) := by decide +kernel
theorem d_Mo_count_387 : decode prog_13_method_106_code 387 = .ok (.iconst (-1), 1) := by decide +kernel
theorem d_Mo_count_388 : decode prog_13_method_106_code 388 = .ok (.ireturn, 1) := by decide +kernel
def wp_Mo_count_b379  (k343 : Int32 → Int32 → sx_M → sx_L → Prop) (Q : Int32 → sx_M → sx_L → Prop) (v2 : Int32) (v3 : Int32) (σ : sx_M) (τ : sx_L) : Prop := k343 v2 (v3 + 1) σ τ
def wp_Mo_count_b343   (Q : Int32 → sx_M → sx_L → Prop) : Nat → Int32 → Int32 → sx_M → sx_L → Prop
  | 0, _, _, _, _ => False
  | f + 1, v2, v3, σ, τ => vp_in (σ 50 0 0 17) 2 ∧ (if σ 58 0 0 (σ 50 0 0 17).toNatClampNeg ≤ v3 then (Q v2 σ τ) else (wp_Mo_isNowOn v3 σ τ (fun r3 σ3 τ3 => if r3 = 0 then (wp_Mo_count_b379 (wp_Mo_count_b343 Q f) Q v2 v3 σ3 τ3) else (wp_Mo_nowOf v3 (2 : Int32) σ3 τ3 (fun r5 σ5 τ5 => if 0 ≤ r5 then (wp_Mo_count_b379 (wp_Mo_count_b343 Q f) Q v2 v3 σ5 τ5) else (wp_Mo_count_b379 (wp_Mo_count_b343 Q f) Q (v2 ||| (1 <<< (v3 &&& 31))) v3 σ5 τ5))))))
def wp_Mo_count_b333  (k305 : Int32 → Int32 → sx_M → sx_L → Prop) (Q : Int32 → sx_M → sx_L → Prop) (v2 : Int32) (v3 : Int32) (σ : sx_M) (τ : sx_L) : Prop := k305 v2 (v3 + 1) σ τ
def wp_Mo_count_b305   (Q : Int32 → sx_M → sx_L → Prop) : Nat → Int32 → Int32 → sx_M → sx_L → Prop
  | 0, _, _, _, _ => False
  | f + 1, v2, v3, σ, τ => vp_in (σ 50 0 0 17) 2 ∧ (if σ 58 0 0 (σ 50 0 0 17).toNatClampNeg ≤ v3 then (Q v2 σ τ) else (wp_Mo_nowOf v3 (4 : Int32) σ τ (fun r9 σ9 τ9 => if r9 ≤ 0 then (wp_Mo_count_b333 (wp_Mo_count_b305 Q f) Q v2 v3 σ9 τ9) else (wp_Mo_count_b333 (wp_Mo_count_b305 Q f) Q (v2 ||| (1 <<< (v3 &&& 31))) v3 σ9 τ9))))
def wp_Mo_count_b295  (k253 : Int32 → Int32 → sx_M → sx_L → Prop) (Q : Int32 → sx_M → sx_L → Prop) (v2 : Int32) (v3 : Int32) (σ : sx_M) (τ : sx_L) : Prop := k253 v2 (v3 + 1) σ τ
def wp_Mo_count_b253   (Q : Int32 → sx_M → sx_L → Prop) : Nat → Int32 → Int32 → sx_M → sx_L → Prop
  | 0, _, _, _, _ => False
  | f + 1, v2, v3, σ, τ => vp_in (σ 50 0 0 17) 2 ∧ (if σ 58 0 0 (σ 50 0 0 17).toNatClampNeg ≤ v3 then (Q v2 σ τ) else (wp_Mo_nowOf v3 (1 : Int32) σ τ (fun r13 σ13 τ13 => if 9999 ≤ r13 then (wp_Mo_count_b295 (wp_Mo_count_b253 Q f) Q v2 v3 σ13 τ13) else (wp_Mo_nowOf v3 (1 : Int32) σ13 τ13 (fun r15 σ15 τ15 => if r15 ≤ v2 then (wp_Mo_count_b295 (wp_Mo_count_b253 Q f) Q v2 v3 σ15 τ15) else (wp_Mo_nowOf v3 (1 : Int32) σ15 τ15 (fun r17 σ17 τ17 => wp_Mo_count_b295 (wp_Mo_count_b253 Q f) Q r17 v3 σ17 τ17)))))))
def wp_Mo_count_b227   (Q : Int32 → sx_M → sx_L → Prop) (w0 : Int32) (w1 : Int32) (σ : sx_M) (τ : sx_L) : Prop := Q (w0 + w1) σ τ
def wp_Mo_count_b212   (Q : Int32 → sx_M → sx_L → Prop) (w0 : Int32) (w1 : Int32) (σ : sx_M) (τ : sx_L) : Prop := vp_in 2 3 ∧ (if σ 73 0 0 (2 : Int32).toNatClampNeg = 0 then (wp_Mo_count_b227 Q (w0 + w1) 0 σ τ) else (wp_Mo_count_b227 Q (w0 + w1) 1 σ τ))
def wp_Mo_count_b198   (Q : Int32 → sx_M → sx_L → Prop) (w0 : Int32) (σ : sx_M) (τ : sx_L) : Prop := vp_in 1 3 ∧ (if σ 73 0 0 (1 : Int32).toNatClampNeg = 0 then (wp_Mo_count_b212 Q w0 0 σ τ) else (wp_Mo_count_b212 Q w0 1 σ τ))
def wp_Mo_count_b158  (k136 : Int32 → Int32 → sx_M → sx_L → Prop) (Q : Int32 → sx_M → sx_L → Prop) (v2 : Int32) (v3 : Int32) (σ : sx_M) (τ : sx_L) : Prop := k136 v2 (v3 + 1) σ τ
def wp_Mo_count_b136   (Q : Int32 → sx_M → sx_L → Prop) : Nat → Int32 → Int32 → sx_M → sx_L → Prop
  | 0, _, _, _, _ => False
  | f + 1, v2, v3, σ, τ => if 49 ≤ v3 then (Q v2 σ τ) else (vp_in (145 + v3) 643 ∧ (if σ 67 0 0 (145 + v3).toNatClampNeg < 0 then (wp_Mo_count_b158 (wp_Mo_count_b136 Q f) Q v2 v3 σ τ) else (wp_Mo_count_b158 (wp_Mo_count_b136 Q f) Q (v2 + 1) v3 σ τ)))
def wp_Mo_count_b123   (Q : Int32 → sx_M → sx_L → Prop) (v1 : Int32) (σ : sx_M) (τ : sx_L) : Prop := vp_in ((1 + v1) - 4) 643 ∧ (Q (σ 67 0 0 ((1 + v1) - 4).toNatClampNeg) σ τ)
def wp_Mo_count (x1 : Int32) (σ : sx_M) (τ : sx_L) (Q : Int32 → sx_M → sx_L → Prop) : Prop := if x1 = 0 then (vp_in (σ 50 0 0 17) 2 ∧ (Q (σ 58 0 0 (σ 50 0 0 17).toNatClampNeg) σ τ)) else (if x1 = 1 then (vp_in (σ 50 0 0 17) 2 ∧ (Q (σ 59 0 0 (σ 50 0 0 17).toNatClampNeg) σ τ)) else (if x1 = 2 then (vp_in 0 643 ∧ (Q (σ 67 0 0 (0 : Int32).toNatClampNeg) σ τ)) else (if x1 = 3 then (vp_in 7 643 ∧ (Q (σ 67 0 0 (7 : Int32).toNatClampNeg) σ τ)) else (if x1 = 4 then (wp_Mo_count_b123 Q x1 σ τ) else (if x1 = 5 then (wp_Mo_count_b123 Q x1 σ τ) else (if x1 = 6 then (wp_Mo_count_b123 Q x1 σ τ) else (if x1 = 7 then (∃ f136, wp_Mo_count_b136 Q f136 0 0 σ τ) else (if x1 = 8 then (Q (σ 50 0 0 2) σ τ) else (if x1 = 9 then (Q (σ 50 0 0 37) σ τ) else (if x1 = 10 then (vp_in 9 643 ∧ (Q (σ 67 0 0 (9 : Int32).toNatClampNeg) σ τ)) else (if x1 = 11 then (vp_in 0 3 ∧ (if σ 73 0 0 (0 : Int32).toNatClampNeg = 0 then (wp_Mo_count_b198 Q 0 σ τ) else (wp_Mo_count_b198 Q 1 σ τ))) else (if x1 = 12 then (vp_in 4 643 ∧ (Q (σ 67 0 0 (4 : Int32).toNatClampNeg) σ τ)) else (if x1 = 13 then (vp_in 5 643 ∧ (Q (σ 67 0 0 (5 : Int32).toNatClampNeg) σ τ)) else (if x1 = 14 then (vp_in 6 643 ∧ (Q (σ 67 0 0 (6 : Int32).toNatClampNeg) σ τ)) else (if x1 = 15 then (∃ f253, wp_Mo_count_b253 Q f253 0 0 σ τ) else (if x1 = 16 then (∃ f305, wp_Mo_count_b305 Q f305 0 0 σ τ) else (if x1 = 17 then (∃ f343, wp_Mo_count_b343 Q f343 0 1 σ τ) else (Q (-1) σ τ))))))))))))))))))
abbrev rm_Mo_count : Room := { frames := 3, cells := 0, slots := 0, locals := 64 }
set_option maxRecDepth 100000 in
set_option maxHeartbeats 4000000 in
theorem g_Mo_count_b379 {l : Launch} {K : sx_K} {X : sx_T}  {k343 : Int32 → Int32 → sx_M → sx_L → Prop} {Q : Int32 → sx_M → sx_L → Prop} (hX : sx_C X K prog_13_method_106_code 4 "SensorTreeModel" (some .int) rm_Mo_count l) (hK : kx_F K) (hE : sx_E X K (sx_Qi K Q))  (hk343 : ∀ (v2 : Int32) (v3 : Int32) (σ : sx_M) (τ : sx_L) , k343 v2 v3 σ τ → sx_G X K 4 343 [(0, .ref (K.2.2.1 50 0 0)), (2, .int v2), (3, .int v3)] [] (sx_H K σ τ)) (v2 : Int32) (v3 : Int32) (σ : sx_M) (τ : sx_L)  (h : wp_Mo_count_b379 k343 Q  v2 v3 σ τ) : sx_G X K 4 379 [(0, .ref (K.2.2.1 50 0 0)), (2, .int v2), (3, .int v3)] [] (sx_H K σ τ) := by
  unfold wp_Mo_count_b379 at h
  refine sx_iinc (pc2 := 382) hX 2 _ [(0, .ref (K.2.2.1 50 0 0)), (2, .int v2), (3, .int (v3 + 1))] [1, 2, 0] d_Mo_count_379 rfl (v3 + 1) rfl (by decide) rfl rfl rfl ?_
  refine sx_goto (tgt := 343) hX d_Mo_count_382 (by decide) ?_
  exact hk343 v2 (v3 + 1) _ _ h
set_option maxRecDepth 100000 in
set_option maxHeartbeats 4000000 in
theorem g_Mo_count_b343 {l : Launch} {K : sx_K} {X : sx_T}   {Q : Int32 → sx_M → sx_L → Prop} (hX : sx_C X K prog_13_method_106_code 4 "SensorTreeModel" (some .int) rm_Mo_count l) (hK : kx_F K) (hE : sx_E X K (sx_Qi K Q))  : ∀ (f : Nat) (v2 : Int32) (v3 : Int32) (σ : sx_M) (τ : sx_L) , wp_Mo_count_b343 Q f v2 v3 σ τ → sx_G X K 4 343 [(0, .ref (K.2.2.1 50 0 0)), (2, .int v2), (3, .int v3)] [] (sx_H K σ τ) := by
  intro f
  induction f with
  | zero => intro v2 v3 σ τ h; exact (show False from h).elim
  | succ f ih =>
    intro v2 v3 σ τ h
    rw [wp_Mo_count_b343] at h
    refine sx_iload_n (pc2 := 344) hX 2 d_Mo_count_343 rfl rfl rfl ?_
    refine sx_aload_n (pc2 := 345) hX 0 d_Mo_count_344 rfl rfl rfl ?_
    refine fg_Mo_40 (pc2 := 348) hX (kr_50 hK) d_Mo_count_345 rfl ?_
    refine sx_aload_n (pc2 := 349) hX 0 d_Mo_count_348 rfl rfl rfl ?_
    refine fg_Mo_170 (pc2 := 352) hX (kr_50 hK) d_Mo_count_349 rfl ?_
    obtain ⟨hc1, h⟩ := h
    refine sx_iald (pc2 := 353) hX (kr_58 hK) rfl hc1 d_Mo_count_352 rfl ?_
    refine sx_icmp_ge (tgt := 385) (pc2 := 356) hX d_Mo_count_353 (by decide) rfl (fun hc2 => ?_) (fun hc2 => ?_)
    · replace h := sx_t h hc2
      refine sx_iload_n (pc2 := 386) hX 1 d_Mo_count_385 rfl rfl rfl ?_
      exact sx_iret hX hE h d_Mo_count_386
    · replace h := sx_f h hc2
      refine sx_aload_n (pc2 := 357) hX 0 d_Mo_count_356 rfl rfl rfl ?_
      refine sx_iload_n (pc2 := 358) hX 2 d_Mo_count_357 rfl rfl rfl ?_
      refine cl_Mo_341 (pc2 := 361) hX hK h  ⟨Nat.le_of_ble_eq_true rfl, Nat.le_of_ble_eq_true rfl⟩ (Nat.le_of_ble_eq_true rfl) d_Mo_count_358 rfl (fun r3 σ3 τ3 h => ?_)
      refine sx_if_eq (tgt := 379) (pc2 := 364) hX d_Mo_count_361 (by decide) rfl (fun hc4 => ?_) (fun hc4 => ?_)
      · replace h := sx_t h hc4
        exact g_Mo_count_b379 hX hK hE  ih v2 v3 _ _ h
      · replace h := sx_f h hc4
        refine sx_aload_n (pc2 := 365) hX 0 d_Mo_count_364 rfl rfl rfl ?_
        refine sx_iload_n (pc2 := 366) hX 2 d_Mo_count_365 rfl rfl rfl ?_
        refine sx_iconst (v := 2) (pc2 := 367) hX d_Mo_count_366 (by decide) rfl ?_
        refine cl_Mo_338 (pc2 := 370) hX hK h  ⟨Nat.le_of_ble_eq_true rfl, Nat.le_of_ble_eq_true rfl⟩ (Nat.le_of_ble_eq_true rfl) d_Mo_count_367 rfl (fun r5 σ5 τ5 h => ?_)
        refine sx_if_ge (tgt := 379) (pc2 := 373) hX d_Mo_count_370 (by decide) rfl (fun hc6 => ?_) (fun hc6 => ?_)
        · replace h := sx_t h hc6
          exact g_Mo_count_b379 hX hK hE  ih v2 v3 _ _ h
        · replace h := sx_f h hc6
          refine sx_iload_n (pc2 := 374) hX 1 d_Mo_count_373 rfl rfl rfl ?_
          refine sx_iconst (v := 1) (pc2 := 375) hX d_Mo_count_374 (by decide) rfl ?_
          refine sx_iload_n (pc2 := 376) hX 2 d_Mo_count_375 rfl rfl rfl ?_
          refine sx_ishl (pc2 := 377) hX d_Mo_count_376 rfl ?_
          refine sx_ior (pc2 := 378) hX d_Mo_count_377 rfl ?_
          refine sx_istore_n (pc2 := 379) hX _ [(0, .ref (K.2.2.1 50 0 0)), (2, .int (v2 ||| (1 <<< (v3 &&& 31)))), (3, .int v3)] [1, 0, 2] d_Mo_count_378 rfl (by decide) rfl rfl rfl ?_
          exact g_Mo_count_b379 hX hK hE  ih (v2 ||| (1 <<< (v3 &&& 31))) v3 _ _ h
set_option maxRecDepth 100000 in
set_option maxHeartbeats 4000000 in
theorem g_Mo_count_b333 {l : Launch} {K : sx_K} {X : sx_T}  {k305 : Int32 → Int32 → sx_M → sx_L → Prop} {Q : Int32 → sx_M → sx_L → Prop} (hX : sx_C X K prog_13_method_106_code 4 "SensorTreeModel" (some .int) rm_Mo_count l) (hK : kx_F K) (hE : sx_E X K (sx_Qi K Q))  (hk305 : ∀ (v2 : Int32) (v3 : Int32) (σ : sx_M) (τ : sx_L) , k305 v2 v3 σ τ → sx_G X K 4 305 [(0, .ref (K.2.2.1 50 0 0)), (2, .int v2), (3, .int v3)] [] (sx_H K σ τ)) (v2 : Int32) (v3 : Int32) (σ : sx_M) (τ : sx_L)  (h : wp_Mo_count_b333 k305 Q  v2 v3 σ τ) : sx_G X K 4 333 [(0, .ref (K.2.2.1 50 0 0)), (2, .int v2), (3, .int v3)] [] (sx_H K σ τ) := by
  unfold wp_Mo_count_b333 at h
  refine sx_iinc (pc2 := 336) hX 2 _ [(0, .ref (K.2.2.1 50 0 0)), (2, .int v2), (3, .int (v3 + 1))] [1, 2, 0] d_Mo_count_333 rfl (v3 + 1) rfl (by decide) rfl rfl rfl ?_
  refine sx_goto (tgt := 305) hX d_Mo_count_336 (by decide) ?_
  exact hk305 v2 (v3 + 1) _ _ h
set_option maxRecDepth 100000 in
set_option maxHeartbeats 4000000 in
theorem g_Mo_count_b305 {l : Launch} {K : sx_K} {X : sx_T}   {Q : Int32 → sx_M → sx_L → Prop} (hX : sx_C X K prog_13_method_106_code 4 "SensorTreeModel" (some .int) rm_Mo_count l) (hK : kx_F K) (hE : sx_E X K (sx_Qi K Q))  : ∀ (f : Nat) (v2 : Int32) (v3 : Int32) (σ : sx_M) (τ : sx_L) , wp_Mo_count_b305 Q f v2 v3 σ τ → sx_G X K 4 305 [(0, .ref (K.2.2.1 50 0 0)), (2, .int v2), (3, .int v3)] [] (sx_H K σ τ) := by
  intro f
  induction f with
  | zero => intro v2 v3 σ τ h; exact (show False from h).elim
  | succ f ih =>
    intro v2 v3 σ τ h
    rw [wp_Mo_count_b305] at h
    refine sx_iload_n (pc2 := 306) hX 2 d_Mo_count_305 rfl rfl rfl ?_
    refine sx_aload_n (pc2 := 307) hX 0 d_Mo_count_306 rfl rfl rfl ?_
    refine fg_Mo_40 (pc2 := 310) hX (kr_50 hK) d_Mo_count_307 rfl ?_
    refine sx_aload_n (pc2 := 311) hX 0 d_Mo_count_310 rfl rfl rfl ?_
    refine fg_Mo_170 (pc2 := 314) hX (kr_50 hK) d_Mo_count_311 rfl ?_
    obtain ⟨hc7, h⟩ := h
    refine sx_iald (pc2 := 315) hX (kr_58 hK) rfl hc7 d_Mo_count_314 rfl ?_
    refine sx_icmp_ge (tgt := 339) (pc2 := 318) hX d_Mo_count_315 (by decide) rfl (fun hc8 => ?_) (fun hc8 => ?_)
    · replace h := sx_t h hc8
      refine sx_iload_n (pc2 := 340) hX 1 d_Mo_count_339 rfl rfl rfl ?_
      exact sx_iret hX hE h d_Mo_count_340
    · replace h := sx_f h hc8
      refine sx_aload_n (pc2 := 319) hX 0 d_Mo_count_318 rfl rfl rfl ?_
      refine sx_iload_n (pc2 := 320) hX 2 d_Mo_count_319 rfl rfl rfl ?_
      refine sx_iconst (v := 4) (pc2 := 321) hX d_Mo_count_320 (by decide) rfl ?_
      refine cl_Mo_338 (pc2 := 324) hX hK h  ⟨Nat.le_of_ble_eq_true rfl, Nat.le_of_ble_eq_true rfl⟩ (Nat.le_of_ble_eq_true rfl) d_Mo_count_321 rfl (fun r9 σ9 τ9 h => ?_)
      refine sx_if_le (tgt := 333) (pc2 := 327) hX d_Mo_count_324 (by decide) rfl (fun hc10 => ?_) (fun hc10 => ?_)
      · replace h := sx_t h hc10
        exact g_Mo_count_b333 hX hK hE  ih v2 v3 _ _ h
      · replace h := sx_f h hc10
        refine sx_iload_n (pc2 := 328) hX 1 d_Mo_count_327 rfl rfl rfl ?_
        refine sx_iconst (v := 1) (pc2 := 329) hX d_Mo_count_328 (by decide) rfl ?_
        refine sx_iload_n (pc2 := 330) hX 2 d_Mo_count_329 rfl rfl rfl ?_
        refine sx_ishl (pc2 := 331) hX d_Mo_count_330 rfl ?_
        refine sx_ior (pc2 := 332) hX d_Mo_count_331 rfl ?_
        refine sx_istore_n (pc2 := 333) hX _ [(0, .ref (K.2.2.1 50 0 0)), (2, .int (v2 ||| (1 <<< (v3 &&& 31)))), (3, .int v3)] [1, 0, 2] d_Mo_count_332 rfl (by decide) rfl rfl rfl ?_
        exact g_Mo_count_b333 hX hK hE  ih (v2 ||| (1 <<< (v3 &&& 31))) v3 _ _ h
set_option maxRecDepth 100000 in
set_option maxHeartbeats 4000000 in
theorem g_Mo_count_b295 {l : Launch} {K : sx_K} {X : sx_T}  {k253 : Int32 → Int32 → sx_M → sx_L → Prop} {Q : Int32 → sx_M → sx_L → Prop} (hX : sx_C X K prog_13_method_106_code 4 "SensorTreeModel" (some .int) rm_Mo_count l) (hK : kx_F K) (hE : sx_E X K (sx_Qi K Q))  (hk253 : ∀ (v2 : Int32) (v3 : Int32) (σ : sx_M) (τ : sx_L) , k253 v2 v3 σ τ → sx_G X K 4 253 [(0, .ref (K.2.2.1 50 0 0)), (2, .int v2), (3, .int v3)] [] (sx_H K σ τ)) (v2 : Int32) (v3 : Int32) (σ : sx_M) (τ : sx_L)  (h : wp_Mo_count_b295 k253 Q  v2 v3 σ τ) : sx_G X K 4 295 [(0, .ref (K.2.2.1 50 0 0)), (2, .int v2), (3, .int v3)] [] (sx_H K σ τ) := by
  unfold wp_Mo_count_b295 at h
  refine sx_iinc (pc2 := 298) hX 2 _ [(0, .ref (K.2.2.1 50 0 0)), (2, .int v2), (3, .int (v3 + 1))] [1, 2, 0] d_Mo_count_295 rfl (v3 + 1) rfl (by decide) rfl rfl rfl ?_
  refine sx_goto (tgt := 253) hX d_Mo_count_298 (by decide) ?_
  exact hk253 v2 (v3 + 1) _ _ h
set_option maxRecDepth 100000 in
set_option maxHeartbeats 4000000 in
theorem g_Mo_count_b253 {l : Launch} {K : sx_K} {X : sx_T}   {Q : Int32 → sx_M → sx_L → Prop} (hX : sx_C X K prog_13_method_106_code 4 "SensorTreeModel" (some .int) rm_Mo_count l) (hK : kx_F K) (hE : sx_E X K (sx_Qi K Q))  : ∀ (f : Nat) (v2 : Int32) (v3 : Int32) (σ : sx_M) (τ : sx_L) , wp_Mo_count_b253 Q f v2 v3 σ τ → sx_G X K 4 253 [(0, .ref (K.2.2.1 50 0 0)), (2, .int v2), (3, .int v3)] [] (sx_H K σ τ) := by
  intro f
  induction f with
  | zero => intro v2 v3 σ τ h; exact (show False from h).elim
  | succ f ih =>
    intro v2 v3 σ τ h
    rw [wp_Mo_count_b253] at h
    refine sx_iload_n (pc2 := 254) hX 2 d_Mo_count_253 rfl rfl rfl ?_
    refine sx_aload_n (pc2 := 255) hX 0 d_Mo_count_254 rfl rfl rfl ?_
    refine fg_Mo_40 (pc2 := 258) hX (kr_50 hK) d_Mo_count_255 rfl ?_
    refine sx_aload_n (pc2 := 259) hX 0 d_Mo_count_258 rfl rfl rfl ?_
    refine fg_Mo_170 (pc2 := 262) hX (kr_50 hK) d_Mo_count_259 rfl ?_
    obtain ⟨hc11, h⟩ := h
    refine sx_iald (pc2 := 263) hX (kr_58 hK) rfl hc11 d_Mo_count_262 rfl ?_
    refine sx_icmp_ge (tgt := 301) (pc2 := 266) hX d_Mo_count_263 (by decide) rfl (fun hc12 => ?_) (fun hc12 => ?_)
    · replace h := sx_t h hc12
      refine sx_iload_n (pc2 := 302) hX 1 d_Mo_count_301 rfl rfl rfl ?_
      exact sx_iret hX hE h d_Mo_count_302
    · replace h := sx_f h hc12
      refine sx_aload_n (pc2 := 267) hX 0 d_Mo_count_266 rfl rfl rfl ?_
      refine sx_iload_n (pc2 := 268) hX 2 d_Mo_count_267 rfl rfl rfl ?_
      refine sx_iconst (v := 1) (pc2 := 269) hX d_Mo_count_268 (by decide) rfl ?_
      refine cl_Mo_338 (pc2 := 272) hX hK h  ⟨Nat.le_of_ble_eq_true rfl, Nat.le_of_ble_eq_true rfl⟩ (Nat.le_of_ble_eq_true rfl) d_Mo_count_269 rfl (fun r13 σ13 τ13 h => ?_)
      refine sx_sipush (v := 9999) (pc2 := 275) hX d_Mo_count_272 (by decide) rfl ?_
      refine sx_icmp_ge (tgt := 295) (pc2 := 278) hX d_Mo_count_275 (by decide) rfl (fun hc14 => ?_) (fun hc14 => ?_)
      · replace h := sx_t h hc14
        exact g_Mo_count_b295 hX hK hE  ih v2 v3 _ _ h
      · replace h := sx_f h hc14
        refine sx_aload_n (pc2 := 279) hX 0 d_Mo_count_278 rfl rfl rfl ?_
        refine sx_iload_n (pc2 := 280) hX 2 d_Mo_count_279 rfl rfl rfl ?_
        refine sx_iconst (v := 1) (pc2 := 281) hX d_Mo_count_280 (by decide) rfl ?_
        refine cl_Mo_338 (pc2 := 284) hX hK h  ⟨Nat.le_of_ble_eq_true rfl, Nat.le_of_ble_eq_true rfl⟩ (Nat.le_of_ble_eq_true rfl) d_Mo_count_281 rfl (fun r15 σ15 τ15 h => ?_)
        refine sx_iload_n (pc2 := 285) hX 1 d_Mo_count_284 rfl rfl rfl ?_
        refine sx_icmp_le (tgt := 295) (pc2 := 288) hX d_Mo_count_285 (by decide) rfl (fun hc16 => ?_) (fun hc16 => ?_)
        · replace h := sx_t h hc16
          exact g_Mo_count_b295 hX hK hE  ih v2 v3 _ _ h
        · replace h := sx_f h hc16
          refine sx_aload_n (pc2 := 289) hX 0 d_Mo_count_288 rfl rfl rfl ?_
          refine sx_iload_n (pc2 := 290) hX 2 d_Mo_count_289 rfl rfl rfl ?_
          refine sx_iconst (v := 1) (pc2 := 291) hX d_Mo_count_290 (by decide) rfl ?_
          refine cl_Mo_338 (pc2 := 294) hX hK h  ⟨Nat.le_of_ble_eq_true rfl, Nat.le_of_ble_eq_true rfl⟩ (Nat.le_of_ble_eq_true rfl) d_Mo_count_291 rfl (fun r17 σ17 τ17 h => ?_)
          refine sx_istore_n (pc2 := 295) hX _ [(0, .ref (K.2.2.1 50 0 0)), (2, .int r17), (3, .int v3)] [1, 0, 2] d_Mo_count_294 rfl (by decide) rfl rfl rfl ?_
          exact g_Mo_count_b295 hX hK hE  ih r17 v3 _ _ h
set_option maxRecDepth 100000 in
set_option maxHeartbeats 4000000 in
theorem g_Mo_count_b227 {l : Launch} {K : sx_K} {X : sx_T}   {Q : Int32 → sx_M → sx_L → Prop} (hX : sx_C X K prog_13_method_106_code 4 "SensorTreeModel" (some .int) rm_Mo_count l) (hK : kx_F K) (hE : sx_E X K (sx_Qi K Q))  (w0 : Int32) (w1 : Int32) (σ : sx_M) (τ : sx_L)  (h : wp_Mo_count_b227 Q  w0 w1 σ τ) : sx_G X K 4 227 [] [.int w1, .int w0] (sx_H K σ τ) := by
  unfold wp_Mo_count_b227 at h
  refine sx_iadd (pc2 := 228) hX d_Mo_count_227 rfl ?_
  exact sx_iret hX hE h d_Mo_count_228
set_option maxRecDepth 100000 in
set_option maxHeartbeats 4000000 in
theorem g_Mo_count_b212 {l : Launch} {K : sx_K} {X : sx_T}   {Q : Int32 → sx_M → sx_L → Prop} (hX : sx_C X K prog_13_method_106_code 4 "SensorTreeModel" (some .int) rm_Mo_count l) (hK : kx_F K) (hE : sx_E X K (sx_Qi K Q))  (w0 : Int32) (w1 : Int32) (σ : sx_M) (τ : sx_L)  (h : wp_Mo_count_b212 Q  w0 w1 σ τ) : sx_G X K 4 212 [(0, .ref (K.2.2.1 50 0 0))] [.int w1, .int w0] (sx_H K σ τ) := by
  unfold wp_Mo_count_b212 at h
  refine sx_iadd (pc2 := 213) hX d_Mo_count_212 rfl ?_
  refine sx_aload_n (pc2 := 214) hX 0 d_Mo_count_213 rfl rfl rfl ?_
  refine fg_Mo_86 (pc2 := 217) hX (kr_50 hK) d_Mo_count_214 rfl ?_
  refine sx_iconst (v := 2) (pc2 := 218) hX d_Mo_count_217 (by decide) rfl ?_
  obtain ⟨hc18, h⟩ := h
  refine sx_zald (pc2 := 219) hX (kr_73 hK) rfl hc18 d_Mo_count_218 rfl ?_
  refine sx_if_eq (tgt := 226) (pc2 := 222) hX d_Mo_count_219 (by decide) rfl (fun hc19 => ?_) (fun hc19 => ?_)
  · replace h := sx_t h hc19
    refine sx_iconst (v := 0) (pc2 := 227) hX d_Mo_count_226 (by decide) rfl ?_
    refine sx_sub [] [] rfl ?_
    exact g_Mo_count_b227 hX hK hE   (w0 + w1) 0 _ _ h
  · replace h := sx_f h hc19
    refine sx_iconst (v := 1) (pc2 := 223) hX d_Mo_count_222 (by decide) rfl ?_
    refine sx_goto (tgt := 227) hX d_Mo_count_223 (by decide) ?_
    refine sx_sub [] [] rfl ?_
    exact g_Mo_count_b227 hX hK hE   (w0 + w1) 1 _ _ h
set_option maxRecDepth 100000 in
set_option maxHeartbeats 4000000 in
theorem g_Mo_count_b198 {l : Launch} {K : sx_K} {X : sx_T}   {Q : Int32 → sx_M → sx_L → Prop} (hX : sx_C X K prog_13_method_106_code 4 "SensorTreeModel" (some .int) rm_Mo_count l) (hK : kx_F K) (hE : sx_E X K (sx_Qi K Q))  (w0 : Int32) (σ : sx_M) (τ : sx_L)  (h : wp_Mo_count_b198 Q  w0 σ τ) : sx_G X K 4 198 [(0, .ref (K.2.2.1 50 0 0))] [.int w0] (sx_H K σ τ) := by
  unfold wp_Mo_count_b198 at h
  refine sx_aload_n (pc2 := 199) hX 0 d_Mo_count_198 rfl rfl rfl ?_
  refine fg_Mo_86 (pc2 := 202) hX (kr_50 hK) d_Mo_count_199 rfl ?_
  refine sx_iconst (v := 1) (pc2 := 203) hX d_Mo_count_202 (by decide) rfl ?_
  obtain ⟨hc20, h⟩ := h
  refine sx_zald (pc2 := 204) hX (kr_73 hK) rfl hc20 d_Mo_count_203 rfl ?_
  refine sx_if_eq (tgt := 211) (pc2 := 207) hX d_Mo_count_204 (by decide) rfl (fun hc21 => ?_) (fun hc21 => ?_)
  · replace h := sx_t h hc21
    refine sx_iconst (v := 0) (pc2 := 212) hX d_Mo_count_211 (by decide) rfl ?_
    exact g_Mo_count_b212 hX hK hE   w0 0 _ _ h
  · replace h := sx_f h hc21
    refine sx_iconst (v := 1) (pc2 := 208) hX d_Mo_count_207 (by decide) rfl ?_
    refine sx_goto (tgt := 212) hX d_Mo_count_208 (by decide) ?_
    exact g_Mo_count_b212 hX hK hE   w0 1 _ _ h
set_option maxRecDepth 100000 in
set_option maxHeartbeats 4000000 in
theorem g_Mo_count_b158 {l : Launch} {K : sx_K} {X : sx_T}  {k136 : Int32 → Int32 → sx_M → sx_L → Prop} {Q : Int32 → sx_M → sx_L → Prop} (hX : sx_C X K prog_13_method_106_code 4 "SensorTreeModel" (some .int) rm_Mo_count l) (hK : kx_F K) (hE : sx_E X K (sx_Qi K Q))  (hk136 : ∀ (v2 : Int32) (v3 : Int32) (σ : sx_M) (τ : sx_L) , k136 v2 v3 σ τ → sx_G X K 4 136 [(0, .ref (K.2.2.1 50 0 0)), (2, .int v2), (3, .int v3)] [] (sx_H K σ τ)) (v2 : Int32) (v3 : Int32) (σ : sx_M) (τ : sx_L)  (h : wp_Mo_count_b158 k136 Q  v2 v3 σ τ) : sx_G X K 4 158 [(0, .ref (K.2.2.1 50 0 0)), (2, .int v2), (3, .int v3)] [] (sx_H K σ τ) := by
  unfold wp_Mo_count_b158 at h
  refine sx_iinc (pc2 := 161) hX 2 _ [(0, .ref (K.2.2.1 50 0 0)), (2, .int v2), (3, .int (v3 + 1))] [1, 2, 0] d_Mo_count_158 rfl (v3 + 1) rfl (by decide) rfl rfl rfl ?_
  refine sx_goto (tgt := 136) hX d_Mo_count_161 (by decide) ?_
  exact hk136 v2 (v3 + 1) _ _ h
set_option maxRecDepth 100000 in
set_option maxHeartbeats 4000000 in
theorem g_Mo_count_b136 {l : Launch} {K : sx_K} {X : sx_T}   {Q : Int32 → sx_M → sx_L → Prop} (hX : sx_C X K prog_13_method_106_code 4 "SensorTreeModel" (some .int) rm_Mo_count l) (hK : kx_F K) (hE : sx_E X K (sx_Qi K Q))  : ∀ (f : Nat) (v2 : Int32) (v3 : Int32) (σ : sx_M) (τ : sx_L) , wp_Mo_count_b136 Q f v2 v3 σ τ → sx_G X K 4 136 [(0, .ref (K.2.2.1 50 0 0)), (2, .int v2), (3, .int v3)] [] (sx_H K σ τ) := by
  intro f
  induction f with
  | zero => intro v2 v3 σ τ h; exact (show False from h).elim
  | succ f ih =>
    intro v2 v3 σ τ h
    rw [wp_Mo_count_b136] at h
    refine sx_iload_n (pc2 := 137) hX 2 d_Mo_count_136 rfl rfl rfl ?_
    refine sx_bipush (v := 49) (pc2 := 139) hX d_Mo_count_137 (by decide) rfl ?_
    refine sx_icmp_ge (tgt := 164) (pc2 := 142) hX d_Mo_count_139 (by decide) rfl (fun hc22 => ?_) (fun hc22 => ?_)
    · replace h := sx_t h hc22
      refine sx_iload_n (pc2 := 165) hX 1 d_Mo_count_164 rfl rfl rfl ?_
      exact sx_iret hX hE h d_Mo_count_165
    · replace h := sx_f h hc22
      refine sx_aload_n (pc2 := 143) hX 0 d_Mo_count_142 rfl rfl rfl ?_
      refine fg_Mo_68 (pc2 := 146) hX (kr_50 hK) d_Mo_count_143 rfl ?_
      refine sx_sipush (v := 145) (pc2 := 149) hX d_Mo_count_146 (by decide) rfl ?_
      refine sx_iload_n (pc2 := 150) hX 2 d_Mo_count_149 rfl rfl rfl ?_
      refine sx_iadd (pc2 := 151) hX d_Mo_count_150 rfl ?_
      obtain ⟨hc23, h⟩ := h
      refine sx_iald (pc2 := 152) hX (kr_67 hK) rfl hc23 d_Mo_count_151 rfl ?_
      refine sx_if_lt (tgt := 158) (pc2 := 155) hX d_Mo_count_152 (by decide) rfl (fun hc24 => ?_) (fun hc24 => ?_)
      · replace h := sx_t h hc24
        exact g_Mo_count_b158 hX hK hE  ih v2 v3 _ _ h
      · replace h := sx_f h hc24
        refine sx_iinc (pc2 := 158) hX 1 _ [(0, .ref (K.2.2.1 50 0 0)), (2, .int (v2 + 1)), (3, .int v3)] [1, 0, 2] d_Mo_count_155 rfl (v2 + 1) rfl (by decide) rfl rfl rfl ?_
        exact g_Mo_count_b158 hX hK hE  ih (v2 + 1) v3 _ _ h
set_option maxRecDepth 100000 in
set_option maxHeartbeats 4000000 in
theorem g_Mo_count_b123 {l : Launch} {K : sx_K} {X : sx_T}   {Q : Int32 → sx_M → sx_L → Prop} (hX : sx_C X K prog_13_method_106_code 4 "SensorTreeModel" (some .int) rm_Mo_count l) (hK : kx_F K) (hE : sx_E X K (sx_Qi K Q))  (v1 : Int32) (σ : sx_M) (τ : sx_L)  (h : wp_Mo_count_b123 Q  v1 σ τ) : sx_G X K 4 123 [(0, .ref (K.2.2.1 50 0 0)), (1, .int v1)] [] (sx_H K σ τ) := by
  unfold wp_Mo_count_b123 at h
  refine sx_aload_n (pc2 := 124) hX 0 d_Mo_count_123 rfl rfl rfl ?_
  refine fg_Mo_68 (pc2 := 127) hX (kr_50 hK) d_Mo_count_124 rfl ?_
  refine sx_iconst (v := 1) (pc2 := 128) hX d_Mo_count_127 (by decide) rfl ?_
  refine sx_iload_n (pc2 := 129) hX 1 d_Mo_count_128 rfl rfl rfl ?_
  refine sx_iadd (pc2 := 130) hX d_Mo_count_129 rfl ?_
  refine sx_iconst (v := 4) (pc2 := 131) hX d_Mo_count_130 (by decide) rfl ?_
  refine sx_isub (pc2 := 132) hX d_Mo_count_131 rfl ?_
  obtain ⟨hc25, h⟩ := h
  refine sx_iald (pc2 := 133) hX (kr_67 hK) rfl hc25 d_Mo_count_132 rfl ?_
  exact sx_iret hX hE h d_Mo_count_133
set_option maxRecDepth 100000 in
set_option maxHeartbeats 4000000 in
theorem c_Mo_count {l : Launch} {K : sx_K} (hK : kx_F K) (x1 : Int32) (σ : sx_M) (τ : sx_L) (Q : Int32 → sx_M → sx_L → Prop)  (h : wp_Mo_count x1 σ τ Q) : Met l y_Mo_count (sx_wd y_Mo_count prog_13_method_106_code 4 (some .int)) rm_Mo_count (sx_Pc K [.ref (K.2.2.1 50 0 0), .int x1] σ τ) (sx_Qi K Q) 0 0 (sx_A K) := by
  refine sx_met (by decide) (Nat.le_of_ble_eq_true rfl) (fun X hX hE => ?_)
  replace hX : sx_C X K prog_13_method_106_code 4 "SensorTreeModel" (some .int) rm_Mo_count l := hX
  show sx_G X K 4 0 [(0, .ref (K.2.2.1 50 0 0)), (1, .int x1)] [] (sx_H K σ τ)
  unfold wp_Mo_count at h
  refine sx_iconst (v := 0) (pc2 := 1) hX d_Mo_count_0 (by decide) rfl ?_
  refine sx_istore_n (pc2 := 2) hX _ [(0, .ref (K.2.2.1 50 0 0)), (1, .int x1), (2, .int 0)] [1, 2, 0] d_Mo_count_1 rfl (by decide) rfl rfl rfl ?_
  refine sx_iload_n (pc2 := 3) hX 1 d_Mo_count_2 rfl rfl rfl ?_
  by_cases hc26 : x1 = 0
  · replace h := sx_t h hc26
    refine sx_swi (tgt := 88) hX 0 hc26 d_Mo_count_3 (by decide) (by decide) rfl (by decide) ?_
    refine sx_aload_n (pc2 := 89) hX 0 d_Mo_count_88 rfl rfl rfl ?_
    refine fg_Mo_40 (pc2 := 92) hX (kr_50 hK) d_Mo_count_89 rfl ?_
    refine sx_aload_n (pc2 := 93) hX 0 d_Mo_count_92 rfl rfl rfl ?_
    refine fg_Mo_170 (pc2 := 96) hX (kr_50 hK) d_Mo_count_93 rfl ?_
    obtain ⟨hc27, h⟩ := h
    refine sx_iald (pc2 := 97) hX (kr_58 hK) rfl hc27 d_Mo_count_96 rfl ?_
    exact sx_iret hX hE h d_Mo_count_97
  · replace h := sx_f h hc26
    by_cases hc28 : x1 = 1
    · replace h := sx_t h hc28
      refine sx_swi (tgt := 98) hX 1 hc28 d_Mo_count_3 (by decide) (by decide) rfl (by decide) ?_
      refine sx_aload_n (pc2 := 99) hX 0 d_Mo_count_98 rfl rfl rfl ?_
      refine fg_Mo_43 (pc2 := 102) hX (kr_50 hK) d_Mo_count_99 rfl ?_
      refine sx_aload_n (pc2 := 103) hX 0 d_Mo_count_102 rfl rfl rfl ?_
      refine fg_Mo_170 (pc2 := 106) hX (kr_50 hK) d_Mo_count_103 rfl ?_
      obtain ⟨hc29, h⟩ := h
      refine sx_iald (pc2 := 107) hX (kr_59 hK) rfl hc29 d_Mo_count_106 rfl ?_
      exact sx_iret hX hE h d_Mo_count_107
    · replace h := sx_f h hc28
      by_cases hc30 : x1 = 2
      · replace h := sx_t h hc30
        refine sx_swi (tgt := 108) hX 2 hc30 d_Mo_count_3 (by decide) (by decide) rfl (by decide) ?_
        refine sx_aload_n (pc2 := 109) hX 0 d_Mo_count_108 rfl rfl rfl ?_
        refine fg_Mo_68 (pc2 := 112) hX (kr_50 hK) d_Mo_count_109 rfl ?_
        refine sx_iconst (v := 0) (pc2 := 113) hX d_Mo_count_112 (by decide) rfl ?_
        obtain ⟨hc31, h⟩ := h
        refine sx_iald (pc2 := 114) hX (kr_67 hK) rfl hc31 d_Mo_count_113 rfl ?_
        exact sx_iret hX hE h d_Mo_count_114
      · replace h := sx_f h hc30
        by_cases hc32 : x1 = 3
        · replace h := sx_t h hc32
          refine sx_swi (tgt := 115) hX 3 hc32 d_Mo_count_3 (by decide) (by decide) rfl (by decide) ?_
          refine sx_aload_n (pc2 := 116) hX 0 d_Mo_count_115 rfl rfl rfl ?_
          refine fg_Mo_68 (pc2 := 119) hX (kr_50 hK) d_Mo_count_116 rfl ?_
          refine sx_bipush (v := 7) (pc2 := 121) hX d_Mo_count_119 (by decide) rfl ?_
          obtain ⟨hc33, h⟩ := h
          refine sx_iald (pc2 := 122) hX (kr_67 hK) rfl hc33 d_Mo_count_121 rfl ?_
          exact sx_iret hX hE h d_Mo_count_122
        · replace h := sx_f h hc32
          by_cases hc34 : x1 = 4
          · replace h := sx_t h hc34
            refine sx_swi (tgt := 123) hX 4 hc34 d_Mo_count_3 (by decide) (by decide) rfl (by decide) ?_
            refine sx_sub [(0, .ref (K.2.2.1 50 0 0)), (1, .int x1)] [0, 1] rfl ?_
            exact g_Mo_count_b123 hX hK hE   x1 _ _ h
          · replace h := sx_f h hc34
            by_cases hc35 : x1 = 5
            · replace h := sx_t h hc35
              refine sx_swi (tgt := 123) hX 5 hc35 d_Mo_count_3 (by decide) (by decide) rfl (by decide) ?_
              refine sx_sub [(0, .ref (K.2.2.1 50 0 0)), (1, .int x1)] [0, 1] rfl ?_
              exact g_Mo_count_b123 hX hK hE   x1 _ _ h
            · replace h := sx_f h hc35
              by_cases hc36 : x1 = 6
              · replace h := sx_t h hc36
                refine sx_swi (tgt := 123) hX 6 hc36 d_Mo_count_3 (by decide) (by decide) rfl (by decide) ?_
                refine sx_sub [(0, .ref (K.2.2.1 50 0 0)), (1, .int x1)] [0, 1] rfl ?_
                exact g_Mo_count_b123 hX hK hE   x1 _ _ h
              · replace h := sx_f h hc36
                by_cases hc37 : x1 = 7
                · replace h := sx_t h hc37
                  refine sx_swi (tgt := 134) hX 7 hc37 d_Mo_count_3 (by decide) (by decide) rfl (by decide) ?_
                  refine sx_iconst (v := 0) (pc2 := 135) hX d_Mo_count_134 (by decide) rfl ?_
                  refine sx_istore_n (pc2 := 136) hX _ [(0, .ref (K.2.2.1 50 0 0)), (1, .int x1), (2, .int 0), (3, .int 0)] [1, 2, 3, 0] d_Mo_count_135 rfl (by decide) rfl rfl rfl ?_
                  refine sx_sub [(0, .ref (K.2.2.1 50 0 0)), (2, .int 0), (3, .int 0)] [0, 2, 3] rfl ?_
                  obtain ⟨f136, h⟩ := h
                  exact g_Mo_count_b136 hX hK hE   f136 0 0 _ _ h
                · replace h := sx_f h hc37
                  by_cases hc38 : x1 = 8
                  · replace h := sx_t h hc38
                    refine sx_swi (tgt := 166) hX 8 hc38 d_Mo_count_3 (by decide) (by decide) rfl (by decide) ?_
                    refine sx_aload_n (pc2 := 167) hX 0 d_Mo_count_166 rfl rfl rfl ?_
                    refine fg_Mo_106 (pc2 := 170) hX (kr_50 hK) d_Mo_count_167 rfl ?_
                    exact sx_iret hX hE h d_Mo_count_170
                  · replace h := sx_f h hc38
                    by_cases hc39 : x1 = 9
                    · replace h := sx_t h hc39
                      refine sx_swi (tgt := 171) hX 9 hc39 d_Mo_count_3 (by decide) (by decide) rfl (by decide) ?_
                      refine sx_aload_n (pc2 := 172) hX 0 d_Mo_count_171 rfl rfl rfl ?_
                      refine fg_Mo_179 (pc2 := 175) hX (kr_50 hK) d_Mo_count_172 rfl ?_
                      exact sx_iret hX hE h d_Mo_count_175
                    · replace h := sx_f h hc39
                      by_cases hc40 : x1 = 10
                      · replace h := sx_t h hc40
                        refine sx_swi (tgt := 176) hX 10 hc40 d_Mo_count_3 (by decide) (by decide) rfl (by decide) ?_
                        refine sx_aload_n (pc2 := 177) hX 0 d_Mo_count_176 rfl rfl rfl ?_
                        refine fg_Mo_68 (pc2 := 180) hX (kr_50 hK) d_Mo_count_177 rfl ?_
                        refine sx_bipush (v := 9) (pc2 := 182) hX d_Mo_count_180 (by decide) rfl ?_
                        obtain ⟨hc41, h⟩ := h
                        refine sx_iald (pc2 := 183) hX (kr_67 hK) rfl hc41 d_Mo_count_182 rfl ?_
                        exact sx_iret hX hE h d_Mo_count_183
                      · replace h := sx_f h hc40
                        by_cases hc42 : x1 = 11
                        · replace h := sx_t h hc42
                          refine sx_swi (tgt := 184) hX 11 hc42 d_Mo_count_3 (by decide) (by decide) rfl (by decide) ?_
                          refine sx_aload_n (pc2 := 185) hX 0 d_Mo_count_184 rfl rfl rfl ?_
                          refine fg_Mo_86 (pc2 := 188) hX (kr_50 hK) d_Mo_count_185 rfl ?_
                          refine sx_iconst (v := 0) (pc2 := 189) hX d_Mo_count_188 (by decide) rfl ?_
                          obtain ⟨hc43, h⟩ := h
                          refine sx_zald (pc2 := 190) hX (kr_73 hK) rfl hc43 d_Mo_count_189 rfl ?_
                          refine sx_if_eq (tgt := 197) (pc2 := 193) hX d_Mo_count_190 (by decide) rfl (fun hc44 => ?_) (fun hc44 => ?_)
                          · replace h := sx_t h hc44
                            refine sx_iconst (v := 0) (pc2 := 198) hX d_Mo_count_197 (by decide) rfl ?_
                            refine sx_sub [(0, .ref (K.2.2.1 50 0 0))] [0] rfl ?_
                            exact g_Mo_count_b198 hX hK hE   0 _ _ h
                          · replace h := sx_f h hc44
                            refine sx_iconst (v := 1) (pc2 := 194) hX d_Mo_count_193 (by decide) rfl ?_
                            refine sx_goto (tgt := 198) hX d_Mo_count_194 (by decide) ?_
                            refine sx_sub [(0, .ref (K.2.2.1 50 0 0))] [0] rfl ?_
                            exact g_Mo_count_b198 hX hK hE   1 _ _ h
                        · replace h := sx_f h hc42
                          by_cases hc45 : x1 = 12
                          · replace h := sx_t h hc45
                            refine sx_swi (tgt := 229) hX 12 hc45 d_Mo_count_3 (by decide) (by decide) rfl (by decide) ?_
                            refine sx_aload_n (pc2 := 230) hX 0 d_Mo_count_229 rfl rfl rfl ?_
                            refine fg_Mo_68 (pc2 := 233) hX (kr_50 hK) d_Mo_count_230 rfl ?_
                            refine sx_iconst (v := 4) (pc2 := 234) hX d_Mo_count_233 (by decide) rfl ?_
                            obtain ⟨hc46, h⟩ := h
                            refine sx_iald (pc2 := 235) hX (kr_67 hK) rfl hc46 d_Mo_count_234 rfl ?_
                            exact sx_iret hX hE h d_Mo_count_235
                          · replace h := sx_f h hc45
                            by_cases hc47 : x1 = 13
                            · replace h := sx_t h hc47
                              refine sx_swi (tgt := 236) hX 13 hc47 d_Mo_count_3 (by decide) (by decide) rfl (by decide) ?_
                              refine sx_aload_n (pc2 := 237) hX 0 d_Mo_count_236 rfl rfl rfl ?_
                              refine fg_Mo_68 (pc2 := 240) hX (kr_50 hK) d_Mo_count_237 rfl ?_
                              refine sx_iconst (v := 5) (pc2 := 241) hX d_Mo_count_240 (by decide) rfl ?_
                              obtain ⟨hc48, h⟩ := h
                              refine sx_iald (pc2 := 242) hX (kr_67 hK) rfl hc48 d_Mo_count_241 rfl ?_
                              exact sx_iret hX hE h d_Mo_count_242
                            · replace h := sx_f h hc47
                              by_cases hc49 : x1 = 14
                              · replace h := sx_t h hc49
                                refine sx_swi (tgt := 243) hX 14 hc49 d_Mo_count_3 (by decide) (by decide) rfl (by decide) ?_
                                refine sx_aload_n (pc2 := 244) hX 0 d_Mo_count_243 rfl rfl rfl ?_
                                refine fg_Mo_68 (pc2 := 247) hX (kr_50 hK) d_Mo_count_244 rfl ?_
                                refine sx_bipush (v := 6) (pc2 := 249) hX d_Mo_count_247 (by decide) rfl ?_
                                obtain ⟨hc50, h⟩ := h
                                refine sx_iald (pc2 := 250) hX (kr_67 hK) rfl hc50 d_Mo_count_249 rfl ?_
                                exact sx_iret hX hE h d_Mo_count_250
                              · replace h := sx_f h hc49
                                by_cases hc51 : x1 = 15
                                · replace h := sx_t h hc51
                                  refine sx_swi (tgt := 251) hX 15 hc51 d_Mo_count_3 (by decide) (by decide) rfl (by decide) ?_
                                  refine sx_iconst (v := 0) (pc2 := 252) hX d_Mo_count_251 (by decide) rfl ?_
                                  refine sx_istore_n (pc2 := 253) hX _ [(0, .ref (K.2.2.1 50 0 0)), (1, .int x1), (2, .int 0), (3, .int 0)] [1, 2, 3, 0] d_Mo_count_252 rfl (by decide) rfl rfl rfl ?_
                                  refine sx_sub [(0, .ref (K.2.2.1 50 0 0)), (2, .int 0), (3, .int 0)] [0, 2, 3] rfl ?_
                                  obtain ⟨f253, h⟩ := h
                                  exact g_Mo_count_b253 hX hK hE   f253 0 0 _ _ h
                                · replace h := sx_f h hc51
                                  by_cases hc52 : x1 = 16
                                  · replace h := sx_t h hc52
                                    refine sx_swi (tgt := 303) hX 16 hc52 d_Mo_count_3 (by decide) (by decide) rfl (by decide) ?_
                                    refine sx_iconst (v := 0) (pc2 := 304) hX d_Mo_count_303 (by decide) rfl ?_
                                    refine sx_istore_n (pc2 := 305) hX _ [(0, .ref (K.2.2.1 50 0 0)), (1, .int x1), (2, .int 0), (3, .int 0)] [1, 2, 3, 0] d_Mo_count_304 rfl (by decide) rfl rfl rfl ?_
                                    refine sx_sub [(0, .ref (K.2.2.1 50 0 0)), (2, .int 0), (3, .int 0)] [0, 2, 3] rfl ?_
                                    obtain ⟨f305, h⟩ := h
                                    exact g_Mo_count_b305 hX hK hE   f305 0 0 _ _ h
                                  · replace h := sx_f h hc52
                                    by_cases hc53 : x1 = 17
                                    · replace h := sx_t h hc53
                                      refine sx_swi (tgt := 341) hX 17 hc53 d_Mo_count_3 (by decide) (by decide) rfl (by decide) ?_
                                      refine sx_iconst (v := 1) (pc2 := 342) hX d_Mo_count_341 (by decide) rfl ?_
                                      refine sx_istore_n (pc2 := 343) hX _ [(0, .ref (K.2.2.1 50 0 0)), (1, .int x1), (2, .int 0), (3, .int 1)] [1, 2, 3, 0] d_Mo_count_342 rfl (by decide) rfl rfl rfl ?_
                                      refine sx_sub [(0, .ref (K.2.2.1 50 0 0)), (2, .int 0), (3, .int 1)] [0, 2, 3] rfl ?_
                                      obtain ⟨f343, h⟩ := h
                                      exact g_Mo_count_b343 hX hK hE   f343 0 1 _ _ h
                                    · replace h := sx_f h hc53
                                      refine sx_swo (tgt := 387) hX d_Mo_count_3 (sx_out x1 17 (fun j hj => match j, hj with | 0, _ => hc26 | 1, _ => hc28 | 2, _ => hc30 | 3, _ => hc32 | 4, _ => hc34 | 5, _ => hc35 | 6, _ => hc36 | 7, _ => hc37 | 8, _ => hc38 | 9, _ => hc39 | 10, _ => hc40 | 11, _ => hc42 | 12, _ => hc45 | 13, _ => hc47 | 14, _ => hc49 | 15, _ => hc51 | 16, _ => hc52 | 17, _ => hc53 | j + 18, hj => absurd hj (by omega)) (by decide)) (by decide) ?_
                                      refine sx_iconst (v := (-1)) (pc2 := 388) hX d_Mo_count_387 (by decide) rfl ?_
                                      exact sx_iret hX hE h d_Mo_count_388
