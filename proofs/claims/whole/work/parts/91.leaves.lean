theorem d_Ta_init_0 : decode prog_9_method_1_code 0 = .ok (.aload_n 0, 1) := by decide +kernel
theorem d_Ta_init_1 : decode prog_9_method_1_code 1 = .ok (.invokespecial 3, 3) := by decide +kernel
theorem d_Ta_init_4 : decode prog_9_method_1_code 4 = .ok (.aload_n 0, 1) := by decide +kernel
theorem d_Ta_init_5 : decode prog_9_method_1_code 5 = .ok (.sipush 2000, 3) := by decide +kernel
theorem d_Ta_init_8 : decode prog_9_method_1_code 8 = .ok (.newarray .byte, 2) := by decide +kernel
theorem d_Ta_init_10 : decode prog_9_method_1_code 10 = .ok (.putfield 9, 3) := by decide +kernel
theorem d_Ta_init_13 : decode prog_9_method_1_code 13 = .ok (.aload_n 0, 1) := by decide +kernel
theorem d_Ta_init_14 : decode prog_9_method_1_code 14 = .ok (.iconst 0, 1) := by decide +kernel
theorem d_Ta_init_15 : decode prog_9_method_1_code 15 = .ok (.putfield 15, 3) := by decide +kernel
theorem d_Ta_init_18 : decode prog_9_method_1_code 18 = .ok (.return_, 1) := by decide +kernel
def y_Ta_init : MethodName := ⟨"SensorTree$Tape", "<init>", "()V"⟩
theorem hy_Ta_init : y_Ta_init.cls ≠ "java/lang/invoke/MethodHandle" ∧ y_Ta_init.cls ≠ "java/lang/invoke/VarHandle" ∧ (parseMethodDescriptor y_Ta_init.desc).map (fun d => d.parameters.length) = some 0 := by decide +kernel
abbrev rm_Ta_init : Room := { frames := 1, cells := 1, slots := 2000, locals := 13 }
theorem d_Ma_init_0 : decode prog_4_method_1_code 0 = .ok (.aload_n 0, 1) := by decide +kernel
theorem d_Ma_init_1 : decode prog_4_method_1_code 1 = .ok (.invokespecial 1, 3) := by decide +kernel
theorem d_Ma_init_4 : decode prog_4_method_1_code 4 = .ok (.aload_n 0, 1) := by decide +kernel
theorem d_Ma_init_5 : decode prog_4_method_1_code 5 = .ok (.iconst 0, 1) := by decide +kernel
theorem d_Ma_init_6 : decode prog_4_method_1_code 6 = .ok (.putfield 7, 3) := by decide +kernel
theorem d_Ma_init_9 : decode prog_4_method_1_code 9 = .ok (.aload_n 0, 1) := by decide +kernel
theorem d_Ma_init_10 : decode prog_4_method_1_code 10 = .ok (.sipush 200, 3) := by decide +kernel
theorem d_Ma_init_13 : decode prog_4_method_1_code 13 = .ok (.newarray .int, 2) := by decide +kernel
theorem d_Ma_init_15 : decode prog_4_method_1_code 15 = .ok (.putfield 13, 3) := by decide +kernel
theorem d_Ma_init_18 : decode prog_4_method_1_code 18 = .ok (.aload_n 0, 1) := by decide +kernel
theorem d_Ma_init_19 : decode prog_4_method_1_code 19 = .ok (.sipush 200, 3) := by decide +kernel
theorem d_Ma_init_22 : decode prog_4_method_1_code 22 = .ok (.newarray .int, 2) := by decide +kernel
theorem d_Ma_init_24 : decode prog_4_method_1_code 24 = .ok (.putfield 17, 3) := by decide +kernel
theorem d_Ma_init_27 : decode prog_4_method_1_code 27 = .ok (.aload_n 0, 1) := by decide +kernel
theorem d_Ma_init_28 : decode prog_4_method_1_code 28 = .ok (.sipush 200, 3) := by decide +kernel
theorem d_Ma_init_31 : decode prog_4_method_1_code 31 = .ok (.newarray .int, 2) := by decide +kernel
theorem d_Ma_init_33 : decode prog_4_method_1_code 33 = .ok (.putfield 20, 3) := by decide +kernel
theorem d_Ma_init_36 : decode prog_4_method_1_code 36 = .ok (.aload_n 0, 1) := by decide +kernel
theorem d_Ma_init_37 : decode prog_4_method_1_code 37 = .ok (.sipush 200, 3) := by decide +kernel
theorem d_Ma_init_40 : decode prog_4_method_1_code 40 = .ok (.newarray .int, 2) := by decide +kernel
theorem d_Ma_init_42 : decode prog_4_method_1_code 42 = .ok (.putfield 23, 3) := by decide +kernel
theorem d_Ma_init_45 : decode prog_4_method_1_code 45 = .ok (.aload_n 0, 1) := by decide +kernel
theorem d_Ma_init_46 : decode prog_4_method_1_code 46 = .ok (.sipush 200, 3) := by decide +kernel
theorem d_Ma_init_49 : decode prog_4_method_1_code 49 = .ok (.newarray .int, 2) := by decide +kernel
theorem d_Ma_init_51 : decode prog_4_method_1_code 51 = .ok (.putfield 26, 3) := by decide +kernel
theorem d_Ma_init_54 : decode prog_4_method_1_code 54 = .ok (.aload_n 0, 1) := by decide +kernel
theorem d_Ma_init_55 : decode prog_4_method_1_code 55 = .ok (.sipush 200, 3) := by decide +kernel
theorem d_Ma_init_58 : decode prog_4_method_1_code 58 = .ok (.newarray .int, 2) := by decide +kernel
theorem d_Ma_init_60 : decode prog_4_method_1_code 60 = .ok (.putfield 29, 3) := by decide +kernel
theorem d_Ma_init_63 : decode prog_4_method_1_code 63 = .ok (.return_, 1) := by decide +kernel
def y_Ma_init : MethodName := ⟨"SensorTree$Mail", "<init>", "()V"⟩
theorem hy_Ma_init : y_Ma_init.cls ≠ "java/lang/invoke/MethodHandle" ∧ y_Ma_init.cls ≠ "java/lang/invoke/VarHandle" ∧ (parseMethodDescriptor y_Ma_init.desc).map (fun d => d.parameters.length) = some 0 := by decide +kernel
abbrev rm_Ma_init : Room := { frames := 1, cells := 6, slots := 1200, locals := 13 }
theorem d_Po_init_0 : decode prog_7_method_1_code 0 = .ok (.aload_n 0, 1) := by decide +kernel
theorem d_Po_init_1 : decode prog_7_method_1_code 1 = .ok (.invokespecial 3, 3) := by decide +kernel
theorem d_Po_init_4 : decode prog_7_method_1_code 4 = .ok (.aload_n 0, 1) := by decide +kernel
theorem d_Po_init_5 : decode prog_7_method_1_code 5 = .ok (.bipush 7, 2) := by decide +kernel
theorem d_Po_init_7 : decode prog_7_method_1_code 7 = .ok (.newarray .int, 2) := by decide +kernel
theorem d_Po_init_9 : decode prog_7_method_1_code 9 = .ok (.putfield 9, 3) := by decide +kernel
theorem d_Po_init_12 : decode prog_7_method_1_code 12 = .ok (.aload_n 0, 1) := by decide +kernel
theorem d_Po_init_13 : decode prog_7_method_1_code 13 = .ok (.bipush 7, 2) := by decide +kernel
theorem d_Po_init_15 : decode prog_7_method_1_code 15 = .ok (.newarray .int, 2) := by decide +kernel
theorem d_Po_init_17 : decode prog_7_method_1_code 17 = .ok (.putfield 15, 3) := by decide +kernel
theorem d_Po_init_20 : decode prog_7_method_1_code 20 = .ok (.aload_n 0, 1) := by decide +kernel
theorem d_Po_init_21 : decode prog_7_method_1_code 21 = .ok (.bipush 7, 2) := by decide +kernel
theorem d_Po_init_23 : decode prog_7_method_1_code 23 = .ok (.newarray .int, 2) := by decide +kernel
theorem d_Po_init_25 : decode prog_7_method_1_code 25 = .ok (.putfield 18, 3) := by decide +kernel
theorem d_Po_init_28 : decode prog_7_method_1_code 28 = .ok (.return_, 1) := by decide +kernel
def y_Po_init : MethodName := ⟨"SensorTree$Post", "<init>", "()V"⟩
theorem hy_Po_init : y_Po_init.cls ≠ "java/lang/invoke/MethodHandle" ∧ y_Po_init.cls ≠ "java/lang/invoke/VarHandle" ∧ (parseMethodDescriptor y_Po_init.desc).map (fun d => d.parameters.length) = some 0 := by decide +kernel
abbrev rm_Po_init : Room := { frames := 1, cells := 3, slots := 21, locals := 13 }
theorem d_Tr_init_0 : decode prog_11_method_1_code 0 = .ok (.aload_n 0, 1) := by decide +kernel
theorem d_Tr_init_1 : decode prog_11_method_1_code 1 = .ok (.invokespecial 3, 3) := by decide +kernel
theorem d_Tr_init_4 : decode prog_11_method_1_code 4 = .ok (.aload_n 0, 1) := by decide +kernel
theorem d_Tr_init_5 : decode prog_11_method_1_code 5 = .ok (.bipush 7, 2) := by decide +kernel
theorem d_Tr_init_7 : decode prog_11_method_1_code 7 = .ok (.newarray .int, 2) := by decide +kernel
theorem d_Tr_init_9 : decode prog_11_method_1_code 9 = .ok (.putfield 9, 3) := by decide +kernel
theorem d_Tr_init_12 : decode prog_11_method_1_code 12 = .ok (.return_, 1) := by decide +kernel
def y_Tr_init : MethodName := ⟨"SensorTree$Truth", "<init>", "()V"⟩
theorem hy_Tr_init : y_Tr_init.cls ≠ "java/lang/invoke/MethodHandle" ∧ y_Tr_init.cls ≠ "java/lang/invoke/VarHandle" ∧ (parseMethodDescriptor y_Tr_init.desc).map (fun d => d.parameters.length) = some 0 := by decide +kernel
abbrev rm_Tr_init : Room := { frames := 1, cells := 1, slots := 7, locals := 13 }
theorem d_Jo_init_0 : decode prog_3_method_1_code 0 = .ok (.aload_n 0, 1) := by decide +kernel
theorem d_Jo_init_1 : decode prog_3_method_1_code 1 = .ok (.invokespecial 3, 3) := by decide +kernel
theorem d_Jo_init_4 : decode prog_3_method_1_code 4 = .ok (.aload_n 0, 1) := by decide +kernel
theorem d_Jo_init_5 : decode prog_3_method_1_code 5 = .ok (.bipush 20, 2) := by decide +kernel
theorem d_Jo_init_7 : decode prog_3_method_1_code 7 = .ok (.newarray .int, 2) := by decide +kernel
theorem d_Jo_init_9 : decode prog_3_method_1_code 9 = .ok (.putfield 11, 3) := by decide +kernel
theorem d_Jo_init_12 : decode prog_3_method_1_code 12 = .ok (.aload_n 0, 1) := by decide +kernel
theorem d_Jo_init_13 : decode prog_3_method_1_code 13 = .ok (.iconst 0, 1) := by decide +kernel
theorem d_Jo_init_14 : decode prog_3_method_1_code 14 = .ok (.putfield 15, 3) := by decide +kernel
theorem d_Jo_init_17 : decode prog_3_method_1_code 17 = .ok (.aload_n 0, 1) := by decide +kernel
theorem d_Jo_init_18 : decode prog_3_method_1_code 18 = .ok (.iconst 2, 1) := by decide +kernel
theorem d_Jo_init_19 : decode prog_3_method_1_code 19 = .ok (.newarray .int, 2) := by decide +kernel
theorem d_Jo_init_21 : decode prog_3_method_1_code 21 = .ok (.putfield 19, 3) := by decide +kernel
theorem d_Jo_init_24 : decode prog_3_method_1_code 24 = .ok (.aload_n 0, 1) := by decide +kernel
theorem d_Jo_init_25 : decode prog_3_method_1_code 25 = .ok (.iconst 0, 1) := by decide +kernel
theorem d_Jo_init_26 : decode prog_3_method_1_code 26 = .ok (.putfield 22, 3) := by decide +kernel
theorem d_Jo_init_29 : decode prog_3_method_1_code 29 = .ok (.aload_n 0, 1) := by decide +kernel
theorem d_Jo_init_30 : decode prog_3_method_1_code 30 = .ok (.iconst 0, 1) := by decide +kernel
theorem d_Jo_init_31 : decode prog_3_method_1_code 31 = .ok (.putfield 25, 3) := by decide +kernel
theorem d_Jo_init_34 : decode prog_3_method_1_code 34 = .ok (.aload_n 0, 1) := by decide +kernel
theorem d_Jo_init_35 : decode prog_3_method_1_code 35 = .ok (.iconst 0, 1) := by decide +kernel
theorem d_Jo_init_36 : decode prog_3_method_1_code 36 = .ok (.putfield 28, 3) := by decide +kernel
theorem d_Jo_init_39 : decode prog_3_method_1_code 39 = .ok (.aload_n 0, 1) := by decide +kernel
theorem d_Jo_init_40 : decode prog_3_method_1_code 40 = .ok (.aload_n 1, 1) := by decide +kernel
theorem d_Jo_init_41 : decode prog_3_method_1_code 41 = .ok (.putfield 31, 3) := by decide +kernel
theorem d_Jo_init_44 : decode prog_3_method_1_code 44 = .ok (.return_, 1) := by decide +kernel
def y_Jo_init : MethodName := ⟨"SensorTree$Journey", "<init>", "(LSensorTree$Net;)V"⟩
theorem hy_Jo_init : y_Jo_init.cls ≠ "java/lang/invoke/MethodHandle" ∧ y_Jo_init.cls ≠ "java/lang/invoke/VarHandle" ∧ (parseMethodDescriptor y_Jo_init.desc).map (fun d => d.parameters.length) = some 1 := by decide +kernel
abbrev rm_Jo_init : Room := { frames := 1, cells := 2, slots := 22, locals := 13 }
theorem lc_0 : (Jvm.Cond.methodLink "SensorTree$Tape" (3 : Nat) ({ cls := "java/lang/Object", name := "<init>", desc := "()V" } : Jvm.MethodName)) ∈ lw_g := lw_at 32 (by decide +kernel) (by decide +kernel)
theorem lc_1 : (Jvm.Cond.instanceMethod ({ cls := "java/lang/Object", name := "<init>", desc := "()V" } : Jvm.MethodName)) ∈ lw_g := lw_at 25 (by decide +kernel) (by decide +kernel)
set_option maxRecDepth 30000 in
theorem lc_2 : (Jvm.Cond.code ({ cls := "java/lang/Object", name := "<init>", desc := "()V" } : Jvm.MethodName) object_method_1_code (1 : Nat) (Option.none : Option Jvm.ClassFile.FieldType)) ∈ lw_g := lw_at 26 rfl (by decide +kernel)
theorem lc_3 : (Jvm.Cond.arrayClass Jvm.ClassFile.FieldType.byte) ∈ lw_g := lw_at 42 (by decide +kernel) (by decide +kernel)
theorem lc_4 : (Jvm.Cond.methodLink "SensorTree$Mail" (1 : Nat) ({ cls := "java/lang/Object", name := "<init>", desc := "()V" } : Jvm.MethodName)) ∈ lw_g := lw_at 186 (by decide +kernel) (by decide +kernel)
theorem lc_5 : (Jvm.Cond.arrayClass Jvm.ClassFile.FieldType.int) ∈ lw_g := lw_at 93 (by decide +kernel) (by decide +kernel)
theorem lc_6 : (Jvm.Cond.methodLink "SensorTree$Post" (3 : Nat) ({ cls := "java/lang/Object", name := "<init>", desc := "()V" } : Jvm.MethodName)) ∈ lw_g := lw_at 221 (by decide +kernel) (by decide +kernel)
theorem lc_7 : (Jvm.Cond.methodLink "SensorTree$Truth" (3 : Nat) ({ cls := "java/lang/Object", name := "<init>", desc := "()V" } : Jvm.MethodName)) ∈ lw_g := lw_at 389 (by decide +kernel) (by decide +kernel)
theorem lc_8 : (Jvm.Cond.methodLink "SensorTree$Journey" (3 : Nat) ({ cls := "java/lang/Object", name := "<init>", desc := "()V" } : Jvm.MethodName)) ∈ lw_g := lw_at 400 (by decide +kernel) (by decide +kernel)
set_option maxHeartbeats 4000000 in
set_option maxRecDepth 100000 in
theorem i_Ta (l : Launch) (K : sx_K) (h0 s0 : Nat) (hA0 : sx_A K h0) (hAS : ∀ j, j < 1 → sx_A K (s0 + j)) : ct_M l K y_Ta_init prog_9_method_1_code 1 rm_Ta_init [] h0 s0 (.inr (7, [.null, .int 0])) (fun _ => True) (.inr (7, [.ref (s0 + 0), .int 0])) [.inl (K.2.1 1, 2000, .inl (fun _ => 0))] := by
  refine ct_met (by decide) rfl (Nat.le_of_ble_eq_true rfl) (fun Y hC hin hN hE hz hG => ?_)
  refine sx_aload_n (pc2 := 1) (ct_at (a := 0) (c := 0) hC ⟨Nat.le_of_ble_eq_true rfl, Nat.le_of_ble_eq_true rfl⟩) 0 d_Ta_init_0 rfl rfl rfl ?_
  refine ct_obj (pc2 := 4) hC lc_0 lc_1 lc_2 ⟨Nat.le_of_ble_eq_true rfl, Nat.le_of_ble_eq_true rfl⟩ d_Ta_init_1 rfl ?_
  refine sx_aload_n (pc2 := 5) (ct_at (a := 0) (c := 0) hC ⟨Nat.le_of_ble_eq_true rfl, Nat.le_of_ble_eq_true rfl⟩) 0 d_Ta_init_4 rfl rfl rfl ?_
  refine sx_sipush (v := 2000) (pc2 := 8) (ct_at (a := 0) (c := 0) hC ⟨Nat.le_of_ble_eq_true rfl, Nat.le_of_ble_eq_true rfl⟩) d_Ta_init_5 (by decide) rfl ?_
  refine ct_newa (t0 := 1) (atype := .byte) (N := 2000) (a2 := 1) (c2 := 2000) (a0 := (2000, .inl (fun _ => 0))) (pc2 := 10) hC 0 lc_3 rfl rfl (fun _ => rfl) (by decide) (by decide) (Nat.le_of_ble_eq_true rfl) ⟨rfl, rfl⟩ ⟨Nat.le_of_ble_eq_true rfl, Nat.le_of_ble_eq_true rfl⟩ d_Ta_init_8 rfl rfl (es2 := [.inl (K.2.1 1, 2000, .inl (fun _ => 0))]) rfl ?_
  refine ct_put (pc2 := 13) hC kx_y7 kx_i7 kx_o7 kx_n7 rfl 0 (by decide) lk_723 rfl (Or.inr ⟨hin, rfl⟩) (kx_o7 0 (by decide)) rfl rfl (Nat.le_of_ble_eq_true rfl) d_Ta_init_10 rfl (fs2 := [.ref (s0 + 0), .int 0]) rfl ?_
  refine sx_aload_n (pc2 := 14) (ct_at (a := 1) (c := 2000) hC ⟨Nat.le_of_ble_eq_true rfl, Nat.le_of_ble_eq_true rfl⟩) 0 d_Ta_init_13 rfl rfl rfl ?_
  refine sx_iconst (v := 0) (pc2 := 15) (ct_at (a := 1) (c := 2000) hC ⟨Nat.le_of_ble_eq_true rfl, Nat.le_of_ble_eq_true rfl⟩) d_Ta_init_14 (by decide) rfl ?_
  refine ct_put (pc2 := 18) hC kx_y7 kx_i7 kx_o7 kx_n7 rfl 1 (by decide) lk_724 rfl (Or.inl rfl) (kx_o7 1 (by decide)) rfl rfl (Nat.le_of_ble_eq_true rfl) d_Ta_init_15 rfl (fs2 := [.ref (s0 + 0), .int 0]) rfl ?_
  exact ct_ret hC hE ⟨Nat.le_of_ble_eq_true rfl, Nat.le_of_ble_eq_true rfl⟩ d_Ta_init_18
set_option maxHeartbeats 4000000 in
set_option maxRecDepth 100000 in
theorem i_Ma (l : Launch) (K : sx_K) (h0 s0 : Nat) (hA0 : sx_A K h0) (hAS : ∀ j, j < 6 → sx_A K (s0 + j)) : ct_M l K y_Ma_init prog_4_method_1_code 1 rm_Ma_init [] h0 s0 (.inr (2, [.int 0, .null, .null, .null, .null, .null, .null])) (fun _ => True) (.inr (2, [.int 0, .ref (s0 + 0), .ref (s0 + 1), .ref (s0 + 2), .ref (s0 + 3), .ref (s0 + 4), .ref (s0 + 5)])) [.inl (K.2.1 0, 200, .inl (fun _ => 0)), .inl (K.2.1 0, 200, .inl (fun _ => 0)), .inl (K.2.1 0, 200, .inl (fun _ => 0)), .inl (K.2.1 0, 200, .inl (fun _ => 0)), .inl (K.2.1 0, 200, .inl (fun _ => 0)), .inl (K.2.1 0, 200, .inl (fun _ => 0))] := by
  refine ct_met (by decide) rfl (Nat.le_of_ble_eq_true rfl) (fun Y hC hin hN hE hz hG => ?_)
  refine sx_aload_n (pc2 := 1) (ct_at (a := 0) (c := 0) hC ⟨Nat.le_of_ble_eq_true rfl, Nat.le_of_ble_eq_true rfl⟩) 0 d_Ma_init_0 rfl rfl rfl ?_
  refine ct_obj (pc2 := 4) hC lc_4 lc_1 lc_2 ⟨Nat.le_of_ble_eq_true rfl, Nat.le_of_ble_eq_true rfl⟩ d_Ma_init_1 rfl ?_
  refine sx_aload_n (pc2 := 5) (ct_at (a := 0) (c := 0) hC ⟨Nat.le_of_ble_eq_true rfl, Nat.le_of_ble_eq_true rfl⟩) 0 d_Ma_init_4 rfl rfl rfl ?_
  refine sx_iconst (v := 0) (pc2 := 6) (ct_at (a := 0) (c := 0) hC ⟨Nat.le_of_ble_eq_true rfl, Nat.le_of_ble_eq_true rfl⟩) d_Ma_init_5 (by decide) rfl ?_
  refine ct_put (pc2 := 9) hC kx_y2 kx_i2 kx_o2 kx_n2 rfl 0 (by decide) lk_661 rfl (Or.inl rfl) (kx_o2 0 (by decide)) rfl rfl (Nat.le_of_ble_eq_true rfl) d_Ma_init_6 rfl (fs2 := [.int 0, .null, .null, .null, .null, .null, .null]) rfl ?_
  refine sx_aload_n (pc2 := 10) (ct_at (a := 0) (c := 0) hC ⟨Nat.le_of_ble_eq_true rfl, Nat.le_of_ble_eq_true rfl⟩) 0 d_Ma_init_9 rfl rfl rfl ?_
  refine sx_sipush (v := 200) (pc2 := 13) (ct_at (a := 0) (c := 0) hC ⟨Nat.le_of_ble_eq_true rfl, Nat.le_of_ble_eq_true rfl⟩) d_Ma_init_10 (by decide) rfl ?_
  refine ct_newa (t0 := 0) (atype := .int) (N := 200) (a2 := 1) (c2 := 200) (a0 := (200, .inl (fun _ => 0))) (pc2 := 15) hC 0 lc_5 rfl rfl (fun _ => rfl) (by decide) (by decide) (Nat.le_of_ble_eq_true rfl) ⟨rfl, rfl⟩ ⟨Nat.le_of_ble_eq_true rfl, Nat.le_of_ble_eq_true rfl⟩ d_Ma_init_13 rfl rfl (es2 := [.inl (K.2.1 0, 200, .inl (fun _ => 0))]) rfl ?_
  refine ct_put (pc2 := 18) hC kx_y2 kx_i2 kx_o2 kx_n2 rfl 1 (by decide) lk_662 rfl (Or.inr ⟨hin, rfl⟩) (kx_o2 1 (by decide)) rfl rfl (Nat.le_of_ble_eq_true rfl) d_Ma_init_15 rfl (fs2 := [.int 0, .ref (s0 + 0), .null, .null, .null, .null, .null]) rfl ?_
  refine sx_aload_n (pc2 := 19) (ct_at (a := 1) (c := 200) hC ⟨Nat.le_of_ble_eq_true rfl, Nat.le_of_ble_eq_true rfl⟩) 0 d_Ma_init_18 rfl rfl rfl ?_
  refine sx_sipush (v := 200) (pc2 := 22) (ct_at (a := 1) (c := 200) hC ⟨Nat.le_of_ble_eq_true rfl, Nat.le_of_ble_eq_true rfl⟩) d_Ma_init_19 (by decide) rfl ?_
  refine ct_newa (t0 := 0) (atype := .int) (N := 200) (a2 := 2) (c2 := 400) (a0 := (200, .inl (fun _ => 0))) (pc2 := 24) hC 1 lc_5 rfl rfl (fun _ => rfl) (by decide) (by decide) (Nat.le_of_ble_eq_true rfl) ⟨rfl, rfl⟩ ⟨Nat.le_of_ble_eq_true rfl, Nat.le_of_ble_eq_true rfl⟩ d_Ma_init_22 rfl rfl (es2 := [.inl (K.2.1 0, 200, .inl (fun _ => 0)), .inl (K.2.1 0, 200, .inl (fun _ => 0))]) rfl ?_
  refine ct_put (pc2 := 27) hC kx_y2 kx_i2 kx_o2 kx_n2 rfl 2 (by decide) lk_663 rfl (Or.inr ⟨hin, rfl⟩) (kx_o2 2 (by decide)) rfl rfl (Nat.le_of_ble_eq_true rfl) d_Ma_init_24 rfl (fs2 := [.int 0, .ref (s0 + 0), .ref (s0 + 1), .null, .null, .null, .null]) rfl ?_
  refine sx_aload_n (pc2 := 28) (ct_at (a := 2) (c := 400) hC ⟨Nat.le_of_ble_eq_true rfl, Nat.le_of_ble_eq_true rfl⟩) 0 d_Ma_init_27 rfl rfl rfl ?_
  refine sx_sipush (v := 200) (pc2 := 31) (ct_at (a := 2) (c := 400) hC ⟨Nat.le_of_ble_eq_true rfl, Nat.le_of_ble_eq_true rfl⟩) d_Ma_init_28 (by decide) rfl ?_
  refine ct_newa (t0 := 0) (atype := .int) (N := 200) (a2 := 3) (c2 := 600) (a0 := (200, .inl (fun _ => 0))) (pc2 := 33) hC 2 lc_5 rfl rfl (fun _ => rfl) (by decide) (by decide) (Nat.le_of_ble_eq_true rfl) ⟨rfl, rfl⟩ ⟨Nat.le_of_ble_eq_true rfl, Nat.le_of_ble_eq_true rfl⟩ d_Ma_init_31 rfl rfl (es2 := [.inl (K.2.1 0, 200, .inl (fun _ => 0)), .inl (K.2.1 0, 200, .inl (fun _ => 0)), .inl (K.2.1 0, 200, .inl (fun _ => 0))]) rfl ?_
  refine ct_put (pc2 := 36) hC kx_y2 kx_i2 kx_o2 kx_n2 rfl 3 (by decide) lk_664 rfl (Or.inr ⟨hin, rfl⟩) (kx_o2 3 (by decide)) rfl rfl (Nat.le_of_ble_eq_true rfl) d_Ma_init_33 rfl (fs2 := [.int 0, .ref (s0 + 0), .ref (s0 + 1), .ref (s0 + 2), .null, .null, .null]) rfl ?_
  refine sx_aload_n (pc2 := 37) (ct_at (a := 3) (c := 600) hC ⟨Nat.le_of_ble_eq_true rfl, Nat.le_of_ble_eq_true rfl⟩) 0 d_Ma_init_36 rfl rfl rfl ?_
  refine sx_sipush (v := 200) (pc2 := 40) (ct_at (a := 3) (c := 600) hC ⟨Nat.le_of_ble_eq_true rfl, Nat.le_of_ble_eq_true rfl⟩) d_Ma_init_37 (by decide) rfl ?_
  refine ct_newa (t0 := 0) (atype := .int) (N := 200) (a2 := 4) (c2 := 800) (a0 := (200, .inl (fun _ => 0))) (pc2 := 42) hC 3 lc_5 rfl rfl (fun _ => rfl) (by decide) (by decide) (Nat.le_of_ble_eq_true rfl) ⟨rfl, rfl⟩ ⟨Nat.le_of_ble_eq_true rfl, Nat.le_of_ble_eq_true rfl⟩ d_Ma_init_40 rfl rfl (es2 := [.inl (K.2.1 0, 200, .inl (fun _ => 0)), .inl (K.2.1 0, 200, .inl (fun _ => 0)), .inl (K.2.1 0, 200, .inl (fun _ => 0)), .inl (K.2.1 0, 200, .inl (fun _ => 0))]) rfl ?_
  refine ct_put (pc2 := 45) hC kx_y2 kx_i2 kx_o2 kx_n2 rfl 4 (by decide) lk_665 rfl (Or.inr ⟨hin, rfl⟩) (kx_o2 4 (by decide)) rfl rfl (Nat.le_of_ble_eq_true rfl) d_Ma_init_42 rfl (fs2 := [.int 0, .ref (s0 + 0), .ref (s0 + 1), .ref (s0 + 2), .ref (s0 + 3), .null, .null]) rfl ?_
  refine sx_aload_n (pc2 := 46) (ct_at (a := 4) (c := 800) hC ⟨Nat.le_of_ble_eq_true rfl, Nat.le_of_ble_eq_true rfl⟩) 0 d_Ma_init_45 rfl rfl rfl ?_
  refine sx_sipush (v := 200) (pc2 := 49) (ct_at (a := 4) (c := 800) hC ⟨Nat.le_of_ble_eq_true rfl, Nat.le_of_ble_eq_true rfl⟩) d_Ma_init_46 (by decide) rfl ?_
  refine ct_newa (t0 := 0) (atype := .int) (N := 200) (a2 := 5) (c2 := 1000) (a0 := (200, .inl (fun _ => 0))) (pc2 := 51) hC 4 lc_5 rfl rfl (fun _ => rfl) (by decide) (by decide) (Nat.le_of_ble_eq_true rfl) ⟨rfl, rfl⟩ ⟨Nat.le_of_ble_eq_true rfl, Nat.le_of_ble_eq_true rfl⟩ d_Ma_init_49 rfl rfl (es2 := [.inl (K.2.1 0, 200, .inl (fun _ => 0)), .inl (K.2.1 0, 200, .inl (fun _ => 0)), .inl (K.2.1 0, 200, .inl (fun _ => 0)), .inl (K.2.1 0, 200, .inl (fun _ => 0)), .inl (K.2.1 0, 200, .inl (fun _ => 0))]) rfl ?_
  refine ct_put (pc2 := 54) hC kx_y2 kx_i2 kx_o2 kx_n2 rfl 5 (by decide) lk_666 rfl (Or.inr ⟨hin, rfl⟩) (kx_o2 5 (by decide)) rfl rfl (Nat.le_of_ble_eq_true rfl) d_Ma_init_51 rfl (fs2 := [.int 0, .ref (s0 + 0), .ref (s0 + 1), .ref (s0 + 2), .ref (s0 + 3), .ref (s0 + 4), .null]) rfl ?_
  refine sx_aload_n (pc2 := 55) (ct_at (a := 5) (c := 1000) hC ⟨Nat.le_of_ble_eq_true rfl, Nat.le_of_ble_eq_true rfl⟩) 0 d_Ma_init_54 rfl rfl rfl ?_
  refine sx_sipush (v := 200) (pc2 := 58) (ct_at (a := 5) (c := 1000) hC ⟨Nat.le_of_ble_eq_true rfl, Nat.le_of_ble_eq_true rfl⟩) d_Ma_init_55 (by decide) rfl ?_
  refine ct_newa (t0 := 0) (atype := .int) (N := 200) (a2 := 6) (c2 := 1200) (a0 := (200, .inl (fun _ => 0))) (pc2 := 60) hC 5 lc_5 rfl rfl (fun _ => rfl) (by decide) (by decide) (Nat.le_of_ble_eq_true rfl) ⟨rfl, rfl⟩ ⟨Nat.le_of_ble_eq_true rfl, Nat.le_of_ble_eq_true rfl⟩ d_Ma_init_58 rfl rfl (es2 := [.inl (K.2.1 0, 200, .inl (fun _ => 0)), .inl (K.2.1 0, 200, .inl (fun _ => 0)), .inl (K.2.1 0, 200, .inl (fun _ => 0)), .inl (K.2.1 0, 200, .inl (fun _ => 0)), .inl (K.2.1 0, 200, .inl (fun _ => 0)), .inl (K.2.1 0, 200, .inl (fun _ => 0))]) rfl ?_
  refine ct_put (pc2 := 63) hC kx_y2 kx_i2 kx_o2 kx_n2 rfl 6 (by decide) lk_667 rfl (Or.inr ⟨hin, rfl⟩) (kx_o2 6 (by decide)) rfl rfl (Nat.le_of_ble_eq_true rfl) d_Ma_init_60 rfl (fs2 := [.int 0, .ref (s0 + 0), .ref (s0 + 1), .ref (s0 + 2), .ref (s0 + 3), .ref (s0 + 4), .ref (s0 + 5)]) rfl ?_
  exact ct_ret hC hE ⟨Nat.le_of_ble_eq_true rfl, Nat.le_of_ble_eq_true rfl⟩ d_Ma_init_63
set_option maxHeartbeats 4000000 in
set_option maxRecDepth 100000 in
theorem i_Po (l : Launch) (K : sx_K) (h0 s0 : Nat) (hA0 : sx_A K h0) (hAS : ∀ j, j < 3 → sx_A K (s0 + j)) : ct_M l K y_Po_init prog_7_method_1_code 1 rm_Po_init [] h0 s0 (.inr (5, [.int 0, .int 0, .int 0, .int 0, .int 0, .int 0, .int 0, .int 0, .int 0, .int 0, .int 0, .null, .null, .null])) (fun _ => True) (.inr (5, [.int 0, .int 0, .int 0, .int 0, .int 0, .int 0, .int 0, .int 0, .int 0, .int 0, .int 0, .ref (s0 + 0), .ref (s0 + 1), .ref (s0 + 2)])) [.inl (K.2.1 0, 7, .inl (fun _ => 0)), .inl (K.2.1 0, 7, .inl (fun _ => 0)), .inl (K.2.1 0, 7, .inl (fun _ => 0))] := by
  refine ct_met (by decide) rfl (Nat.le_of_ble_eq_true rfl) (fun Y hC hin hN hE hz hG => ?_)
  refine sx_aload_n (pc2 := 1) (ct_at (a := 0) (c := 0) hC ⟨Nat.le_of_ble_eq_true rfl, Nat.le_of_ble_eq_true rfl⟩) 0 d_Po_init_0 rfl rfl rfl ?_
  refine ct_obj (pc2 := 4) hC lc_6 lc_1 lc_2 ⟨Nat.le_of_ble_eq_true rfl, Nat.le_of_ble_eq_true rfl⟩ d_Po_init_1 rfl ?_
  refine sx_aload_n (pc2 := 5) (ct_at (a := 0) (c := 0) hC ⟨Nat.le_of_ble_eq_true rfl, Nat.le_of_ble_eq_true rfl⟩) 0 d_Po_init_4 rfl rfl rfl ?_
  refine sx_bipush (v := 7) (pc2 := 7) (ct_at (a := 0) (c := 0) hC ⟨Nat.le_of_ble_eq_true rfl, Nat.le_of_ble_eq_true rfl⟩) d_Po_init_5 (by decide) rfl ?_
  refine ct_newa (t0 := 0) (atype := .int) (N := 7) (a2 := 1) (c2 := 7) (a0 := (7, .inl (fun _ => 0))) (pc2 := 9) hC 0 lc_5 rfl rfl (fun _ => rfl) (by decide) (by decide) (Nat.le_of_ble_eq_true rfl) ⟨rfl, rfl⟩ ⟨Nat.le_of_ble_eq_true rfl, Nat.le_of_ble_eq_true rfl⟩ d_Po_init_7 rfl rfl (es2 := [.inl (K.2.1 0, 7, .inl (fun _ => 0))]) rfl ?_
  refine ct_put (pc2 := 12) hC kx_y5 kx_i5 kx_o5 kx_n5 rfl 11 (by decide) lk_697 rfl (Or.inr ⟨hin, rfl⟩) (kx_o5 11 (by decide)) rfl rfl (Nat.le_of_ble_eq_true rfl) d_Po_init_9 rfl (fs2 := [.int 0, .int 0, .int 0, .int 0, .int 0, .int 0, .int 0, .int 0, .int 0, .int 0, .int 0, .ref (s0 + 0), .null, .null]) rfl ?_
  refine sx_aload_n (pc2 := 13) (ct_at (a := 1) (c := 7) hC ⟨Nat.le_of_ble_eq_true rfl, Nat.le_of_ble_eq_true rfl⟩) 0 d_Po_init_12 rfl rfl rfl ?_
  refine sx_bipush (v := 7) (pc2 := 15) (ct_at (a := 1) (c := 7) hC ⟨Nat.le_of_ble_eq_true rfl, Nat.le_of_ble_eq_true rfl⟩) d_Po_init_13 (by decide) rfl ?_
  refine ct_newa (t0 := 0) (atype := .int) (N := 7) (a2 := 2) (c2 := 14) (a0 := (7, .inl (fun _ => 0))) (pc2 := 17) hC 1 lc_5 rfl rfl (fun _ => rfl) (by decide) (by decide) (Nat.le_of_ble_eq_true rfl) ⟨rfl, rfl⟩ ⟨Nat.le_of_ble_eq_true rfl, Nat.le_of_ble_eq_true rfl⟩ d_Po_init_15 rfl rfl (es2 := [.inl (K.2.1 0, 7, .inl (fun _ => 0)), .inl (K.2.1 0, 7, .inl (fun _ => 0))]) rfl ?_
  refine ct_put (pc2 := 20) hC kx_y5 kx_i5 kx_o5 kx_n5 rfl 12 (by decide) lk_698 rfl (Or.inr ⟨hin, rfl⟩) (kx_o5 12 (by decide)) rfl rfl (Nat.le_of_ble_eq_true rfl) d_Po_init_17 rfl (fs2 := [.int 0, .int 0, .int 0, .int 0, .int 0, .int 0, .int 0, .int 0, .int 0, .int 0, .int 0, .ref (s0 + 0), .ref (s0 + 1), .null]) rfl ?_
  refine sx_aload_n (pc2 := 21) (ct_at (a := 2) (c := 14) hC ⟨Nat.le_of_ble_eq_true rfl, Nat.le_of_ble_eq_true rfl⟩) 0 d_Po_init_20 rfl rfl rfl ?_
  refine sx_bipush (v := 7) (pc2 := 23) (ct_at (a := 2) (c := 14) hC ⟨Nat.le_of_ble_eq_true rfl, Nat.le_of_ble_eq_true rfl⟩) d_Po_init_21 (by decide) rfl ?_
  refine ct_newa (t0 := 0) (atype := .int) (N := 7) (a2 := 3) (c2 := 21) (a0 := (7, .inl (fun _ => 0))) (pc2 := 25) hC 2 lc_5 rfl rfl (fun _ => rfl) (by decide) (by decide) (Nat.le_of_ble_eq_true rfl) ⟨rfl, rfl⟩ ⟨Nat.le_of_ble_eq_true rfl, Nat.le_of_ble_eq_true rfl⟩ d_Po_init_23 rfl rfl (es2 := [.inl (K.2.1 0, 7, .inl (fun _ => 0)), .inl (K.2.1 0, 7, .inl (fun _ => 0)), .inl (K.2.1 0, 7, .inl (fun _ => 0))]) rfl ?_
  refine ct_put (pc2 := 28) hC kx_y5 kx_i5 kx_o5 kx_n5 rfl 13 (by decide) lk_699 rfl (Or.inr ⟨hin, rfl⟩) (kx_o5 13 (by decide)) rfl rfl (Nat.le_of_ble_eq_true rfl) d_Po_init_25 rfl (fs2 := [.int 0, .int 0, .int 0, .int 0, .int 0, .int 0, .int 0, .int 0, .int 0, .int 0, .int 0, .ref (s0 + 0), .ref (s0 + 1), .ref (s0 + 2)]) rfl ?_
  exact ct_ret hC hE ⟨Nat.le_of_ble_eq_true rfl, Nat.le_of_ble_eq_true rfl⟩ d_Po_init_28
set_option maxHeartbeats 4000000 in
set_option maxRecDepth 100000 in
theorem i_Tr (l : Launch) (K : sx_K) (h0 s0 : Nat) (hA0 : sx_A K h0) (hAS : ∀ j, j < 1 → sx_A K (s0 + j)) : ct_M l K y_Tr_init prog_11_method_1_code 1 rm_Tr_init [] h0 s0 (.inr (9, [.null])) (fun _ => True) (.inr (9, [.ref (s0 + 0)])) [.inl (K.2.1 0, 7, .inl (fun _ => 0))] := by
  refine ct_met (by decide) rfl (Nat.le_of_ble_eq_true rfl) (fun Y hC hin hN hE hz hG => ?_)
  refine sx_aload_n (pc2 := 1) (ct_at (a := 0) (c := 0) hC ⟨Nat.le_of_ble_eq_true rfl, Nat.le_of_ble_eq_true rfl⟩) 0 d_Tr_init_0 rfl rfl rfl ?_
  refine ct_obj (pc2 := 4) hC lc_7 lc_1 lc_2 ⟨Nat.le_of_ble_eq_true rfl, Nat.le_of_ble_eq_true rfl⟩ d_Tr_init_1 rfl ?_
  refine sx_aload_n (pc2 := 5) (ct_at (a := 0) (c := 0) hC ⟨Nat.le_of_ble_eq_true rfl, Nat.le_of_ble_eq_true rfl⟩) 0 d_Tr_init_4 rfl rfl rfl ?_
  refine sx_bipush (v := 7) (pc2 := 7) (ct_at (a := 0) (c := 0) hC ⟨Nat.le_of_ble_eq_true rfl, Nat.le_of_ble_eq_true rfl⟩) d_Tr_init_5 (by decide) rfl ?_
  refine ct_newa (t0 := 0) (atype := .int) (N := 7) (a2 := 1) (c2 := 7) (a0 := (7, .inl (fun _ => 0))) (pc2 := 9) hC 0 lc_5 rfl rfl (fun _ => rfl) (by decide) (by decide) (Nat.le_of_ble_eq_true rfl) ⟨rfl, rfl⟩ ⟨Nat.le_of_ble_eq_true rfl, Nat.le_of_ble_eq_true rfl⟩ d_Tr_init_7 rfl rfl (es2 := [.inl (K.2.1 0, 7, .inl (fun _ => 0))]) rfl ?_
  refine ct_put (pc2 := 12) hC kx_y9 kx_i9 kx_o9 kx_n9 rfl 0 (by decide) lk_735 rfl (Or.inr ⟨hin, rfl⟩) (kx_o9 0 (by decide)) rfl rfl (Nat.le_of_ble_eq_true rfl) d_Tr_init_9 rfl (fs2 := [.ref (s0 + 0)]) rfl ?_
  exact ct_ret hC hE ⟨Nat.le_of_ble_eq_true rfl, Nat.le_of_ble_eq_true rfl⟩ d_Tr_init_12
set_option maxHeartbeats 4000000 in
set_option maxRecDepth 100000 in
theorem i_Jo (l : Launch) (K : sx_K) (h0 s0 : Nat) (nt : Nat) (hA0 : sx_A K h0) (hAS : ∀ j, j < 2 → sx_A K (s0 + j)) : ct_M l K y_Jo_init prog_3_method_1_code 2 rm_Jo_init [.ref nt] h0 s0 (.inr (1, [.null, .null, .int 0, .null, .int 0, .int 0, .int 0])) (fun _ => True) (.inr (1, [.ref nt, .ref (s0 + 0), .int 0, .ref (s0 + 1), .int 0, .int 0, .int 0])) [.inl (K.2.1 0, 20, .inl (fun _ => 0)), .inl (K.2.1 0, 2, .inl (fun _ => 0))] := by
  refine ct_met (by decide) rfl (Nat.le_of_ble_eq_true rfl) (fun Y hC hin hN hE hz hG => ?_)
  refine sx_aload_n (pc2 := 1) (ct_at (a := 0) (c := 0) hC ⟨Nat.le_of_ble_eq_true rfl, Nat.le_of_ble_eq_true rfl⟩) 0 d_Jo_init_0 rfl rfl rfl ?_
  refine ct_obj (pc2 := 4) hC lc_8 lc_1 lc_2 ⟨Nat.le_of_ble_eq_true rfl, Nat.le_of_ble_eq_true rfl⟩ d_Jo_init_1 rfl ?_
  refine sx_aload_n (pc2 := 5) (ct_at (a := 0) (c := 0) hC ⟨Nat.le_of_ble_eq_true rfl, Nat.le_of_ble_eq_true rfl⟩) 0 d_Jo_init_4 rfl rfl rfl ?_
  refine sx_bipush (v := 20) (pc2 := 7) (ct_at (a := 0) (c := 0) hC ⟨Nat.le_of_ble_eq_true rfl, Nat.le_of_ble_eq_true rfl⟩) d_Jo_init_5 (by decide) rfl ?_
  refine ct_newa (t0 := 0) (atype := .int) (N := 20) (a2 := 1) (c2 := 20) (a0 := (20, .inl (fun _ => 0))) (pc2 := 9) hC 0 lc_5 rfl rfl (fun _ => rfl) (by decide) (by decide) (Nat.le_of_ble_eq_true rfl) ⟨rfl, rfl⟩ ⟨Nat.le_of_ble_eq_true rfl, Nat.le_of_ble_eq_true rfl⟩ d_Jo_init_7 rfl rfl (es2 := [.inl (K.2.1 0, 20, .inl (fun _ => 0))]) rfl ?_
  refine ct_put (pc2 := 12) hC kx_y1 kx_i1 kx_o1 kx_n1 rfl 1 (by decide) lk_651 rfl (Or.inr ⟨hin, rfl⟩) (kx_o1 1 (by decide)) rfl rfl (Nat.le_of_ble_eq_true rfl) d_Jo_init_9 rfl (fs2 := [.null, .ref (s0 + 0), .int 0, .null, .int 0, .int 0, .int 0]) rfl ?_
  refine sx_aload_n (pc2 := 13) (ct_at (a := 1) (c := 20) hC ⟨Nat.le_of_ble_eq_true rfl, Nat.le_of_ble_eq_true rfl⟩) 0 d_Jo_init_12 rfl rfl rfl ?_
  refine sx_iconst (v := 0) (pc2 := 14) (ct_at (a := 1) (c := 20) hC ⟨Nat.le_of_ble_eq_true rfl, Nat.le_of_ble_eq_true rfl⟩) d_Jo_init_13 (by decide) rfl ?_
  refine ct_put (pc2 := 17) hC kx_y1 kx_i1 kx_o1 kx_n1 rfl 2 (by decide) lk_652 rfl (Or.inl rfl) (kx_o1 2 (by decide)) rfl rfl (Nat.le_of_ble_eq_true rfl) d_Jo_init_14 rfl (fs2 := [.null, .ref (s0 + 0), .int 0, .null, .int 0, .int 0, .int 0]) rfl ?_
  refine sx_aload_n (pc2 := 18) (ct_at (a := 1) (c := 20) hC ⟨Nat.le_of_ble_eq_true rfl, Nat.le_of_ble_eq_true rfl⟩) 0 d_Jo_init_17 rfl rfl rfl ?_
  refine sx_iconst (v := 2) (pc2 := 19) (ct_at (a := 1) (c := 20) hC ⟨Nat.le_of_ble_eq_true rfl, Nat.le_of_ble_eq_true rfl⟩) d_Jo_init_18 (by decide) rfl ?_
  refine ct_newa (t0 := 0) (atype := .int) (N := 2) (a2 := 2) (c2 := 22) (a0 := (2, .inl (fun _ => 0))) (pc2 := 21) hC 1 lc_5 rfl rfl (fun _ => rfl) (by decide) (by decide) (Nat.le_of_ble_eq_true rfl) ⟨rfl, rfl⟩ ⟨Nat.le_of_ble_eq_true rfl, Nat.le_of_ble_eq_true rfl⟩ d_Jo_init_19 rfl rfl (es2 := [.inl (K.2.1 0, 20, .inl (fun _ => 0)), .inl (K.2.1 0, 2, .inl (fun _ => 0))]) rfl ?_
  refine ct_put (pc2 := 24) hC kx_y1 kx_i1 kx_o1 kx_n1 rfl 3 (by decide) lk_653 rfl (Or.inr ⟨hin, rfl⟩) (kx_o1 3 (by decide)) rfl rfl (Nat.le_of_ble_eq_true rfl) d_Jo_init_21 rfl (fs2 := [.null, .ref (s0 + 0), .int 0, .ref (s0 + 1), .int 0, .int 0, .int 0]) rfl ?_
  refine sx_aload_n (pc2 := 25) (ct_at (a := 2) (c := 22) hC ⟨Nat.le_of_ble_eq_true rfl, Nat.le_of_ble_eq_true rfl⟩) 0 d_Jo_init_24 rfl rfl rfl ?_
  refine sx_iconst (v := 0) (pc2 := 26) (ct_at (a := 2) (c := 22) hC ⟨Nat.le_of_ble_eq_true rfl, Nat.le_of_ble_eq_true rfl⟩) d_Jo_init_25 (by decide) rfl ?_
  refine ct_put (pc2 := 29) hC kx_y1 kx_i1 kx_o1 kx_n1 rfl 4 (by decide) lk_654 rfl (Or.inl rfl) (kx_o1 4 (by decide)) rfl rfl (Nat.le_of_ble_eq_true rfl) d_Jo_init_26 rfl (fs2 := [.null, .ref (s0 + 0), .int 0, .ref (s0 + 1), .int 0, .int 0, .int 0]) rfl ?_
  refine sx_aload_n (pc2 := 30) (ct_at (a := 2) (c := 22) hC ⟨Nat.le_of_ble_eq_true rfl, Nat.le_of_ble_eq_true rfl⟩) 0 d_Jo_init_29 rfl rfl rfl ?_
  refine sx_iconst (v := 0) (pc2 := 31) (ct_at (a := 2) (c := 22) hC ⟨Nat.le_of_ble_eq_true rfl, Nat.le_of_ble_eq_true rfl⟩) d_Jo_init_30 (by decide) rfl ?_
  refine ct_put (pc2 := 34) hC kx_y1 kx_i1 kx_o1 kx_n1 rfl 5 (by decide) lk_655 rfl (Or.inl rfl) (kx_o1 5 (by decide)) rfl rfl (Nat.le_of_ble_eq_true rfl) d_Jo_init_31 rfl (fs2 := [.null, .ref (s0 + 0), .int 0, .ref (s0 + 1), .int 0, .int 0, .int 0]) rfl ?_
  refine sx_aload_n (pc2 := 35) (ct_at (a := 2) (c := 22) hC ⟨Nat.le_of_ble_eq_true rfl, Nat.le_of_ble_eq_true rfl⟩) 0 d_Jo_init_34 rfl rfl rfl ?_
  refine sx_iconst (v := 0) (pc2 := 36) (ct_at (a := 2) (c := 22) hC ⟨Nat.le_of_ble_eq_true rfl, Nat.le_of_ble_eq_true rfl⟩) d_Jo_init_35 (by decide) rfl ?_
  refine ct_put (pc2 := 39) hC kx_y1 kx_i1 kx_o1 kx_n1 rfl 6 (by decide) lk_788 rfl (Or.inl rfl) (kx_o1 6 (by decide)) rfl rfl (Nat.le_of_ble_eq_true rfl) d_Jo_init_36 rfl (fs2 := [.null, .ref (s0 + 0), .int 0, .ref (s0 + 1), .int 0, .int 0, .int 0]) rfl ?_
  refine sx_aload_n (pc2 := 40) (ct_at (a := 2) (c := 22) hC ⟨Nat.le_of_ble_eq_true rfl, Nat.le_of_ble_eq_true rfl⟩) 0 d_Jo_init_39 rfl rfl rfl ?_
  refine sx_aload_n (pc2 := 41) (ct_at (a := 2) (c := 22) hC ⟨Nat.le_of_ble_eq_true rfl, Nat.le_of_ble_eq_true rfl⟩) 1 d_Jo_init_40 rfl rfl rfl ?_
  refine ct_put (pc2 := 44) hC kx_y1 kx_i1 kx_o1 kx_n1 rfl 0 (by decide) lk_656 rfl (Or.inr ⟨hin, rfl⟩) (kx_o1 0 (by decide)) rfl rfl (Nat.le_of_ble_eq_true rfl) d_Jo_init_41 rfl (fs2 := [.ref nt, .ref (s0 + 0), .int 0, .ref (s0 + 1), .int 0, .int 0, .int 0]) rfl ?_
  exact ct_ret hC hE ⟨Nat.le_of_ble_eq_true rfl, Nat.le_of_ble_eq_true rfl⟩ d_Jo_init_44
